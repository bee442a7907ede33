section
theorem qs_bite0 {D : zD} {T : zT} (hT : hTab T) (hO : vOK T) {N : Nat} {h : zH} {Q : zR → Prop} {P : PT} (x y z : Int) (hv0 : zHv h) (p0 : h 126 0 = (0, P 0 0)) (p1 : h 126 1 = (0, P 0 1)) (p2 : h 126 2 = (0, P 0 2)) (p3 : h 126 3 = (0, P 0 3)) (lb : (0 ≤ P 0 0 ∧ P 0 0 ≤ 8) ∧ (0 ≤ P 0 1 ∧ P 0 1 ≤ 6) ∧ (0 ≤ P 0 2 ∧ P 0 2 ≤ 3) ∧ (0 ≤ P 0 3 ∧ P 0 3 ≤ 6))
    (k0 : (x < 0) → Q (zset (zset (zset h 121 1 (0, 0)) 121 0 (0, 0)) 121 0 (0, 2), some (0, -1)))
    (k1 : (0 ≤ x) → (((P 0 2) - 1) < x) → Q (zset (zset (zset h 121 1 (0, 0)) 121 0 (0, 0)) 121 0 (0, 2), some (0, -1)))
    (k2 : (0 ≤ x) → (x ≤ ((P 0 2) - 1)) → (y < 0) → Q (zset (zset (zset h 121 1 (0, 0)) 121 0 (0, 0)) 121 0 (0, 2), some (0, -1)))
    (k3 : (0 ≤ x) → (x ≤ ((P 0 2) - 1)) → (0 ≤ y) → (((P 0 0) - 1) < y) → Q (zset (zset (zset h 121 1 (0, 0)) 121 0 (0, 0)) 121 0 (0, 2), some (0, -1)))
    (k4 : (0 ≤ x) → (x ≤ ((P 0 2) - 1)) → (0 ≤ y) → (y ≤ ((P 0 0) - 1)) → (z < 0) → Q (zset (zset (zset h 121 1 (0, 0)) 121 0 (0, 0)) 121 0 (0, 2), some (0, -1)))
    (k5 : (0 ≤ x) → (x ≤ ((P 0 2) - 1)) → (0 ≤ y) → (y ≤ ((P 0 0) - 1)) → (0 ≤ z) → (((P 0 1) - 1) < z) → Q (zset (zset (zset h 121 1 (0, 0)) 121 0 (0, 0)) 121 0 (0, 2), some (0, -1)))
    (k6 : (0 ≤ x) → (x ≤ ((P 0 2) - 1)) → (0 ≤ y) → (y ≤ ((P 0 0) - 1)) → (0 ≤ z) → (z ≤ ((P 0 1) - 1)) → vP D T N 202 33 (zset (zset h 121 1 (0, 0)) 121 0 (0, 0)) [some (2, 121), some (0, x), some (0, y), some (0, z), none] [] Q) :
    vP D T N 202 0 h [some (2, 121), some (0, x), some (0, y), some (0, z), none] [] Q := by
  refine v_load (v := (2, 121)) (hz_X12_bite hT _ _ rfl) rfl rfl ?_
  refine v_push (0) (hz_X12_bite hT _ _ rfl) rfl ?_
  refine v_putf (r := 121) hO (hz_X12_bite hT _ _ rfl) rfl (fun hf1 => ?_)
  refine v_load (v := (2, 121)) (hz_X12_bite hT _ _ rfl) rfl rfl ?_
  refine v_push (0) (hz_X12_bite hT _ _ rfl) rfl ?_
  refine v_putf (r := 121) hO (hz_X12_bite hT _ _ rfl) rfl (fun hf2 => ?_)
  refine v_load (v := (2, 121)) (hz_X12_bite hT _ _ rfl) rfl rfl ?_
  refine v_load (v := (0, x)) (hz_X12_bite hT _ _ rfl) rfl rfl ?_
  refine v_call (w := 2) [some (2, 121), some (0, x)] hO (hz_X12_bite hT _ _ rfl) rfl rfl ?_
  refine v_load (v := (0, x)) (hi_X12_isCopy_0 hT) rfl rfl ?_
  refine v_i2l (hi_X12_isCopy_1 hT) ?_
  refine v_push (0) (hi_X12_isCopy_2 hT) rfl ?_
  refine v_load (v := (2, 121)) (hi_X12_isCopy_3 hT) rfl rfl ?_
  refine v_getR (c := 126) (r := 121) (hi_X12_isCopy_4 hT) rfl rfl rfl ?_
  refine v_push (2) (hi_X12_isCopy_7 hT) rfl ?_
  refine v_aldV (v := (0, (P 0 2))) (r := 126) (hi_X12_isCopy_8 hT) rfl rfl (fun _ _ _ => (Eq.trans (Eq.trans (zset_ne (fun c => absurd c.1 (by decide))) (zset_ne (fun c => absurd c.1 (by decide)))) (p2))) (fun ha3 hb4 => ?_)
  refine v_push (1) (hi_X12_isCopy_9 hT) rfl ?_
  refine v_bin (w := ((P 0 2) - 1)) (hi_X12_isCopy_10 hT) (hq_sub (by omega) (by omega)) ?_
  refine v_i2l (hi_X12_isCopy_11 hT) ?_
  refine v_call (w := 6) [some (1, x), none, some (1, 0), none, some (1, ((P 0 2) - 1)), none] hO (hi_X12_isCopy_12 hT) rfl rfl ?_
  refine v_load (v := (1, x)) (hi_X12_isIn_0 hT) rfl rfl ?_
  refine v_load (v := (1, 0)) (hi_X12_isIn_1 hT) rfl rfl ?_
  refine v_lif (hi_X12_isIn_2 hT) (hi_X12_isIn_3 hT) (fun hc5 => ?_) (fun hc5 => ?_)
  · have hc5 : x < 0 := hc5
    refine v_push (0) (hi_X12_isIn_17 hT) rfl ?_
    refine v_ret (hi_X12_isIn_18 hT) (Or.inl rfl) ?_
    show vP D T N 248 15 (zset (zset h 121 1 (0, 0)) 121 0 (0, 0)) [some (2, 121), some (0, x)] [(0, 0)] _
    refine v_ret (hi_X12_isCopy_15 hT) (Or.inl rfl) ?_
    show vP D T N 202 15 (zset (zset h 121 1 (0, 0)) 121 0 (0, 0)) [some (2, 121), some (0, x), some (0, y), some (0, z), none] [(0, 0)] _
    refine v_if (hz_X12_bite hT _ _ rfl) (fun _ => ?_) (fun hc6 => absurd (show (0 : Int) = 0 from (by decide)) hc6)
    refine v_load (v := (2, 121)) (hi_X12_bite_27 hT) rfl rfl ?_
    refine v_push (2) (hi_X12_bite_28 hT) rfl ?_
    refine v_call (w := 2) [some (2, 121), some (0, 2)] hO (hi_X12_bite_29 hT) rfl rfl ?_
    refine v_load (v := (2, 121)) (hi_X12_refuse_0 hT) rfl rfl ?_
    refine v_load (v := (0, 2)) (hi_X12_refuse_1 hT) rfl rfl ?_
    refine v_putf (r := 121) hO (hi_X12_refuse_2 hT) rfl (fun hf7 => ?_)
    refine v_push (-1) (hi_X12_refuse_5 hT) rfl ?_
    refine v_ret (hi_X12_refuse_6 hT) (Or.inl rfl) ?_
    show vP D T N 202 32 (zset (zset (zset h 121 1 (0, 0)) 121 0 (0, 0)) 121 0 (0, 2)) [some (2, 121), some (0, x), some (0, y), some (0, z), none] [(0, -1)] _
    refine v_ret (hi_X12_bite_32 hT) (Or.inl rfl) ?_
    exact k0 hc5
  · have hc5 : 0 ≤ x := Int.not_lt.mp hc5
    refine v_load (v := (1, x)) (hi_X12_isIn_6 hT) rfl rfl ?_
    refine v_load (v := (1, ((P 0 2) - 1))) (hi_X12_isIn_7 hT) rfl rfl ?_
    refine v_lif (hi_X12_isIn_9 hT) (hi_X12_isIn_10 hT) (fun hc8 => ?_) (fun hc8 => ?_)
    · have hc8 : ((P 0 2) - 1) < x := hc8
      refine v_push (0) (hi_X12_isIn_17 hT) rfl ?_
      refine v_ret (hi_X12_isIn_18 hT) (Or.inl rfl) ?_
      show vP D T N 248 15 (zset (zset h 121 1 (0, 0)) 121 0 (0, 0)) [some (2, 121), some (0, x)] [(0, 0)] _
      refine v_ret (hi_X12_isCopy_15 hT) (Or.inl rfl) ?_
      show vP D T N 202 15 (zset (zset h 121 1 (0, 0)) 121 0 (0, 0)) [some (2, 121), some (0, x), some (0, y), some (0, z), none] [(0, 0)] _
      refine v_if (hz_X12_bite hT _ _ rfl) (fun _ => ?_) (fun hc9 => absurd (show (0 : Int) = 0 from (by decide)) hc9)
      refine v_load (v := (2, 121)) (hi_X12_bite_27 hT) rfl rfl ?_
      refine v_push (2) (hi_X12_bite_28 hT) rfl ?_
      refine v_call (w := 2) [some (2, 121), some (0, 2)] hO (hi_X12_bite_29 hT) rfl rfl ?_
      refine v_load (v := (2, 121)) (hi_X12_refuse_0 hT) rfl rfl ?_
      refine v_load (v := (0, 2)) (hi_X12_refuse_1 hT) rfl rfl ?_
      refine v_putf (r := 121) hO (hi_X12_refuse_2 hT) rfl (fun hf10 => ?_)
      refine v_push (-1) (hi_X12_refuse_5 hT) rfl ?_
      refine v_ret (hi_X12_refuse_6 hT) (Or.inl rfl) ?_
      show vP D T N 202 32 (zset (zset (zset h 121 1 (0, 0)) 121 0 (0, 0)) 121 0 (0, 2)) [some (2, 121), some (0, x), some (0, y), some (0, z), none] [(0, -1)] _
      refine v_ret (hi_X12_bite_32 hT) (Or.inl rfl) ?_
      exact k1 hc5 hc8
    · have hc8 : x ≤ ((P 0 2) - 1) := Int.not_lt.mp hc8
      refine v_push (1) (hi_X12_isIn_13 hT) rfl ?_
      refine v_goto (hi_X12_isIn_14 hT) ?_
      refine v_ret (hi_X12_isIn_18 hT) (Or.inl rfl) ?_
      show vP D T N 248 15 (zset (zset h 121 1 (0, 0)) 121 0 (0, 0)) [some (2, 121), some (0, x)] [(0, 1)] _
      refine v_ret (hi_X12_isCopy_15 hT) (Or.inl rfl) ?_
      show vP D T N 202 15 (zset (zset h 121 1 (0, 0)) 121 0 (0, 0)) [some (2, 121), some (0, x), some (0, y), some (0, z), none] [(0, 1)] _
      refine v_if (hz_X12_bite hT _ _ rfl) (fun hc11 => absurd (show (1 : Int) = 0 from hc11) (by decide)) (fun _ => ?_)
      refine v_load (v := (2, 121)) (hz_X12_bite hT _ _ rfl) rfl rfl ?_
      refine v_load (v := (0, y)) (hz_X12_bite hT _ _ rfl) rfl rfl ?_
      refine v_load (v := (0, z)) (hz_X12_bite hT _ _ rfl) rfl rfl ?_
      refine v_call (w := 3) [some (2, 121), some (0, y), some (0, z)] hO (hz_X12_bite hT _ _ rfl) rfl rfl ?_
      refine v_load (v := (0, y)) (hi_X12_isCell_0 hT) rfl rfl ?_
      refine v_i2l (hi_X12_isCell_1 hT) ?_
      refine v_push (0) (hi_X12_isCell_2 hT) rfl ?_
      refine v_load (v := (2, 121)) (hi_X12_isCell_3 hT) rfl rfl ?_
      refine v_getR (c := 126) (r := 121) (hi_X12_isCell_4 hT) rfl rfl rfl ?_
      refine v_push (0) (hi_X12_isCell_7 hT) rfl ?_
      refine v_aldV (v := (0, (P 0 0))) (r := 126) (hi_X12_isCell_8 hT) rfl rfl (fun _ _ _ => (Eq.trans (Eq.trans (zset_ne (fun c => absurd c.1 (by decide))) (zset_ne (fun c => absurd c.1 (by decide)))) (p0))) (fun ha12 hb13 => ?_)
      refine v_push (1) (hi_X12_isCell_9 hT) rfl ?_
      refine v_bin (w := ((P 0 0) - 1)) (hi_X12_isCell_10 hT) (hq_sub (by omega) (by omega)) ?_
      refine v_i2l (hi_X12_isCell_11 hT) ?_
      refine v_call (w := 6) [some (1, y), none, some (1, 0), none, some (1, ((P 0 0) - 1)), none] hO (hi_X12_isCell_12 hT) rfl rfl ?_
      refine v_load (v := (1, y)) (hi_X12_isIn_0 hT) rfl rfl ?_
      refine v_load (v := (1, 0)) (hi_X12_isIn_1 hT) rfl rfl ?_
      refine v_lif (hi_X12_isIn_2 hT) (hi_X12_isIn_3 hT) (fun hc14 => ?_) (fun hc14 => ?_)
      · have hc14 : y < 0 := hc14
        refine v_push (0) (hi_X12_isIn_17 hT) rfl ?_
        refine v_ret (hi_X12_isIn_18 hT) (Or.inl rfl) ?_
        show vP D T N 244 15 (zset (zset h 121 1 (0, 0)) 121 0 (0, 0)) [some (2, 121), some (0, y), some (0, z)] [(0, 0)] _
        refine v_if (hi_X12_isCell_15 hT) (fun _ => ?_) (fun hc15 => absurd (show (0 : Int) = 0 from (by decide)) hc15)
        refine v_push (0) (hi_X12_isCell_40 hT) rfl ?_
        refine v_ret (hi_X12_isCell_41 hT) (Or.inl rfl) ?_
        show vP D T N 202 24 (zset (zset h 121 1 (0, 0)) 121 0 (0, 0)) [some (2, 121), some (0, x), some (0, y), some (0, z), none] [(0, 0)] _
        refine v_if (hi_X12_bite_24 hT) (fun _ => ?_) (fun hc16 => absurd (show (0 : Int) = 0 from (by decide)) hc16)
        refine v_load (v := (2, 121)) (hi_X12_bite_27 hT) rfl rfl ?_
        refine v_push (2) (hi_X12_bite_28 hT) rfl ?_
        refine v_call (w := 2) [some (2, 121), some (0, 2)] hO (hi_X12_bite_29 hT) rfl rfl ?_
        refine v_load (v := (2, 121)) (hi_X12_refuse_0 hT) rfl rfl ?_
        refine v_load (v := (0, 2)) (hi_X12_refuse_1 hT) rfl rfl ?_
        refine v_putf (r := 121) hO (hi_X12_refuse_2 hT) rfl (fun hf17 => ?_)
        refine v_push (-1) (hi_X12_refuse_5 hT) rfl ?_
        refine v_ret (hi_X12_refuse_6 hT) (Or.inl rfl) ?_
        show vP D T N 202 32 (zset (zset (zset h 121 1 (0, 0)) 121 0 (0, 0)) 121 0 (0, 2)) [some (2, 121), some (0, x), some (0, y), some (0, z), none] [(0, -1)] _
        refine v_ret (hi_X12_bite_32 hT) (Or.inl rfl) ?_
        exact k2 hc5 hc8 hc14
      · have hc14 : 0 ≤ y := Int.not_lt.mp hc14
        refine v_load (v := (1, y)) (hi_X12_isIn_6 hT) rfl rfl ?_
        refine v_load (v := (1, ((P 0 0) - 1))) (hi_X12_isIn_7 hT) rfl rfl ?_
        refine v_lif (hi_X12_isIn_9 hT) (hi_X12_isIn_10 hT) (fun hc18 => ?_) (fun hc18 => ?_)
        · have hc18 : ((P 0 0) - 1) < y := hc18
          refine v_push (0) (hi_X12_isIn_17 hT) rfl ?_
          refine v_ret (hi_X12_isIn_18 hT) (Or.inl rfl) ?_
          show vP D T N 244 15 (zset (zset h 121 1 (0, 0)) 121 0 (0, 0)) [some (2, 121), some (0, y), some (0, z)] [(0, 0)] _
          refine v_if (hi_X12_isCell_15 hT) (fun _ => ?_) (fun hc19 => absurd (show (0 : Int) = 0 from (by decide)) hc19)
          refine v_push (0) (hi_X12_isCell_40 hT) rfl ?_
          refine v_ret (hi_X12_isCell_41 hT) (Or.inl rfl) ?_
          show vP D T N 202 24 (zset (zset h 121 1 (0, 0)) 121 0 (0, 0)) [some (2, 121), some (0, x), some (0, y), some (0, z), none] [(0, 0)] _
          refine v_if (hi_X12_bite_24 hT) (fun _ => ?_) (fun hc20 => absurd (show (0 : Int) = 0 from (by decide)) hc20)
          refine v_load (v := (2, 121)) (hi_X12_bite_27 hT) rfl rfl ?_
          refine v_push (2) (hi_X12_bite_28 hT) rfl ?_
          refine v_call (w := 2) [some (2, 121), some (0, 2)] hO (hi_X12_bite_29 hT) rfl rfl ?_
          refine v_load (v := (2, 121)) (hi_X12_refuse_0 hT) rfl rfl ?_
          refine v_load (v := (0, 2)) (hi_X12_refuse_1 hT) rfl rfl ?_
          refine v_putf (r := 121) hO (hi_X12_refuse_2 hT) rfl (fun hf21 => ?_)
          refine v_push (-1) (hi_X12_refuse_5 hT) rfl ?_
          refine v_ret (hi_X12_refuse_6 hT) (Or.inl rfl) ?_
          show vP D T N 202 32 (zset (zset (zset h 121 1 (0, 0)) 121 0 (0, 0)) 121 0 (0, 2)) [some (2, 121), some (0, x), some (0, y), some (0, z), none] [(0, -1)] _
          refine v_ret (hi_X12_bite_32 hT) (Or.inl rfl) ?_
          exact k3 hc5 hc8 hc14 hc18
        · have hc18 : y ≤ ((P 0 0) - 1) := Int.not_lt.mp hc18
          refine v_push (1) (hi_X12_isIn_13 hT) rfl ?_
          refine v_goto (hi_X12_isIn_14 hT) ?_
          refine v_ret (hi_X12_isIn_18 hT) (Or.inl rfl) ?_
          show vP D T N 244 15 (zset (zset h 121 1 (0, 0)) 121 0 (0, 0)) [some (2, 121), some (0, y), some (0, z)] [(0, 1)] _
          refine v_if (hi_X12_isCell_15 hT) (fun hc22 => absurd (show (1 : Int) = 0 from hc22) (by decide)) (fun _ => ?_)
          refine v_load (v := (0, z)) (hi_X12_isCell_18 hT) rfl rfl ?_
          refine v_i2l (hi_X12_isCell_19 hT) ?_
          refine v_push (0) (hi_X12_isCell_20 hT) rfl ?_
          refine v_load (v := (2, 121)) (hi_X12_isCell_21 hT) rfl rfl ?_
          refine v_getR (c := 126) (r := 121) (hi_X12_isCell_22 hT) rfl rfl rfl ?_
          refine v_push (1) (hi_X12_isCell_25 hT) rfl ?_
          refine v_aldV (v := (0, (P 0 1))) (r := 126) (hi_X12_isCell_26 hT) rfl rfl (fun _ _ _ => (Eq.trans (Eq.trans (zset_ne (fun c => absurd c.1 (by decide))) (zset_ne (fun c => absurd c.1 (by decide)))) (p1))) (fun ha23 hb24 => ?_)
          refine v_push (1) (hi_X12_isCell_27 hT) rfl ?_
          refine v_bin (w := ((P 0 1) - 1)) (hi_X12_isCell_28 hT) (hq_sub (by omega) (by omega)) ?_
          refine v_i2l (hi_X12_isCell_29 hT) ?_
          refine v_call (w := 6) [some (1, z), none, some (1, 0), none, some (1, ((P 0 1) - 1)), none] hO (hi_X12_isCell_30 hT) rfl rfl ?_
          refine v_load (v := (1, z)) (hi_X12_isIn_0 hT) rfl rfl ?_
          refine v_load (v := (1, 0)) (hi_X12_isIn_1 hT) rfl rfl ?_
          refine v_lif (hi_X12_isIn_2 hT) (hi_X12_isIn_3 hT) (fun hc25 => ?_) (fun hc25 => ?_)
          · have hc25 : z < 0 := hc25
            refine v_push (0) (hi_X12_isIn_17 hT) rfl ?_
            refine v_ret (hi_X12_isIn_18 hT) (Or.inl rfl) ?_
            show vP D T N 244 33 (zset (zset h 121 1 (0, 0)) 121 0 (0, 0)) [some (2, 121), some (0, y), some (0, z)] [(0, 0)] _
            refine v_if (hi_X12_isCell_33 hT) (fun _ => ?_) (fun hc26 => absurd (show (0 : Int) = 0 from (by decide)) hc26)
            refine v_push (0) (hi_X12_isCell_40 hT) rfl ?_
            refine v_ret (hi_X12_isCell_41 hT) (Or.inl rfl) ?_
            show vP D T N 202 24 (zset (zset h 121 1 (0, 0)) 121 0 (0, 0)) [some (2, 121), some (0, x), some (0, y), some (0, z), none] [(0, 0)] _
            refine v_if (hi_X12_bite_24 hT) (fun _ => ?_) (fun hc27 => absurd (show (0 : Int) = 0 from (by decide)) hc27)
            refine v_load (v := (2, 121)) (hi_X12_bite_27 hT) rfl rfl ?_
            refine v_push (2) (hi_X12_bite_28 hT) rfl ?_
            refine v_call (w := 2) [some (2, 121), some (0, 2)] hO (hi_X12_bite_29 hT) rfl rfl ?_
            refine v_load (v := (2, 121)) (hi_X12_refuse_0 hT) rfl rfl ?_
            refine v_load (v := (0, 2)) (hi_X12_refuse_1 hT) rfl rfl ?_
            refine v_putf (r := 121) hO (hi_X12_refuse_2 hT) rfl (fun hf28 => ?_)
            refine v_push (-1) (hi_X12_refuse_5 hT) rfl ?_
            refine v_ret (hi_X12_refuse_6 hT) (Or.inl rfl) ?_
            show vP D T N 202 32 (zset (zset (zset h 121 1 (0, 0)) 121 0 (0, 0)) 121 0 (0, 2)) [some (2, 121), some (0, x), some (0, y), some (0, z), none] [(0, -1)] _
            refine v_ret (hi_X12_bite_32 hT) (Or.inl rfl) ?_
            exact k4 hc5 hc8 hc14 hc18 hc25
          · have hc25 : 0 ≤ z := Int.not_lt.mp hc25
            refine v_load (v := (1, z)) (hi_X12_isIn_6 hT) rfl rfl ?_
            refine v_load (v := (1, ((P 0 1) - 1))) (hi_X12_isIn_7 hT) rfl rfl ?_
            refine v_lif (hi_X12_isIn_9 hT) (hi_X12_isIn_10 hT) (fun hc29 => ?_) (fun hc29 => ?_)
            · have hc29 : ((P 0 1) - 1) < z := hc29
              refine v_push (0) (hi_X12_isIn_17 hT) rfl ?_
              refine v_ret (hi_X12_isIn_18 hT) (Or.inl rfl) ?_
              show vP D T N 244 33 (zset (zset h 121 1 (0, 0)) 121 0 (0, 0)) [some (2, 121), some (0, y), some (0, z)] [(0, 0)] _
              refine v_if (hi_X12_isCell_33 hT) (fun _ => ?_) (fun hc30 => absurd (show (0 : Int) = 0 from (by decide)) hc30)
              refine v_push (0) (hi_X12_isCell_40 hT) rfl ?_
              refine v_ret (hi_X12_isCell_41 hT) (Or.inl rfl) ?_
              show vP D T N 202 24 (zset (zset h 121 1 (0, 0)) 121 0 (0, 0)) [some (2, 121), some (0, x), some (0, y), some (0, z), none] [(0, 0)] _
              refine v_if (hi_X12_bite_24 hT) (fun _ => ?_) (fun hc31 => absurd (show (0 : Int) = 0 from (by decide)) hc31)
              refine v_load (v := (2, 121)) (hi_X12_bite_27 hT) rfl rfl ?_
              refine v_push (2) (hi_X12_bite_28 hT) rfl ?_
              refine v_call (w := 2) [some (2, 121), some (0, 2)] hO (hi_X12_bite_29 hT) rfl rfl ?_
              refine v_load (v := (2, 121)) (hi_X12_refuse_0 hT) rfl rfl ?_
              refine v_load (v := (0, 2)) (hi_X12_refuse_1 hT) rfl rfl ?_
              refine v_putf (r := 121) hO (hi_X12_refuse_2 hT) rfl (fun hf32 => ?_)
              refine v_push (-1) (hi_X12_refuse_5 hT) rfl ?_
              refine v_ret (hi_X12_refuse_6 hT) (Or.inl rfl) ?_
              show vP D T N 202 32 (zset (zset (zset h 121 1 (0, 0)) 121 0 (0, 0)) 121 0 (0, 2)) [some (2, 121), some (0, x), some (0, y), some (0, z), none] [(0, -1)] _
              refine v_ret (hi_X12_bite_32 hT) (Or.inl rfl) ?_
              exact k5 hc5 hc8 hc14 hc18 hc25 hc29
            · have hc29 : z ≤ ((P 0 1) - 1) := Int.not_lt.mp hc29
              refine v_push (1) (hi_X12_isIn_13 hT) rfl ?_
              refine v_goto (hi_X12_isIn_14 hT) ?_
              refine v_ret (hi_X12_isIn_18 hT) (Or.inl rfl) ?_
              show vP D T N 244 33 (zset (zset h 121 1 (0, 0)) 121 0 (0, 0)) [some (2, 121), some (0, y), some (0, z)] [(0, 1)] _
              refine v_if (hi_X12_isCell_33 hT) (fun hc33 => absurd (show (1 : Int) = 0 from hc33) (by decide)) (fun _ => ?_)
              refine v_push (1) (hi_X12_isCell_36 hT) rfl ?_
              refine v_goto (hi_X12_isCell_37 hT) ?_
              refine v_ret (hi_X12_isCell_41 hT) (Or.inl rfl) ?_
              show vP D T N 202 24 (zset (zset h 121 1 (0, 0)) 121 0 (0, 0)) [some (2, 121), some (0, x), some (0, y), some (0, z), none] [(0, 1)] _
              refine v_if (hi_X12_bite_24 hT) (fun hc34 => absurd (show (1 : Int) = 0 from hc34) (by decide)) (fun _ => ?_)
              exact k6 hc5 hc8 hc14 hc18 hc25 hc29
theorem qs_bite33 {D : zD} {T : zT} (hT : hTab T) (hO : vOK T) {N : Nat} {h : zH} {Q : zR → Prop} {P : PT} {j u v : Nat} (hv0 : zHv h) (p0 : h 126 0 = (0, P 0 0)) (lb : lB P) (bu : u < 8) (bv : v < 6)
    (k0 : vP D T N 203 0 h [some (2, 121), some (0, (j : Int)), some (0, ((P 0 0) * (v : Int) + (u : Int)))] [] (fun r1 => vP D T N 202 44 r1.1 [some (2, 121), some (0, (j : Int)), some (0, (u : Int)), some (0, (v : Int)), none] (zpush r1.2 []) Q)) :
    vP D T N 202 33 h [some (2, 121), some (0, (j : Int)), some (0, (u : Int)), some (0, (v : Int)), none] [] Q := by
  refine v_load (v := (2, 121)) (hz_X12_bite hT _ _ rfl) rfl rfl ?_
  refine v_load (v := (0, (j : Int))) (hz_X12_bite hT _ _ rfl) rfl rfl ?_
  refine v_load (v := (2, 121)) (hz_X12_bite hT _ _ rfl) rfl rfl ?_
  refine v_load (v := (0, (u : Int))) (hz_X12_bite hT _ _ rfl) rfl rfl ?_
  refine v_load (v := (0, (v : Int))) (hz_X12_bite hT _ _ rfl) rfl rfl ?_
  refine v_call (w := 3) [some (2, 121), some (0, (u : Int)), some (0, (v : Int))] hO (hz_X12_bite hT _ _ rfl) rfl rfl (rb_at2 hT hO ((u : Int)) ((v : Int)) (by omega) (by omega) p0 lb ?_)
  show vP D T N 202 41 h [some (2, 121), some (0, (j : Int)), some (0, (u : Int)), some (0, (v : Int)), none] [(0, ((P 0 0) * (v : Int) + (u : Int))), (0, (j : Int)), (2, 121)] _
  refine v_call (w := 3) [some (2, 121), some (0, (j : Int)), some (0, ((P 0 0) * (v : Int) + (u : Int)))] hO (hz_X12_bite hT _ _ rfl) rfl rfl ?_
  exact k0 
theorem qs_mould0 {D : zD} {T : zT} (hT : hTab T) (hO : vOK T) {N : Nat} {h : zH} {Q : zR → Prop} {P : PT} (x y z : Int) (hv0 : zHv h) (p0 : h 126 0 = (0, P 0 0)) (p1 : h 126 1 = (0, P 0 1)) (p2 : h 126 2 = (0, P 0 2)) (p3 : h 126 3 = (0, P 0 3)) (lb : (0 ≤ P 0 0 ∧ P 0 0 ≤ 8) ∧ (0 ≤ P 0 1 ∧ P 0 1 ≤ 6) ∧ (0 ≤ P 0 2 ∧ P 0 2 ≤ 3) ∧ (0 ≤ P 0 3 ∧ P 0 3 ≤ 6))
    (k0 : (x < 0) → Q (zset (zset (zset h 121 1 (0, 0)) 121 0 (0, 0)) 121 0 (0, 2), some (0, 0)))
    (k1 : (0 ≤ x) → (((P 0 2) - 1) < x) → Q (zset (zset (zset h 121 1 (0, 0)) 121 0 (0, 0)) 121 0 (0, 2), some (0, 0)))
    (k2 : (0 ≤ x) → (x ≤ ((P 0 2) - 1)) → (y < 0) → Q (zset (zset (zset h 121 1 (0, 0)) 121 0 (0, 0)) 121 0 (0, 2), some (0, 0)))
    (k3 : (0 ≤ x) → (x ≤ ((P 0 2) - 1)) → (0 ≤ y) → (((P 0 0) - 1) < y) → Q (zset (zset (zset h 121 1 (0, 0)) 121 0 (0, 0)) 121 0 (0, 2), some (0, 0)))
    (k4 : (0 ≤ x) → (x ≤ ((P 0 2) - 1)) → (0 ≤ y) → (y ≤ ((P 0 0) - 1)) → (z < 0) → Q (zset (zset (zset h 121 1 (0, 0)) 121 0 (0, 0)) 121 0 (0, 2), some (0, 0)))
    (k5 : (0 ≤ x) → (x ≤ ((P 0 2) - 1)) → (0 ≤ y) → (y ≤ ((P 0 0) - 1)) → (0 ≤ z) → (((P 0 1) - 1) < z) → Q (zset (zset (zset h 121 1 (0, 0)) 121 0 (0, 0)) 121 0 (0, 2), some (0, 0)))
    (k6 : (0 ≤ x) → (x ≤ ((P 0 2) - 1)) → (0 ≤ y) → (y ≤ ((P 0 0) - 1)) → (0 ≤ z) → (z ≤ ((P 0 1) - 1)) → vP D T N 279 33 (zset (zset h 121 1 (0, 0)) 121 0 (0, 0)) [some (2, 121), some (0, x), some (0, y), some (0, z)] [] Q) :
    vP D T N 279 0 h [some (2, 121), some (0, x), some (0, y), some (0, z)] [] Q := by
  refine v_load (v := (2, 121)) (hz_X12_mould hT _ _ rfl) rfl rfl ?_
  refine v_push (0) (hz_X12_mould hT _ _ rfl) rfl ?_
  refine v_putf (r := 121) hO (hz_X12_mould hT _ _ rfl) rfl (fun hf1 => ?_)
  refine v_load (v := (2, 121)) (hz_X12_mould hT _ _ rfl) rfl rfl ?_
  refine v_push (0) (hz_X12_mould hT _ _ rfl) rfl ?_
  refine v_putf (r := 121) hO (hz_X12_mould hT _ _ rfl) rfl (fun hf2 => ?_)
  refine v_load (v := (2, 121)) (hz_X12_mould hT _ _ rfl) rfl rfl ?_
  refine v_load (v := (0, x)) (hz_X12_mould hT _ _ rfl) rfl rfl ?_
  refine v_call (w := 2) [some (2, 121), some (0, x)] hO (hz_X12_mould hT _ _ rfl) rfl rfl ?_
  refine v_load (v := (0, x)) (hi_X12_isCopy_0 hT) rfl rfl ?_
  refine v_i2l (hi_X12_isCopy_1 hT) ?_
  refine v_push (0) (hi_X12_isCopy_2 hT) rfl ?_
  refine v_load (v := (2, 121)) (hi_X12_isCopy_3 hT) rfl rfl ?_
  refine v_getR (c := 126) (r := 121) (hi_X12_isCopy_4 hT) rfl rfl rfl ?_
  refine v_push (2) (hi_X12_isCopy_7 hT) rfl ?_
  refine v_aldV (v := (0, (P 0 2))) (r := 126) (hi_X12_isCopy_8 hT) rfl rfl (fun _ _ _ => (Eq.trans (Eq.trans (zset_ne (fun c => absurd c.1 (by decide))) (zset_ne (fun c => absurd c.1 (by decide)))) (p2))) (fun ha3 hb4 => ?_)
  refine v_push (1) (hi_X12_isCopy_9 hT) rfl ?_
  refine v_bin (w := ((P 0 2) - 1)) (hi_X12_isCopy_10 hT) (hq_sub (by omega) (by omega)) ?_
  refine v_i2l (hi_X12_isCopy_11 hT) ?_
  refine v_call (w := 6) [some (1, x), none, some (1, 0), none, some (1, ((P 0 2) - 1)), none] hO (hi_X12_isCopy_12 hT) rfl rfl ?_
  refine v_load (v := (1, x)) (hi_X12_isIn_0 hT) rfl rfl ?_
  refine v_load (v := (1, 0)) (hi_X12_isIn_1 hT) rfl rfl ?_
  refine v_lif (hi_X12_isIn_2 hT) (hi_X12_isIn_3 hT) (fun hc5 => ?_) (fun hc5 => ?_)
  · have hc5 : x < 0 := hc5
    refine v_push (0) (hi_X12_isIn_17 hT) rfl ?_
    refine v_ret (hi_X12_isIn_18 hT) (Or.inl rfl) ?_
    show vP D T N 248 15 (zset (zset h 121 1 (0, 0)) 121 0 (0, 0)) [some (2, 121), some (0, x)] [(0, 0)] _
    refine v_ret (hi_X12_isCopy_15 hT) (Or.inl rfl) ?_
    show vP D T N 279 15 (zset (zset h 121 1 (0, 0)) 121 0 (0, 0)) [some (2, 121), some (0, x), some (0, y), some (0, z)] [(0, 0)] _
    refine v_if (hz_X12_mould hT _ _ rfl) (fun _ => ?_) (fun hc6 => absurd (show (0 : Int) = 0 from (by decide)) hc6)
    refine v_load (v := (2, 121)) (hi_X12_mould_27 hT) rfl rfl ?_
    refine v_push (2) (hi_X12_mould_28 hT) rfl ?_
    refine v_call (w := 2) [some (2, 121), some (0, 2)] hO (hi_X12_mould_29 hT) rfl rfl ?_
    refine v_load (v := (2, 121)) (hi_X12_no_0 hT) rfl rfl ?_
    refine v_load (v := (0, 2)) (hi_X12_no_1 hT) rfl rfl ?_
    refine v_putf (r := 121) hO (hi_X12_no_2 hT) rfl (fun hf7 => ?_)
    refine v_push (0) (hi_X12_no_5 hT) rfl ?_
    refine v_ret (hi_X12_no_6 hT) (Or.inl rfl) ?_
    show vP D T N 279 32 (zset (zset (zset h 121 1 (0, 0)) 121 0 (0, 0)) 121 0 (0, 2)) [some (2, 121), some (0, x), some (0, y), some (0, z)] [(0, 0)] _
    refine v_ret (hi_X12_mould_32 hT) (Or.inl rfl) ?_
    exact k0 hc5
  · have hc5 : 0 ≤ x := Int.not_lt.mp hc5
    refine v_load (v := (1, x)) (hi_X12_isIn_6 hT) rfl rfl ?_
    refine v_load (v := (1, ((P 0 2) - 1))) (hi_X12_isIn_7 hT) rfl rfl ?_
    refine v_lif (hi_X12_isIn_9 hT) (hi_X12_isIn_10 hT) (fun hc8 => ?_) (fun hc8 => ?_)
    · have hc8 : ((P 0 2) - 1) < x := hc8
      refine v_push (0) (hi_X12_isIn_17 hT) rfl ?_
      refine v_ret (hi_X12_isIn_18 hT) (Or.inl rfl) ?_
      show vP D T N 248 15 (zset (zset h 121 1 (0, 0)) 121 0 (0, 0)) [some (2, 121), some (0, x)] [(0, 0)] _
      refine v_ret (hi_X12_isCopy_15 hT) (Or.inl rfl) ?_
      show vP D T N 279 15 (zset (zset h 121 1 (0, 0)) 121 0 (0, 0)) [some (2, 121), some (0, x), some (0, y), some (0, z)] [(0, 0)] _
      refine v_if (hz_X12_mould hT _ _ rfl) (fun _ => ?_) (fun hc9 => absurd (show (0 : Int) = 0 from (by decide)) hc9)
      refine v_load (v := (2, 121)) (hi_X12_mould_27 hT) rfl rfl ?_
      refine v_push (2) (hi_X12_mould_28 hT) rfl ?_
      refine v_call (w := 2) [some (2, 121), some (0, 2)] hO (hi_X12_mould_29 hT) rfl rfl ?_
      refine v_load (v := (2, 121)) (hi_X12_no_0 hT) rfl rfl ?_
      refine v_load (v := (0, 2)) (hi_X12_no_1 hT) rfl rfl ?_
      refine v_putf (r := 121) hO (hi_X12_no_2 hT) rfl (fun hf10 => ?_)
      refine v_push (0) (hi_X12_no_5 hT) rfl ?_
      refine v_ret (hi_X12_no_6 hT) (Or.inl rfl) ?_
      show vP D T N 279 32 (zset (zset (zset h 121 1 (0, 0)) 121 0 (0, 0)) 121 0 (0, 2)) [some (2, 121), some (0, x), some (0, y), some (0, z)] [(0, 0)] _
      refine v_ret (hi_X12_mould_32 hT) (Or.inl rfl) ?_
      exact k1 hc5 hc8
    · have hc8 : x ≤ ((P 0 2) - 1) := Int.not_lt.mp hc8
      refine v_push (1) (hi_X12_isIn_13 hT) rfl ?_
      refine v_goto (hi_X12_isIn_14 hT) ?_
      refine v_ret (hi_X12_isIn_18 hT) (Or.inl rfl) ?_
      show vP D T N 248 15 (zset (zset h 121 1 (0, 0)) 121 0 (0, 0)) [some (2, 121), some (0, x)] [(0, 1)] _
      refine v_ret (hi_X12_isCopy_15 hT) (Or.inl rfl) ?_
      show vP D T N 279 15 (zset (zset h 121 1 (0, 0)) 121 0 (0, 0)) [some (2, 121), some (0, x), some (0, y), some (0, z)] [(0, 1)] _
      refine v_if (hz_X12_mould hT _ _ rfl) (fun hc11 => absurd (show (1 : Int) = 0 from hc11) (by decide)) (fun _ => ?_)
      refine v_load (v := (2, 121)) (hz_X12_mould hT _ _ rfl) rfl rfl ?_
      refine v_load (v := (0, y)) (hz_X12_mould hT _ _ rfl) rfl rfl ?_
      refine v_load (v := (0, z)) (hz_X12_mould hT _ _ rfl) rfl rfl ?_
      refine v_call (w := 3) [some (2, 121), some (0, y), some (0, z)] hO (hz_X12_mould hT _ _ rfl) rfl rfl ?_
      refine v_load (v := (0, y)) (hi_X12_isCell_0 hT) rfl rfl ?_
      refine v_i2l (hi_X12_isCell_1 hT) ?_
      refine v_push (0) (hi_X12_isCell_2 hT) rfl ?_
      refine v_load (v := (2, 121)) (hi_X12_isCell_3 hT) rfl rfl ?_
      refine v_getR (c := 126) (r := 121) (hi_X12_isCell_4 hT) rfl rfl rfl ?_
      refine v_push (0) (hi_X12_isCell_7 hT) rfl ?_
      refine v_aldV (v := (0, (P 0 0))) (r := 126) (hi_X12_isCell_8 hT) rfl rfl (fun _ _ _ => (Eq.trans (Eq.trans (zset_ne (fun c => absurd c.1 (by decide))) (zset_ne (fun c => absurd c.1 (by decide)))) (p0))) (fun ha12 hb13 => ?_)
      refine v_push (1) (hi_X12_isCell_9 hT) rfl ?_
      refine v_bin (w := ((P 0 0) - 1)) (hi_X12_isCell_10 hT) (hq_sub (by omega) (by omega)) ?_
      refine v_i2l (hi_X12_isCell_11 hT) ?_
      refine v_call (w := 6) [some (1, y), none, some (1, 0), none, some (1, ((P 0 0) - 1)), none] hO (hi_X12_isCell_12 hT) rfl rfl ?_
      refine v_load (v := (1, y)) (hi_X12_isIn_0 hT) rfl rfl ?_
      refine v_load (v := (1, 0)) (hi_X12_isIn_1 hT) rfl rfl ?_
      refine v_lif (hi_X12_isIn_2 hT) (hi_X12_isIn_3 hT) (fun hc14 => ?_) (fun hc14 => ?_)
      · have hc14 : y < 0 := hc14
        refine v_push (0) (hi_X12_isIn_17 hT) rfl ?_
        refine v_ret (hi_X12_isIn_18 hT) (Or.inl rfl) ?_
        show vP D T N 244 15 (zset (zset h 121 1 (0, 0)) 121 0 (0, 0)) [some (2, 121), some (0, y), some (0, z)] [(0, 0)] _
        refine v_if (hi_X12_isCell_15 hT) (fun _ => ?_) (fun hc15 => absurd (show (0 : Int) = 0 from (by decide)) hc15)
        refine v_push (0) (hi_X12_isCell_40 hT) rfl ?_
        refine v_ret (hi_X12_isCell_41 hT) (Or.inl rfl) ?_
        show vP D T N 279 24 (zset (zset h 121 1 (0, 0)) 121 0 (0, 0)) [some (2, 121), some (0, x), some (0, y), some (0, z)] [(0, 0)] _
        refine v_if (hi_X12_mould_24 hT) (fun _ => ?_) (fun hc16 => absurd (show (0 : Int) = 0 from (by decide)) hc16)
        refine v_load (v := (2, 121)) (hi_X12_mould_27 hT) rfl rfl ?_
        refine v_push (2) (hi_X12_mould_28 hT) rfl ?_
        refine v_call (w := 2) [some (2, 121), some (0, 2)] hO (hi_X12_mould_29 hT) rfl rfl ?_
        refine v_load (v := (2, 121)) (hi_X12_no_0 hT) rfl rfl ?_
        refine v_load (v := (0, 2)) (hi_X12_no_1 hT) rfl rfl ?_
        refine v_putf (r := 121) hO (hi_X12_no_2 hT) rfl (fun hf17 => ?_)
        refine v_push (0) (hi_X12_no_5 hT) rfl ?_
        refine v_ret (hi_X12_no_6 hT) (Or.inl rfl) ?_
        show vP D T N 279 32 (zset (zset (zset h 121 1 (0, 0)) 121 0 (0, 0)) 121 0 (0, 2)) [some (2, 121), some (0, x), some (0, y), some (0, z)] [(0, 0)] _
        refine v_ret (hi_X12_mould_32 hT) (Or.inl rfl) ?_
        exact k2 hc5 hc8 hc14
      · have hc14 : 0 ≤ y := Int.not_lt.mp hc14
        refine v_load (v := (1, y)) (hi_X12_isIn_6 hT) rfl rfl ?_
        refine v_load (v := (1, ((P 0 0) - 1))) (hi_X12_isIn_7 hT) rfl rfl ?_
        refine v_lif (hi_X12_isIn_9 hT) (hi_X12_isIn_10 hT) (fun hc18 => ?_) (fun hc18 => ?_)
        · have hc18 : ((P 0 0) - 1) < y := hc18
          refine v_push (0) (hi_X12_isIn_17 hT) rfl ?_
          refine v_ret (hi_X12_isIn_18 hT) (Or.inl rfl) ?_
          show vP D T N 244 15 (zset (zset h 121 1 (0, 0)) 121 0 (0, 0)) [some (2, 121), some (0, y), some (0, z)] [(0, 0)] _
          refine v_if (hi_X12_isCell_15 hT) (fun _ => ?_) (fun hc19 => absurd (show (0 : Int) = 0 from (by decide)) hc19)
          refine v_push (0) (hi_X12_isCell_40 hT) rfl ?_
          refine v_ret (hi_X12_isCell_41 hT) (Or.inl rfl) ?_
          show vP D T N 279 24 (zset (zset h 121 1 (0, 0)) 121 0 (0, 0)) [some (2, 121), some (0, x), some (0, y), some (0, z)] [(0, 0)] _
          refine v_if (hi_X12_mould_24 hT) (fun _ => ?_) (fun hc20 => absurd (show (0 : Int) = 0 from (by decide)) hc20)
          refine v_load (v := (2, 121)) (hi_X12_mould_27 hT) rfl rfl ?_
          refine v_push (2) (hi_X12_mould_28 hT) rfl ?_
          refine v_call (w := 2) [some (2, 121), some (0, 2)] hO (hi_X12_mould_29 hT) rfl rfl ?_
          refine v_load (v := (2, 121)) (hi_X12_no_0 hT) rfl rfl ?_
          refine v_load (v := (0, 2)) (hi_X12_no_1 hT) rfl rfl ?_
          refine v_putf (r := 121) hO (hi_X12_no_2 hT) rfl (fun hf21 => ?_)
          refine v_push (0) (hi_X12_no_5 hT) rfl ?_
          refine v_ret (hi_X12_no_6 hT) (Or.inl rfl) ?_
          show vP D T N 279 32 (zset (zset (zset h 121 1 (0, 0)) 121 0 (0, 0)) 121 0 (0, 2)) [some (2, 121), some (0, x), some (0, y), some (0, z)] [(0, 0)] _
          refine v_ret (hi_X12_mould_32 hT) (Or.inl rfl) ?_
          exact k3 hc5 hc8 hc14 hc18
        · have hc18 : y ≤ ((P 0 0) - 1) := Int.not_lt.mp hc18
          refine v_push (1) (hi_X12_isIn_13 hT) rfl ?_
          refine v_goto (hi_X12_isIn_14 hT) ?_
          refine v_ret (hi_X12_isIn_18 hT) (Or.inl rfl) ?_
          show vP D T N 244 15 (zset (zset h 121 1 (0, 0)) 121 0 (0, 0)) [some (2, 121), some (0, y), some (0, z)] [(0, 1)] _
          refine v_if (hi_X12_isCell_15 hT) (fun hc22 => absurd (show (1 : Int) = 0 from hc22) (by decide)) (fun _ => ?_)
          refine v_load (v := (0, z)) (hi_X12_isCell_18 hT) rfl rfl ?_
          refine v_i2l (hi_X12_isCell_19 hT) ?_
          refine v_push (0) (hi_X12_isCell_20 hT) rfl ?_
          refine v_load (v := (2, 121)) (hi_X12_isCell_21 hT) rfl rfl ?_
          refine v_getR (c := 126) (r := 121) (hi_X12_isCell_22 hT) rfl rfl rfl ?_
          refine v_push (1) (hi_X12_isCell_25 hT) rfl ?_
          refine v_aldV (v := (0, (P 0 1))) (r := 126) (hi_X12_isCell_26 hT) rfl rfl (fun _ _ _ => (Eq.trans (Eq.trans (zset_ne (fun c => absurd c.1 (by decide))) (zset_ne (fun c => absurd c.1 (by decide)))) (p1))) (fun ha23 hb24 => ?_)
          refine v_push (1) (hi_X12_isCell_27 hT) rfl ?_
          refine v_bin (w := ((P 0 1) - 1)) (hi_X12_isCell_28 hT) (hq_sub (by omega) (by omega)) ?_
          refine v_i2l (hi_X12_isCell_29 hT) ?_
          refine v_call (w := 6) [some (1, z), none, some (1, 0), none, some (1, ((P 0 1) - 1)), none] hO (hi_X12_isCell_30 hT) rfl rfl ?_
          refine v_load (v := (1, z)) (hi_X12_isIn_0 hT) rfl rfl ?_
          refine v_load (v := (1, 0)) (hi_X12_isIn_1 hT) rfl rfl ?_
          refine v_lif (hi_X12_isIn_2 hT) (hi_X12_isIn_3 hT) (fun hc25 => ?_) (fun hc25 => ?_)
          · have hc25 : z < 0 := hc25
            refine v_push (0) (hi_X12_isIn_17 hT) rfl ?_
            refine v_ret (hi_X12_isIn_18 hT) (Or.inl rfl) ?_
            show vP D T N 244 33 (zset (zset h 121 1 (0, 0)) 121 0 (0, 0)) [some (2, 121), some (0, y), some (0, z)] [(0, 0)] _
            refine v_if (hi_X12_isCell_33 hT) (fun _ => ?_) (fun hc26 => absurd (show (0 : Int) = 0 from (by decide)) hc26)
            refine v_push (0) (hi_X12_isCell_40 hT) rfl ?_
            refine v_ret (hi_X12_isCell_41 hT) (Or.inl rfl) ?_
            show vP D T N 279 24 (zset (zset h 121 1 (0, 0)) 121 0 (0, 0)) [some (2, 121), some (0, x), some (0, y), some (0, z)] [(0, 0)] _
            refine v_if (hi_X12_mould_24 hT) (fun _ => ?_) (fun hc27 => absurd (show (0 : Int) = 0 from (by decide)) hc27)
            refine v_load (v := (2, 121)) (hi_X12_mould_27 hT) rfl rfl ?_
            refine v_push (2) (hi_X12_mould_28 hT) rfl ?_
            refine v_call (w := 2) [some (2, 121), some (0, 2)] hO (hi_X12_mould_29 hT) rfl rfl ?_
            refine v_load (v := (2, 121)) (hi_X12_no_0 hT) rfl rfl ?_
            refine v_load (v := (0, 2)) (hi_X12_no_1 hT) rfl rfl ?_
            refine v_putf (r := 121) hO (hi_X12_no_2 hT) rfl (fun hf28 => ?_)
            refine v_push (0) (hi_X12_no_5 hT) rfl ?_
            refine v_ret (hi_X12_no_6 hT) (Or.inl rfl) ?_
            show vP D T N 279 32 (zset (zset (zset h 121 1 (0, 0)) 121 0 (0, 0)) 121 0 (0, 2)) [some (2, 121), some (0, x), some (0, y), some (0, z)] [(0, 0)] _
            refine v_ret (hi_X12_mould_32 hT) (Or.inl rfl) ?_
            exact k4 hc5 hc8 hc14 hc18 hc25
          · have hc25 : 0 ≤ z := Int.not_lt.mp hc25
            refine v_load (v := (1, z)) (hi_X12_isIn_6 hT) rfl rfl ?_
            refine v_load (v := (1, ((P 0 1) - 1))) (hi_X12_isIn_7 hT) rfl rfl ?_
            refine v_lif (hi_X12_isIn_9 hT) (hi_X12_isIn_10 hT) (fun hc29 => ?_) (fun hc29 => ?_)
            · have hc29 : ((P 0 1) - 1) < z := hc29
              refine v_push (0) (hi_X12_isIn_17 hT) rfl ?_
              refine v_ret (hi_X12_isIn_18 hT) (Or.inl rfl) ?_
              show vP D T N 244 33 (zset (zset h 121 1 (0, 0)) 121 0 (0, 0)) [some (2, 121), some (0, y), some (0, z)] [(0, 0)] _
              refine v_if (hi_X12_isCell_33 hT) (fun _ => ?_) (fun hc30 => absurd (show (0 : Int) = 0 from (by decide)) hc30)
              refine v_push (0) (hi_X12_isCell_40 hT) rfl ?_
              refine v_ret (hi_X12_isCell_41 hT) (Or.inl rfl) ?_
              show vP D T N 279 24 (zset (zset h 121 1 (0, 0)) 121 0 (0, 0)) [some (2, 121), some (0, x), some (0, y), some (0, z)] [(0, 0)] _
              refine v_if (hi_X12_mould_24 hT) (fun _ => ?_) (fun hc31 => absurd (show (0 : Int) = 0 from (by decide)) hc31)
              refine v_load (v := (2, 121)) (hi_X12_mould_27 hT) rfl rfl ?_
              refine v_push (2) (hi_X12_mould_28 hT) rfl ?_
              refine v_call (w := 2) [some (2, 121), some (0, 2)] hO (hi_X12_mould_29 hT) rfl rfl ?_
              refine v_load (v := (2, 121)) (hi_X12_no_0 hT) rfl rfl ?_
              refine v_load (v := (0, 2)) (hi_X12_no_1 hT) rfl rfl ?_
              refine v_putf (r := 121) hO (hi_X12_no_2 hT) rfl (fun hf32 => ?_)
              refine v_push (0) (hi_X12_no_5 hT) rfl ?_
              refine v_ret (hi_X12_no_6 hT) (Or.inl rfl) ?_
              show vP D T N 279 32 (zset (zset (zset h 121 1 (0, 0)) 121 0 (0, 0)) 121 0 (0, 2)) [some (2, 121), some (0, x), some (0, y), some (0, z)] [(0, 0)] _
              refine v_ret (hi_X12_mould_32 hT) (Or.inl rfl) ?_
              exact k5 hc5 hc8 hc14 hc18 hc25 hc29
            · have hc29 : z ≤ ((P 0 1) - 1) := Int.not_lt.mp hc29
              refine v_push (1) (hi_X12_isIn_13 hT) rfl ?_
              refine v_goto (hi_X12_isIn_14 hT) ?_
              refine v_ret (hi_X12_isIn_18 hT) (Or.inl rfl) ?_
              show vP D T N 244 33 (zset (zset h 121 1 (0, 0)) 121 0 (0, 0)) [some (2, 121), some (0, y), some (0, z)] [(0, 1)] _
              refine v_if (hi_X12_isCell_33 hT) (fun hc33 => absurd (show (1 : Int) = 0 from hc33) (by decide)) (fun _ => ?_)
              refine v_push (1) (hi_X12_isCell_36 hT) rfl ?_
              refine v_goto (hi_X12_isCell_37 hT) ?_
              refine v_ret (hi_X12_isCell_41 hT) (Or.inl rfl) ?_
              show vP D T N 279 24 (zset (zset h 121 1 (0, 0)) 121 0 (0, 0)) [some (2, 121), some (0, x), some (0, y), some (0, z)] [(0, 1)] _
              refine v_if (hi_X12_mould_24 hT) (fun hc34 => absurd (show (1 : Int) = 0 from hc34) (by decide)) (fun _ => ?_)
              exact k6 hc5 hc8 hc14 hc18 hc25 hc29
theorem qs_mould33 {D : zD} {T : zT} (hT : hTab T) (hO : vOK T) {N : Nat} {h : zH} {Q : zR → Prop} {P : PT} {j u v : Nat} (hv0 : zHv h) (p0 : h 126 0 = (0, P 0 0)) (lb : lB P) (bu : u < 8) (bv : v < 6)
    (k0 : vP D T N 280 0 h [some (2, 121), some (0, (j : Int)), some (0, ((P 0 0) * (v : Int) + (u : Int)))] [] (fun r1 => vP D T N 279 44 r1.1 [some (2, 121), some (0, (j : Int)), some (0, (u : Int)), some (0, (v : Int))] (zpush r1.2 []) Q)) :
    vP D T N 279 33 h [some (2, 121), some (0, (j : Int)), some (0, (u : Int)), some (0, (v : Int))] [] Q := by
  refine v_load (v := (2, 121)) (hz_X12_mould hT _ _ rfl) rfl rfl ?_
  refine v_load (v := (0, (j : Int))) (hz_X12_mould hT _ _ rfl) rfl rfl ?_
  refine v_load (v := (2, 121)) (hz_X12_mould hT _ _ rfl) rfl rfl ?_
  refine v_load (v := (0, (u : Int))) (hz_X12_mould hT _ _ rfl) rfl rfl ?_
  refine v_load (v := (0, (v : Int))) (hz_X12_mould hT _ _ rfl) rfl rfl ?_
  refine v_call (w := 3) [some (2, 121), some (0, (u : Int)), some (0, (v : Int))] hO (hz_X12_mould hT _ _ rfl) rfl rfl (rb_at2 hT hO ((u : Int)) ((v : Int)) (by omega) (by omega) p0 lb ?_)
  show vP D T N 279 41 h [some (2, 121), some (0, (j : Int)), some (0, (u : Int)), some (0, (v : Int))] [(0, ((P 0 0) * (v : Int) + (u : Int))), (0, (j : Int)), (2, 121)] _
  refine v_call (w := 3) [some (2, 121), some (0, (j : Int)), some (0, ((P 0 0) * (v : Int) + (u : Int)))] hO (hz_X12_mould hT _ _ rfl) rfl rfl ?_
  exact k0 
theorem qs_honey0 {D : zD} {T : zT} (hT : hTab T) (hO : vOK T) {N : Nat} {h : zH} {Q : zR → Prop} {P : PT} (x y z : Int) (hv0 : zHv h) (p0 : h 126 0 = (0, P 0 0)) (p1 : h 126 1 = (0, P 0 1)) (p2 : h 126 2 = (0, P 0 2)) (p3 : h 126 3 = (0, P 0 3)) (lb : (0 ≤ P 0 0 ∧ P 0 0 ≤ 8) ∧ (0 ≤ P 0 1 ∧ P 0 1 ≤ 6) ∧ (0 ≤ P 0 2 ∧ P 0 2 ≤ 3) ∧ (0 ≤ P 0 3 ∧ P 0 3 ≤ 6))
    (k0 : (x < 0) → Q (zset (zset (zset h 121 1 (0, 0)) 121 0 (0, 0)) 121 0 (0, 2), some (0, 0)))
    (k1 : (0 ≤ x) → (((P 0 2) - 1) < x) → Q (zset (zset (zset h 121 1 (0, 0)) 121 0 (0, 0)) 121 0 (0, 2), some (0, 0)))
    (k2 : (0 ≤ x) → (x ≤ ((P 0 2) - 1)) → (y < 0) → Q (zset (zset (zset h 121 1 (0, 0)) 121 0 (0, 0)) 121 0 (0, 2), some (0, 0)))
    (k3 : (0 ≤ x) → (x ≤ ((P 0 2) - 1)) → (0 ≤ y) → (((P 0 0) - 1) < y) → Q (zset (zset (zset h 121 1 (0, 0)) 121 0 (0, 0)) 121 0 (0, 2), some (0, 0)))
    (k4 : (0 ≤ x) → (x ≤ ((P 0 2) - 1)) → (0 ≤ y) → (y ≤ ((P 0 0) - 1)) → (z < 0) → Q (zset (zset (zset h 121 1 (0, 0)) 121 0 (0, 0)) 121 0 (0, 2), some (0, 0)))
    (k5 : (0 ≤ x) → (x ≤ ((P 0 2) - 1)) → (0 ≤ y) → (y ≤ ((P 0 0) - 1)) → (0 ≤ z) → (((P 0 1) - 1) < z) → Q (zset (zset (zset h 121 1 (0, 0)) 121 0 (0, 0)) 121 0 (0, 2), some (0, 0)))
    (k6 : (0 ≤ x) → (x ≤ ((P 0 2) - 1)) → (0 ≤ y) → (y ≤ ((P 0 0) - 1)) → (0 ≤ z) → (z ≤ ((P 0 1) - 1)) → vP D T N 239 33 (zset (zset h 121 1 (0, 0)) 121 0 (0, 0)) [some (2, 121), some (0, x), some (0, y), some (0, z)] [] Q) :
    vP D T N 239 0 h [some (2, 121), some (0, x), some (0, y), some (0, z)] [] Q := by
  refine v_load (v := (2, 121)) (hz_X12_honey hT _ _ rfl) rfl rfl ?_
  refine v_push (0) (hz_X12_honey hT _ _ rfl) rfl ?_
  refine v_putf (r := 121) hO (hz_X12_honey hT _ _ rfl) rfl (fun hf1 => ?_)
  refine v_load (v := (2, 121)) (hz_X12_honey hT _ _ rfl) rfl rfl ?_
  refine v_push (0) (hz_X12_honey hT _ _ rfl) rfl ?_
  refine v_putf (r := 121) hO (hz_X12_honey hT _ _ rfl) rfl (fun hf2 => ?_)
  refine v_load (v := (2, 121)) (hz_X12_honey hT _ _ rfl) rfl rfl ?_
  refine v_load (v := (0, x)) (hz_X12_honey hT _ _ rfl) rfl rfl ?_
  refine v_call (w := 2) [some (2, 121), some (0, x)] hO (hz_X12_honey hT _ _ rfl) rfl rfl ?_
  refine v_load (v := (0, x)) (hi_X12_isCopy_0 hT) rfl rfl ?_
  refine v_i2l (hi_X12_isCopy_1 hT) ?_
  refine v_push (0) (hi_X12_isCopy_2 hT) rfl ?_
  refine v_load (v := (2, 121)) (hi_X12_isCopy_3 hT) rfl rfl ?_
  refine v_getR (c := 126) (r := 121) (hi_X12_isCopy_4 hT) rfl rfl rfl ?_
  refine v_push (2) (hi_X12_isCopy_7 hT) rfl ?_
  refine v_aldV (v := (0, (P 0 2))) (r := 126) (hi_X12_isCopy_8 hT) rfl rfl (fun _ _ _ => (Eq.trans (Eq.trans (zset_ne (fun c => absurd c.1 (by decide))) (zset_ne (fun c => absurd c.1 (by decide)))) (p2))) (fun ha3 hb4 => ?_)
  refine v_push (1) (hi_X12_isCopy_9 hT) rfl ?_
  refine v_bin (w := ((P 0 2) - 1)) (hi_X12_isCopy_10 hT) (hq_sub (by omega) (by omega)) ?_
  refine v_i2l (hi_X12_isCopy_11 hT) ?_
  refine v_call (w := 6) [some (1, x), none, some (1, 0), none, some (1, ((P 0 2) - 1)), none] hO (hi_X12_isCopy_12 hT) rfl rfl ?_
  refine v_load (v := (1, x)) (hi_X12_isIn_0 hT) rfl rfl ?_
  refine v_load (v := (1, 0)) (hi_X12_isIn_1 hT) rfl rfl ?_
  refine v_lif (hi_X12_isIn_2 hT) (hi_X12_isIn_3 hT) (fun hc5 => ?_) (fun hc5 => ?_)
  · have hc5 : x < 0 := hc5
    refine v_push (0) (hi_X12_isIn_17 hT) rfl ?_
    refine v_ret (hi_X12_isIn_18 hT) (Or.inl rfl) ?_
    show vP D T N 248 15 (zset (zset h 121 1 (0, 0)) 121 0 (0, 0)) [some (2, 121), some (0, x)] [(0, 0)] _
    refine v_ret (hi_X12_isCopy_15 hT) (Or.inl rfl) ?_
    show vP D T N 239 15 (zset (zset h 121 1 (0, 0)) 121 0 (0, 0)) [some (2, 121), some (0, x), some (0, y), some (0, z)] [(0, 0)] _
    refine v_if (hz_X12_honey hT _ _ rfl) (fun _ => ?_) (fun hc6 => absurd (show (0 : Int) = 0 from (by decide)) hc6)
    refine v_load (v := (2, 121)) (hi_X12_honey_27 hT) rfl rfl ?_
    refine v_push (2) (hi_X12_honey_28 hT) rfl ?_
    refine v_call (w := 2) [some (2, 121), some (0, 2)] hO (hi_X12_honey_29 hT) rfl rfl ?_
    refine v_load (v := (2, 121)) (hi_X12_no_0 hT) rfl rfl ?_
    refine v_load (v := (0, 2)) (hi_X12_no_1 hT) rfl rfl ?_
    refine v_putf (r := 121) hO (hi_X12_no_2 hT) rfl (fun hf7 => ?_)
    refine v_push (0) (hi_X12_no_5 hT) rfl ?_
    refine v_ret (hi_X12_no_6 hT) (Or.inl rfl) ?_
    show vP D T N 239 32 (zset (zset (zset h 121 1 (0, 0)) 121 0 (0, 0)) 121 0 (0, 2)) [some (2, 121), some (0, x), some (0, y), some (0, z)] [(0, 0)] _
    refine v_ret (hi_X12_honey_32 hT) (Or.inl rfl) ?_
    exact k0 hc5
  · have hc5 : 0 ≤ x := Int.not_lt.mp hc5
    refine v_load (v := (1, x)) (hi_X12_isIn_6 hT) rfl rfl ?_
    refine v_load (v := (1, ((P 0 2) - 1))) (hi_X12_isIn_7 hT) rfl rfl ?_
    refine v_lif (hi_X12_isIn_9 hT) (hi_X12_isIn_10 hT) (fun hc8 => ?_) (fun hc8 => ?_)
    · have hc8 : ((P 0 2) - 1) < x := hc8
      refine v_push (0) (hi_X12_isIn_17 hT) rfl ?_
      refine v_ret (hi_X12_isIn_18 hT) (Or.inl rfl) ?_
      show vP D T N 248 15 (zset (zset h 121 1 (0, 0)) 121 0 (0, 0)) [some (2, 121), some (0, x)] [(0, 0)] _
      refine v_ret (hi_X12_isCopy_15 hT) (Or.inl rfl) ?_
      show vP D T N 239 15 (zset (zset h 121 1 (0, 0)) 121 0 (0, 0)) [some (2, 121), some (0, x), some (0, y), some (0, z)] [(0, 0)] _
      refine v_if (hz_X12_honey hT _ _ rfl) (fun _ => ?_) (fun hc9 => absurd (show (0 : Int) = 0 from (by decide)) hc9)
      refine v_load (v := (2, 121)) (hi_X12_honey_27 hT) rfl rfl ?_
      refine v_push (2) (hi_X12_honey_28 hT) rfl ?_
      refine v_call (w := 2) [some (2, 121), some (0, 2)] hO (hi_X12_honey_29 hT) rfl rfl ?_
      refine v_load (v := (2, 121)) (hi_X12_no_0 hT) rfl rfl ?_
      refine v_load (v := (0, 2)) (hi_X12_no_1 hT) rfl rfl ?_
      refine v_putf (r := 121) hO (hi_X12_no_2 hT) rfl (fun hf10 => ?_)
      refine v_push (0) (hi_X12_no_5 hT) rfl ?_
      refine v_ret (hi_X12_no_6 hT) (Or.inl rfl) ?_
      show vP D T N 239 32 (zset (zset (zset h 121 1 (0, 0)) 121 0 (0, 0)) 121 0 (0, 2)) [some (2, 121), some (0, x), some (0, y), some (0, z)] [(0, 0)] _
      refine v_ret (hi_X12_honey_32 hT) (Or.inl rfl) ?_
      exact k1 hc5 hc8
    · have hc8 : x ≤ ((P 0 2) - 1) := Int.not_lt.mp hc8
      refine v_push (1) (hi_X12_isIn_13 hT) rfl ?_
      refine v_goto (hi_X12_isIn_14 hT) ?_
      refine v_ret (hi_X12_isIn_18 hT) (Or.inl rfl) ?_
      show vP D T N 248 15 (zset (zset h 121 1 (0, 0)) 121 0 (0, 0)) [some (2, 121), some (0, x)] [(0, 1)] _
      refine v_ret (hi_X12_isCopy_15 hT) (Or.inl rfl) ?_
      show vP D T N 239 15 (zset (zset h 121 1 (0, 0)) 121 0 (0, 0)) [some (2, 121), some (0, x), some (0, y), some (0, z)] [(0, 1)] _
      refine v_if (hz_X12_honey hT _ _ rfl) (fun hc11 => absurd (show (1 : Int) = 0 from hc11) (by decide)) (fun _ => ?_)
      refine v_load (v := (2, 121)) (hz_X12_honey hT _ _ rfl) rfl rfl ?_
      refine v_load (v := (0, y)) (hz_X12_honey hT _ _ rfl) rfl rfl ?_
      refine v_load (v := (0, z)) (hz_X12_honey hT _ _ rfl) rfl rfl ?_
      refine v_call (w := 3) [some (2, 121), some (0, y), some (0, z)] hO (hz_X12_honey hT _ _ rfl) rfl rfl ?_
      refine v_load (v := (0, y)) (hi_X12_isCell_0 hT) rfl rfl ?_
      refine v_i2l (hi_X12_isCell_1 hT) ?_
      refine v_push (0) (hi_X12_isCell_2 hT) rfl ?_
      refine v_load (v := (2, 121)) (hi_X12_isCell_3 hT) rfl rfl ?_
      refine v_getR (c := 126) (r := 121) (hi_X12_isCell_4 hT) rfl rfl rfl ?_
      refine v_push (0) (hi_X12_isCell_7 hT) rfl ?_
      refine v_aldV (v := (0, (P 0 0))) (r := 126) (hi_X12_isCell_8 hT) rfl rfl (fun _ _ _ => (Eq.trans (Eq.trans (zset_ne (fun c => absurd c.1 (by decide))) (zset_ne (fun c => absurd c.1 (by decide)))) (p0))) (fun ha12 hb13 => ?_)
      refine v_push (1) (hi_X12_isCell_9 hT) rfl ?_
      refine v_bin (w := ((P 0 0) - 1)) (hi_X12_isCell_10 hT) (hq_sub (by omega) (by omega)) ?_
      refine v_i2l (hi_X12_isCell_11 hT) ?_
      refine v_call (w := 6) [some (1, y), none, some (1, 0), none, some (1, ((P 0 0) - 1)), none] hO (hi_X12_isCell_12 hT) rfl rfl ?_
      refine v_load (v := (1, y)) (hi_X12_isIn_0 hT) rfl rfl ?_
      refine v_load (v := (1, 0)) (hi_X12_isIn_1 hT) rfl rfl ?_
      refine v_lif (hi_X12_isIn_2 hT) (hi_X12_isIn_3 hT) (fun hc14 => ?_) (fun hc14 => ?_)
      · have hc14 : y < 0 := hc14
        refine v_push (0) (hi_X12_isIn_17 hT) rfl ?_
        refine v_ret (hi_X12_isIn_18 hT) (Or.inl rfl) ?_
        show vP D T N 244 15 (zset (zset h 121 1 (0, 0)) 121 0 (0, 0)) [some (2, 121), some (0, y), some (0, z)] [(0, 0)] _
        refine v_if (hi_X12_isCell_15 hT) (fun _ => ?_) (fun hc15 => absurd (show (0 : Int) = 0 from (by decide)) hc15)
        refine v_push (0) (hi_X12_isCell_40 hT) rfl ?_
        refine v_ret (hi_X12_isCell_41 hT) (Or.inl rfl) ?_
        show vP D T N 239 24 (zset (zset h 121 1 (0, 0)) 121 0 (0, 0)) [some (2, 121), some (0, x), some (0, y), some (0, z)] [(0, 0)] _
        refine v_if (hi_X12_honey_24 hT) (fun _ => ?_) (fun hc16 => absurd (show (0 : Int) = 0 from (by decide)) hc16)
        refine v_load (v := (2, 121)) (hi_X12_honey_27 hT) rfl rfl ?_
        refine v_push (2) (hi_X12_honey_28 hT) rfl ?_
        refine v_call (w := 2) [some (2, 121), some (0, 2)] hO (hi_X12_honey_29 hT) rfl rfl ?_
        refine v_load (v := (2, 121)) (hi_X12_no_0 hT) rfl rfl ?_
        refine v_load (v := (0, 2)) (hi_X12_no_1 hT) rfl rfl ?_
        refine v_putf (r := 121) hO (hi_X12_no_2 hT) rfl (fun hf17 => ?_)
        refine v_push (0) (hi_X12_no_5 hT) rfl ?_
        refine v_ret (hi_X12_no_6 hT) (Or.inl rfl) ?_
        show vP D T N 239 32 (zset (zset (zset h 121 1 (0, 0)) 121 0 (0, 0)) 121 0 (0, 2)) [some (2, 121), some (0, x), some (0, y), some (0, z)] [(0, 0)] _
        refine v_ret (hi_X12_honey_32 hT) (Or.inl rfl) ?_
        exact k2 hc5 hc8 hc14
      · have hc14 : 0 ≤ y := Int.not_lt.mp hc14
        refine v_load (v := (1, y)) (hi_X12_isIn_6 hT) rfl rfl ?_
        refine v_load (v := (1, ((P 0 0) - 1))) (hi_X12_isIn_7 hT) rfl rfl ?_
        refine v_lif (hi_X12_isIn_9 hT) (hi_X12_isIn_10 hT) (fun hc18 => ?_) (fun hc18 => ?_)
        · have hc18 : ((P 0 0) - 1) < y := hc18
          refine v_push (0) (hi_X12_isIn_17 hT) rfl ?_
          refine v_ret (hi_X12_isIn_18 hT) (Or.inl rfl) ?_
          show vP D T N 244 15 (zset (zset h 121 1 (0, 0)) 121 0 (0, 0)) [some (2, 121), some (0, y), some (0, z)] [(0, 0)] _
          refine v_if (hi_X12_isCell_15 hT) (fun _ => ?_) (fun hc19 => absurd (show (0 : Int) = 0 from (by decide)) hc19)
          refine v_push (0) (hi_X12_isCell_40 hT) rfl ?_
          refine v_ret (hi_X12_isCell_41 hT) (Or.inl rfl) ?_
          show vP D T N 239 24 (zset (zset h 121 1 (0, 0)) 121 0 (0, 0)) [some (2, 121), some (0, x), some (0, y), some (0, z)] [(0, 0)] _
          refine v_if (hi_X12_honey_24 hT) (fun _ => ?_) (fun hc20 => absurd (show (0 : Int) = 0 from (by decide)) hc20)
          refine v_load (v := (2, 121)) (hi_X12_honey_27 hT) rfl rfl ?_
          refine v_push (2) (hi_X12_honey_28 hT) rfl ?_
          refine v_call (w := 2) [some (2, 121), some (0, 2)] hO (hi_X12_honey_29 hT) rfl rfl ?_
          refine v_load (v := (2, 121)) (hi_X12_no_0 hT) rfl rfl ?_
          refine v_load (v := (0, 2)) (hi_X12_no_1 hT) rfl rfl ?_
          refine v_putf (r := 121) hO (hi_X12_no_2 hT) rfl (fun hf21 => ?_)
          refine v_push (0) (hi_X12_no_5 hT) rfl ?_
          refine v_ret (hi_X12_no_6 hT) (Or.inl rfl) ?_
          show vP D T N 239 32 (zset (zset (zset h 121 1 (0, 0)) 121 0 (0, 0)) 121 0 (0, 2)) [some (2, 121), some (0, x), some (0, y), some (0, z)] [(0, 0)] _
          refine v_ret (hi_X12_honey_32 hT) (Or.inl rfl) ?_
          exact k3 hc5 hc8 hc14 hc18
        · have hc18 : y ≤ ((P 0 0) - 1) := Int.not_lt.mp hc18
          refine v_push (1) (hi_X12_isIn_13 hT) rfl ?_
          refine v_goto (hi_X12_isIn_14 hT) ?_
          refine v_ret (hi_X12_isIn_18 hT) (Or.inl rfl) ?_
          show vP D T N 244 15 (zset (zset h 121 1 (0, 0)) 121 0 (0, 0)) [some (2, 121), some (0, y), some (0, z)] [(0, 1)] _
          refine v_if (hi_X12_isCell_15 hT) (fun hc22 => absurd (show (1 : Int) = 0 from hc22) (by decide)) (fun _ => ?_)
          refine v_load (v := (0, z)) (hi_X12_isCell_18 hT) rfl rfl ?_
          refine v_i2l (hi_X12_isCell_19 hT) ?_
          refine v_push (0) (hi_X12_isCell_20 hT) rfl ?_
          refine v_load (v := (2, 121)) (hi_X12_isCell_21 hT) rfl rfl ?_
          refine v_getR (c := 126) (r := 121) (hi_X12_isCell_22 hT) rfl rfl rfl ?_
          refine v_push (1) (hi_X12_isCell_25 hT) rfl ?_
          refine v_aldV (v := (0, (P 0 1))) (r := 126) (hi_X12_isCell_26 hT) rfl rfl (fun _ _ _ => (Eq.trans (Eq.trans (zset_ne (fun c => absurd c.1 (by decide))) (zset_ne (fun c => absurd c.1 (by decide)))) (p1))) (fun ha23 hb24 => ?_)
          refine v_push (1) (hi_X12_isCell_27 hT) rfl ?_
          refine v_bin (w := ((P 0 1) - 1)) (hi_X12_isCell_28 hT) (hq_sub (by omega) (by omega)) ?_
          refine v_i2l (hi_X12_isCell_29 hT) ?_
          refine v_call (w := 6) [some (1, z), none, some (1, 0), none, some (1, ((P 0 1) - 1)), none] hO (hi_X12_isCell_30 hT) rfl rfl ?_
          refine v_load (v := (1, z)) (hi_X12_isIn_0 hT) rfl rfl ?_
          refine v_load (v := (1, 0)) (hi_X12_isIn_1 hT) rfl rfl ?_
          refine v_lif (hi_X12_isIn_2 hT) (hi_X12_isIn_3 hT) (fun hc25 => ?_) (fun hc25 => ?_)
          · have hc25 : z < 0 := hc25
            refine v_push (0) (hi_X12_isIn_17 hT) rfl ?_
            refine v_ret (hi_X12_isIn_18 hT) (Or.inl rfl) ?_
            show vP D T N 244 33 (zset (zset h 121 1 (0, 0)) 121 0 (0, 0)) [some (2, 121), some (0, y), some (0, z)] [(0, 0)] _
            refine v_if (hi_X12_isCell_33 hT) (fun _ => ?_) (fun hc26 => absurd (show (0 : Int) = 0 from (by decide)) hc26)
            refine v_push (0) (hi_X12_isCell_40 hT) rfl ?_
            refine v_ret (hi_X12_isCell_41 hT) (Or.inl rfl) ?_
            show vP D T N 239 24 (zset (zset h 121 1 (0, 0)) 121 0 (0, 0)) [some (2, 121), some (0, x), some (0, y), some (0, z)] [(0, 0)] _
            refine v_if (hi_X12_honey_24 hT) (fun _ => ?_) (fun hc27 => absurd (show (0 : Int) = 0 from (by decide)) hc27)
            refine v_load (v := (2, 121)) (hi_X12_honey_27 hT) rfl rfl ?_
            refine v_push (2) (hi_X12_honey_28 hT) rfl ?_
            refine v_call (w := 2) [some (2, 121), some (0, 2)] hO (hi_X12_honey_29 hT) rfl rfl ?_
            refine v_load (v := (2, 121)) (hi_X12_no_0 hT) rfl rfl ?_
            refine v_load (v := (0, 2)) (hi_X12_no_1 hT) rfl rfl ?_
            refine v_putf (r := 121) hO (hi_X12_no_2 hT) rfl (fun hf28 => ?_)
            refine v_push (0) (hi_X12_no_5 hT) rfl ?_
            refine v_ret (hi_X12_no_6 hT) (Or.inl rfl) ?_
            show vP D T N 239 32 (zset (zset (zset h 121 1 (0, 0)) 121 0 (0, 0)) 121 0 (0, 2)) [some (2, 121), some (0, x), some (0, y), some (0, z)] [(0, 0)] _
            refine v_ret (hi_X12_honey_32 hT) (Or.inl rfl) ?_
            exact k4 hc5 hc8 hc14 hc18 hc25
          · have hc25 : 0 ≤ z := Int.not_lt.mp hc25
            refine v_load (v := (1, z)) (hi_X12_isIn_6 hT) rfl rfl ?_
            refine v_load (v := (1, ((P 0 1) - 1))) (hi_X12_isIn_7 hT) rfl rfl ?_
            refine v_lif (hi_X12_isIn_9 hT) (hi_X12_isIn_10 hT) (fun hc29 => ?_) (fun hc29 => ?_)
            · have hc29 : ((P 0 1) - 1) < z := hc29
              refine v_push (0) (hi_X12_isIn_17 hT) rfl ?_
              refine v_ret (hi_X12_isIn_18 hT) (Or.inl rfl) ?_
              show vP D T N 244 33 (zset (zset h 121 1 (0, 0)) 121 0 (0, 0)) [some (2, 121), some (0, y), some (0, z)] [(0, 0)] _
              refine v_if (hi_X12_isCell_33 hT) (fun _ => ?_) (fun hc30 => absurd (show (0 : Int) = 0 from (by decide)) hc30)
              refine v_push (0) (hi_X12_isCell_40 hT) rfl ?_
              refine v_ret (hi_X12_isCell_41 hT) (Or.inl rfl) ?_
              show vP D T N 239 24 (zset (zset h 121 1 (0, 0)) 121 0 (0, 0)) [some (2, 121), some (0, x), some (0, y), some (0, z)] [(0, 0)] _
              refine v_if (hi_X12_honey_24 hT) (fun _ => ?_) (fun hc31 => absurd (show (0 : Int) = 0 from (by decide)) hc31)
              refine v_load (v := (2, 121)) (hi_X12_honey_27 hT) rfl rfl ?_
              refine v_push (2) (hi_X12_honey_28 hT) rfl ?_
              refine v_call (w := 2) [some (2, 121), some (0, 2)] hO (hi_X12_honey_29 hT) rfl rfl ?_
              refine v_load (v := (2, 121)) (hi_X12_no_0 hT) rfl rfl ?_
              refine v_load (v := (0, 2)) (hi_X12_no_1 hT) rfl rfl ?_
              refine v_putf (r := 121) hO (hi_X12_no_2 hT) rfl (fun hf32 => ?_)
              refine v_push (0) (hi_X12_no_5 hT) rfl ?_
              refine v_ret (hi_X12_no_6 hT) (Or.inl rfl) ?_
              show vP D T N 239 32 (zset (zset (zset h 121 1 (0, 0)) 121 0 (0, 0)) 121 0 (0, 2)) [some (2, 121), some (0, x), some (0, y), some (0, z)] [(0, 0)] _
              refine v_ret (hi_X12_honey_32 hT) (Or.inl rfl) ?_
              exact k5 hc5 hc8 hc14 hc18 hc25 hc29
            · have hc29 : z ≤ ((P 0 1) - 1) := Int.not_lt.mp hc29
              refine v_push (1) (hi_X12_isIn_13 hT) rfl ?_
              refine v_goto (hi_X12_isIn_14 hT) ?_
              refine v_ret (hi_X12_isIn_18 hT) (Or.inl rfl) ?_
              show vP D T N 244 33 (zset (zset h 121 1 (0, 0)) 121 0 (0, 0)) [some (2, 121), some (0, y), some (0, z)] [(0, 1)] _
              refine v_if (hi_X12_isCell_33 hT) (fun hc33 => absurd (show (1 : Int) = 0 from hc33) (by decide)) (fun _ => ?_)
              refine v_push (1) (hi_X12_isCell_36 hT) rfl ?_
              refine v_goto (hi_X12_isCell_37 hT) ?_
              refine v_ret (hi_X12_isCell_41 hT) (Or.inl rfl) ?_
              show vP D T N 239 24 (zset (zset h 121 1 (0, 0)) 121 0 (0, 0)) [some (2, 121), some (0, x), some (0, y), some (0, z)] [(0, 1)] _
              refine v_if (hi_X12_honey_24 hT) (fun hc34 => absurd (show (1 : Int) = 0 from hc34) (by decide)) (fun _ => ?_)
              exact k6 hc5 hc8 hc14 hc18 hc25 hc29
theorem qs_honey33 {D : zD} {T : zT} (hT : hTab T) (hO : vOK T) {N : Nat} {h : zH} {Q : zR → Prop} {P : PT} {j u v : Nat} (hv0 : zHv h) (p0 : h 126 0 = (0, P 0 0)) (lb : lB P) (bu : u < 8) (bv : v < 6)
    (k0 : vP D T N 240 0 h [some (2, 121), some (0, (j : Int)), some (0, ((P 0 0) * (v : Int) + (u : Int)))] [] (fun r1 => vP D T N 239 44 r1.1 [some (2, 121), some (0, (j : Int)), some (0, (u : Int)), some (0, (v : Int))] (zpush r1.2 []) Q)) :
    vP D T N 239 33 h [some (2, 121), some (0, (j : Int)), some (0, (u : Int)), some (0, (v : Int))] [] Q := by
  refine v_load (v := (2, 121)) (hz_X12_honey hT _ _ rfl) rfl rfl ?_
  refine v_load (v := (0, (j : Int))) (hz_X12_honey hT _ _ rfl) rfl rfl ?_
  refine v_load (v := (2, 121)) (hz_X12_honey hT _ _ rfl) rfl rfl ?_
  refine v_load (v := (0, (u : Int))) (hz_X12_honey hT _ _ rfl) rfl rfl ?_
  refine v_load (v := (0, (v : Int))) (hz_X12_honey hT _ _ rfl) rfl rfl ?_
  refine v_call (w := 3) [some (2, 121), some (0, (u : Int)), some (0, (v : Int))] hO (hz_X12_honey hT _ _ rfl) rfl rfl (rb_at2 hT hO ((u : Int)) ((v : Int)) (by omega) (by omega) p0 lb ?_)
  show vP D T N 239 41 h [some (2, 121), some (0, (j : Int)), some (0, (u : Int)), some (0, (v : Int))] [(0, ((P 0 0) * (v : Int) + (u : Int))), (0, (j : Int)), (2, 121)] _
  refine v_call (w := 3) [some (2, 121), some (0, (j : Int)), some (0, ((P 0 0) * (v : Int) + (u : Int)))] hO (hz_X12_honey hT _ _ rfl) rfl rfl ?_
  exact k0 
theorem qs_clean0 {D : zD} {T : zT} (hT : hTab T) (hO : vOK T) {N : Nat} {h : zH} {Q : zR → Prop} {P : PT} (x y z : Int) (hv0 : zHv h) (p0 : h 126 0 = (0, P 0 0)) (p1 : h 126 1 = (0, P 0 1)) (p2 : h 126 2 = (0, P 0 2)) (p3 : h 126 3 = (0, P 0 3)) (lb : (0 ≤ P 0 0 ∧ P 0 0 ≤ 8) ∧ (0 ≤ P 0 1 ∧ P 0 1 ≤ 6) ∧ (0 ≤ P 0 2 ∧ P 0 2 ≤ 3) ∧ (0 ≤ P 0 3 ∧ P 0 3 ≤ 6))
    (k0 : (x < 0) → Q (zset (zset (zset h 121 1 (0, 0)) 121 0 (0, 0)) 121 0 (0, 2), some (0, 0)))
    (k1 : (0 ≤ x) → (((P 0 2) - 1) < x) → Q (zset (zset (zset h 121 1 (0, 0)) 121 0 (0, 0)) 121 0 (0, 2), some (0, 0)))
    (k2 : (0 ≤ x) → (x ≤ ((P 0 2) - 1)) → (y < 0) → Q (zset (zset (zset h 121 1 (0, 0)) 121 0 (0, 0)) 121 0 (0, 2), some (0, 0)))
    (k3 : (0 ≤ x) → (x ≤ ((P 0 2) - 1)) → (0 ≤ y) → (((P 0 0) - 1) < y) → Q (zset (zset (zset h 121 1 (0, 0)) 121 0 (0, 0)) 121 0 (0, 2), some (0, 0)))
    (k4 : (0 ≤ x) → (x ≤ ((P 0 2) - 1)) → (0 ≤ y) → (y ≤ ((P 0 0) - 1)) → (z < 0) → Q (zset (zset (zset h 121 1 (0, 0)) 121 0 (0, 0)) 121 0 (0, 2), some (0, 0)))
    (k5 : (0 ≤ x) → (x ≤ ((P 0 2) - 1)) → (0 ≤ y) → (y ≤ ((P 0 0) - 1)) → (0 ≤ z) → (((P 0 1) - 1) < z) → Q (zset (zset (zset h 121 1 (0, 0)) 121 0 (0, 0)) 121 0 (0, 2), some (0, 0)))
    (k6 : (0 ≤ x) → (x ≤ ((P 0 2) - 1)) → (0 ≤ y) → (y ≤ ((P 0 0) - 1)) → (0 ≤ z) → (z ≤ ((P 0 1) - 1)) → vP D T N 208 33 (zset (zset h 121 1 (0, 0)) 121 0 (0, 0)) [some (2, 121), some (0, x), some (0, y), some (0, z)] [] Q) :
    vP D T N 208 0 h [some (2, 121), some (0, x), some (0, y), some (0, z)] [] Q := by
  refine v_load (v := (2, 121)) (hz_X12_clean hT _ _ rfl) rfl rfl ?_
  refine v_push (0) (hz_X12_clean hT _ _ rfl) rfl ?_
  refine v_putf (r := 121) hO (hz_X12_clean hT _ _ rfl) rfl (fun hf1 => ?_)
  refine v_load (v := (2, 121)) (hz_X12_clean hT _ _ rfl) rfl rfl ?_
  refine v_push (0) (hz_X12_clean hT _ _ rfl) rfl ?_
  refine v_putf (r := 121) hO (hz_X12_clean hT _ _ rfl) rfl (fun hf2 => ?_)
  refine v_load (v := (2, 121)) (hz_X12_clean hT _ _ rfl) rfl rfl ?_
  refine v_load (v := (0, x)) (hz_X12_clean hT _ _ rfl) rfl rfl ?_
  refine v_call (w := 2) [some (2, 121), some (0, x)] hO (hz_X12_clean hT _ _ rfl) rfl rfl ?_
  refine v_load (v := (0, x)) (hi_X12_isCopy_0 hT) rfl rfl ?_
  refine v_i2l (hi_X12_isCopy_1 hT) ?_
  refine v_push (0) (hi_X12_isCopy_2 hT) rfl ?_
  refine v_load (v := (2, 121)) (hi_X12_isCopy_3 hT) rfl rfl ?_
  refine v_getR (c := 126) (r := 121) (hi_X12_isCopy_4 hT) rfl rfl rfl ?_
  refine v_push (2) (hi_X12_isCopy_7 hT) rfl ?_
  refine v_aldV (v := (0, (P 0 2))) (r := 126) (hi_X12_isCopy_8 hT) rfl rfl (fun _ _ _ => (Eq.trans (Eq.trans (zset_ne (fun c => absurd c.1 (by decide))) (zset_ne (fun c => absurd c.1 (by decide)))) (p2))) (fun ha3 hb4 => ?_)
  refine v_push (1) (hi_X12_isCopy_9 hT) rfl ?_
  refine v_bin (w := ((P 0 2) - 1)) (hi_X12_isCopy_10 hT) (hq_sub (by omega) (by omega)) ?_
  refine v_i2l (hi_X12_isCopy_11 hT) ?_
  refine v_call (w := 6) [some (1, x), none, some (1, 0), none, some (1, ((P 0 2) - 1)), none] hO (hi_X12_isCopy_12 hT) rfl rfl ?_
  refine v_load (v := (1, x)) (hi_X12_isIn_0 hT) rfl rfl ?_
  refine v_load (v := (1, 0)) (hi_X12_isIn_1 hT) rfl rfl ?_
  refine v_lif (hi_X12_isIn_2 hT) (hi_X12_isIn_3 hT) (fun hc5 => ?_) (fun hc5 => ?_)
  · have hc5 : x < 0 := hc5
    refine v_push (0) (hi_X12_isIn_17 hT) rfl ?_
    refine v_ret (hi_X12_isIn_18 hT) (Or.inl rfl) ?_
    show vP D T N 248 15 (zset (zset h 121 1 (0, 0)) 121 0 (0, 0)) [some (2, 121), some (0, x)] [(0, 0)] _
    refine v_ret (hi_X12_isCopy_15 hT) (Or.inl rfl) ?_
    show vP D T N 208 15 (zset (zset h 121 1 (0, 0)) 121 0 (0, 0)) [some (2, 121), some (0, x), some (0, y), some (0, z)] [(0, 0)] _
    refine v_if (hz_X12_clean hT _ _ rfl) (fun _ => ?_) (fun hc6 => absurd (show (0 : Int) = 0 from (by decide)) hc6)
    refine v_load (v := (2, 121)) (hi_X12_clean_27 hT) rfl rfl ?_
    refine v_push (2) (hi_X12_clean_28 hT) rfl ?_
    refine v_call (w := 2) [some (2, 121), some (0, 2)] hO (hi_X12_clean_29 hT) rfl rfl ?_
    refine v_load (v := (2, 121)) (hi_X12_no_0 hT) rfl rfl ?_
    refine v_load (v := (0, 2)) (hi_X12_no_1 hT) rfl rfl ?_
    refine v_putf (r := 121) hO (hi_X12_no_2 hT) rfl (fun hf7 => ?_)
    refine v_push (0) (hi_X12_no_5 hT) rfl ?_
    refine v_ret (hi_X12_no_6 hT) (Or.inl rfl) ?_
    show vP D T N 208 32 (zset (zset (zset h 121 1 (0, 0)) 121 0 (0, 0)) 121 0 (0, 2)) [some (2, 121), some (0, x), some (0, y), some (0, z)] [(0, 0)] _
    refine v_ret (hi_X12_clean_32 hT) (Or.inl rfl) ?_
    exact k0 hc5
  · have hc5 : 0 ≤ x := Int.not_lt.mp hc5
    refine v_load (v := (1, x)) (hi_X12_isIn_6 hT) rfl rfl ?_
    refine v_load (v := (1, ((P 0 2) - 1))) (hi_X12_isIn_7 hT) rfl rfl ?_
    refine v_lif (hi_X12_isIn_9 hT) (hi_X12_isIn_10 hT) (fun hc8 => ?_) (fun hc8 => ?_)
    · have hc8 : ((P 0 2) - 1) < x := hc8
      refine v_push (0) (hi_X12_isIn_17 hT) rfl ?_
      refine v_ret (hi_X12_isIn_18 hT) (Or.inl rfl) ?_
      show vP D T N 248 15 (zset (zset h 121 1 (0, 0)) 121 0 (0, 0)) [some (2, 121), some (0, x)] [(0, 0)] _
      refine v_ret (hi_X12_isCopy_15 hT) (Or.inl rfl) ?_
      show vP D T N 208 15 (zset (zset h 121 1 (0, 0)) 121 0 (0, 0)) [some (2, 121), some (0, x), some (0, y), some (0, z)] [(0, 0)] _
      refine v_if (hz_X12_clean hT _ _ rfl) (fun _ => ?_) (fun hc9 => absurd (show (0 : Int) = 0 from (by decide)) hc9)
      refine v_load (v := (2, 121)) (hi_X12_clean_27 hT) rfl rfl ?_
      refine v_push (2) (hi_X12_clean_28 hT) rfl ?_
      refine v_call (w := 2) [some (2, 121), some (0, 2)] hO (hi_X12_clean_29 hT) rfl rfl ?_
      refine v_load (v := (2, 121)) (hi_X12_no_0 hT) rfl rfl ?_
      refine v_load (v := (0, 2)) (hi_X12_no_1 hT) rfl rfl ?_
      refine v_putf (r := 121) hO (hi_X12_no_2 hT) rfl (fun hf10 => ?_)
      refine v_push (0) (hi_X12_no_5 hT) rfl ?_
      refine v_ret (hi_X12_no_6 hT) (Or.inl rfl) ?_
      show vP D T N 208 32 (zset (zset (zset h 121 1 (0, 0)) 121 0 (0, 0)) 121 0 (0, 2)) [some (2, 121), some (0, x), some (0, y), some (0, z)] [(0, 0)] _
      refine v_ret (hi_X12_clean_32 hT) (Or.inl rfl) ?_
      exact k1 hc5 hc8
    · have hc8 : x ≤ ((P 0 2) - 1) := Int.not_lt.mp hc8
      refine v_push (1) (hi_X12_isIn_13 hT) rfl ?_
      refine v_goto (hi_X12_isIn_14 hT) ?_
      refine v_ret (hi_X12_isIn_18 hT) (Or.inl rfl) ?_
      show vP D T N 248 15 (zset (zset h 121 1 (0, 0)) 121 0 (0, 0)) [some (2, 121), some (0, x)] [(0, 1)] _
      refine v_ret (hi_X12_isCopy_15 hT) (Or.inl rfl) ?_
      show vP D T N 208 15 (zset (zset h 121 1 (0, 0)) 121 0 (0, 0)) [some (2, 121), some (0, x), some (0, y), some (0, z)] [(0, 1)] _
      refine v_if (hz_X12_clean hT _ _ rfl) (fun hc11 => absurd (show (1 : Int) = 0 from hc11) (by decide)) (fun _ => ?_)
      refine v_load (v := (2, 121)) (hz_X12_clean hT _ _ rfl) rfl rfl ?_
      refine v_load (v := (0, y)) (hz_X12_clean hT _ _ rfl) rfl rfl ?_
      refine v_load (v := (0, z)) (hz_X12_clean hT _ _ rfl) rfl rfl ?_
      refine v_call (w := 3) [some (2, 121), some (0, y), some (0, z)] hO (hz_X12_clean hT _ _ rfl) rfl rfl ?_
      refine v_load (v := (0, y)) (hi_X12_isCell_0 hT) rfl rfl ?_
      refine v_i2l (hi_X12_isCell_1 hT) ?_
      refine v_push (0) (hi_X12_isCell_2 hT) rfl ?_
      refine v_load (v := (2, 121)) (hi_X12_isCell_3 hT) rfl rfl ?_
      refine v_getR (c := 126) (r := 121) (hi_X12_isCell_4 hT) rfl rfl rfl ?_
      refine v_push (0) (hi_X12_isCell_7 hT) rfl ?_
      refine v_aldV (v := (0, (P 0 0))) (r := 126) (hi_X12_isCell_8 hT) rfl rfl (fun _ _ _ => (Eq.trans (Eq.trans (zset_ne (fun c => absurd c.1 (by decide))) (zset_ne (fun c => absurd c.1 (by decide)))) (p0))) (fun ha12 hb13 => ?_)
      refine v_push (1) (hi_X12_isCell_9 hT) rfl ?_
      refine v_bin (w := ((P 0 0) - 1)) (hi_X12_isCell_10 hT) (hq_sub (by omega) (by omega)) ?_
      refine v_i2l (hi_X12_isCell_11 hT) ?_
      refine v_call (w := 6) [some (1, y), none, some (1, 0), none, some (1, ((P 0 0) - 1)), none] hO (hi_X12_isCell_12 hT) rfl rfl ?_
      refine v_load (v := (1, y)) (hi_X12_isIn_0 hT) rfl rfl ?_
      refine v_load (v := (1, 0)) (hi_X12_isIn_1 hT) rfl rfl ?_
      refine v_lif (hi_X12_isIn_2 hT) (hi_X12_isIn_3 hT) (fun hc14 => ?_) (fun hc14 => ?_)
      · have hc14 : y < 0 := hc14
        refine v_push (0) (hi_X12_isIn_17 hT) rfl ?_
        refine v_ret (hi_X12_isIn_18 hT) (Or.inl rfl) ?_
        show vP D T N 244 15 (zset (zset h 121 1 (0, 0)) 121 0 (0, 0)) [some (2, 121), some (0, y), some (0, z)] [(0, 0)] _
        refine v_if (hi_X12_isCell_15 hT) (fun _ => ?_) (fun hc15 => absurd (show (0 : Int) = 0 from (by decide)) hc15)
        refine v_push (0) (hi_X12_isCell_40 hT) rfl ?_
        refine v_ret (hi_X12_isCell_41 hT) (Or.inl rfl) ?_
        show vP D T N 208 24 (zset (zset h 121 1 (0, 0)) 121 0 (0, 0)) [some (2, 121), some (0, x), some (0, y), some (0, z)] [(0, 0)] _
        refine v_if (hi_X12_clean_24 hT) (fun _ => ?_) (fun hc16 => absurd (show (0 : Int) = 0 from (by decide)) hc16)
        refine v_load (v := (2, 121)) (hi_X12_clean_27 hT) rfl rfl ?_
        refine v_push (2) (hi_X12_clean_28 hT) rfl ?_
        refine v_call (w := 2) [some (2, 121), some (0, 2)] hO (hi_X12_clean_29 hT) rfl rfl ?_
        refine v_load (v := (2, 121)) (hi_X12_no_0 hT) rfl rfl ?_
        refine v_load (v := (0, 2)) (hi_X12_no_1 hT) rfl rfl ?_
        refine v_putf (r := 121) hO (hi_X12_no_2 hT) rfl (fun hf17 => ?_)
        refine v_push (0) (hi_X12_no_5 hT) rfl ?_
        refine v_ret (hi_X12_no_6 hT) (Or.inl rfl) ?_
        show vP D T N 208 32 (zset (zset (zset h 121 1 (0, 0)) 121 0 (0, 0)) 121 0 (0, 2)) [some (2, 121), some (0, x), some (0, y), some (0, z)] [(0, 0)] _
        refine v_ret (hi_X12_clean_32 hT) (Or.inl rfl) ?_
        exact k2 hc5 hc8 hc14
      · have hc14 : 0 ≤ y := Int.not_lt.mp hc14
        refine v_load (v := (1, y)) (hi_X12_isIn_6 hT) rfl rfl ?_
        refine v_load (v := (1, ((P 0 0) - 1))) (hi_X12_isIn_7 hT) rfl rfl ?_
        refine v_lif (hi_X12_isIn_9 hT) (hi_X12_isIn_10 hT) (fun hc18 => ?_) (fun hc18 => ?_)
        · have hc18 : ((P 0 0) - 1) < y := hc18
          refine v_push (0) (hi_X12_isIn_17 hT) rfl ?_
          refine v_ret (hi_X12_isIn_18 hT) (Or.inl rfl) ?_
          show vP D T N 244 15 (zset (zset h 121 1 (0, 0)) 121 0 (0, 0)) [some (2, 121), some (0, y), some (0, z)] [(0, 0)] _
          refine v_if (hi_X12_isCell_15 hT) (fun _ => ?_) (fun hc19 => absurd (show (0 : Int) = 0 from (by decide)) hc19)
          refine v_push (0) (hi_X12_isCell_40 hT) rfl ?_
          refine v_ret (hi_X12_isCell_41 hT) (Or.inl rfl) ?_
          show vP D T N 208 24 (zset (zset h 121 1 (0, 0)) 121 0 (0, 0)) [some (2, 121), some (0, x), some (0, y), some (0, z)] [(0, 0)] _
          refine v_if (hi_X12_clean_24 hT) (fun _ => ?_) (fun hc20 => absurd (show (0 : Int) = 0 from (by decide)) hc20)
          refine v_load (v := (2, 121)) (hi_X12_clean_27 hT) rfl rfl ?_
          refine v_push (2) (hi_X12_clean_28 hT) rfl ?_
          refine v_call (w := 2) [some (2, 121), some (0, 2)] hO (hi_X12_clean_29 hT) rfl rfl ?_
          refine v_load (v := (2, 121)) (hi_X12_no_0 hT) rfl rfl ?_
          refine v_load (v := (0, 2)) (hi_X12_no_1 hT) rfl rfl ?_
          refine v_putf (r := 121) hO (hi_X12_no_2 hT) rfl (fun hf21 => ?_)
          refine v_push (0) (hi_X12_no_5 hT) rfl ?_
          refine v_ret (hi_X12_no_6 hT) (Or.inl rfl) ?_
          show vP D T N 208 32 (zset (zset (zset h 121 1 (0, 0)) 121 0 (0, 0)) 121 0 (0, 2)) [some (2, 121), some (0, x), some (0, y), some (0, z)] [(0, 0)] _
          refine v_ret (hi_X12_clean_32 hT) (Or.inl rfl) ?_
          exact k3 hc5 hc8 hc14 hc18
        · have hc18 : y ≤ ((P 0 0) - 1) := Int.not_lt.mp hc18
          refine v_push (1) (hi_X12_isIn_13 hT) rfl ?_
          refine v_goto (hi_X12_isIn_14 hT) ?_
          refine v_ret (hi_X12_isIn_18 hT) (Or.inl rfl) ?_
          show vP D T N 244 15 (zset (zset h 121 1 (0, 0)) 121 0 (0, 0)) [some (2, 121), some (0, y), some (0, z)] [(0, 1)] _
          refine v_if (hi_X12_isCell_15 hT) (fun hc22 => absurd (show (1 : Int) = 0 from hc22) (by decide)) (fun _ => ?_)
          refine v_load (v := (0, z)) (hi_X12_isCell_18 hT) rfl rfl ?_
          refine v_i2l (hi_X12_isCell_19 hT) ?_
          refine v_push (0) (hi_X12_isCell_20 hT) rfl ?_
          refine v_load (v := (2, 121)) (hi_X12_isCell_21 hT) rfl rfl ?_
          refine v_getR (c := 126) (r := 121) (hi_X12_isCell_22 hT) rfl rfl rfl ?_
          refine v_push (1) (hi_X12_isCell_25 hT) rfl ?_
          refine v_aldV (v := (0, (P 0 1))) (r := 126) (hi_X12_isCell_26 hT) rfl rfl (fun _ _ _ => (Eq.trans (Eq.trans (zset_ne (fun c => absurd c.1 (by decide))) (zset_ne (fun c => absurd c.1 (by decide)))) (p1))) (fun ha23 hb24 => ?_)
          refine v_push (1) (hi_X12_isCell_27 hT) rfl ?_
          refine v_bin (w := ((P 0 1) - 1)) (hi_X12_isCell_28 hT) (hq_sub (by omega) (by omega)) ?_
          refine v_i2l (hi_X12_isCell_29 hT) ?_
          refine v_call (w := 6) [some (1, z), none, some (1, 0), none, some (1, ((P 0 1) - 1)), none] hO (hi_X12_isCell_30 hT) rfl rfl ?_
          refine v_load (v := (1, z)) (hi_X12_isIn_0 hT) rfl rfl ?_
          refine v_load (v := (1, 0)) (hi_X12_isIn_1 hT) rfl rfl ?_
          refine v_lif (hi_X12_isIn_2 hT) (hi_X12_isIn_3 hT) (fun hc25 => ?_) (fun hc25 => ?_)
          · have hc25 : z < 0 := hc25
            refine v_push (0) (hi_X12_isIn_17 hT) rfl ?_
            refine v_ret (hi_X12_isIn_18 hT) (Or.inl rfl) ?_
            show vP D T N 244 33 (zset (zset h 121 1 (0, 0)) 121 0 (0, 0)) [some (2, 121), some (0, y), some (0, z)] [(0, 0)] _
            refine v_if (hi_X12_isCell_33 hT) (fun _ => ?_) (fun hc26 => absurd (show (0 : Int) = 0 from (by decide)) hc26)
            refine v_push (0) (hi_X12_isCell_40 hT) rfl ?_
            refine v_ret (hi_X12_isCell_41 hT) (Or.inl rfl) ?_
            show vP D T N 208 24 (zset (zset h 121 1 (0, 0)) 121 0 (0, 0)) [some (2, 121), some (0, x), some (0, y), some (0, z)] [(0, 0)] _
            refine v_if (hi_X12_clean_24 hT) (fun _ => ?_) (fun hc27 => absurd (show (0 : Int) = 0 from (by decide)) hc27)
            refine v_load (v := (2, 121)) (hi_X12_clean_27 hT) rfl rfl ?_
            refine v_push (2) (hi_X12_clean_28 hT) rfl ?_
            refine v_call (w := 2) [some (2, 121), some (0, 2)] hO (hi_X12_clean_29 hT) rfl rfl ?_
            refine v_load (v := (2, 121)) (hi_X12_no_0 hT) rfl rfl ?_
            refine v_load (v := (0, 2)) (hi_X12_no_1 hT) rfl rfl ?_
            refine v_putf (r := 121) hO (hi_X12_no_2 hT) rfl (fun hf28 => ?_)
            refine v_push (0) (hi_X12_no_5 hT) rfl ?_
            refine v_ret (hi_X12_no_6 hT) (Or.inl rfl) ?_
            show vP D T N 208 32 (zset (zset (zset h 121 1 (0, 0)) 121 0 (0, 0)) 121 0 (0, 2)) [some (2, 121), some (0, x), some (0, y), some (0, z)] [(0, 0)] _
            refine v_ret (hi_X12_clean_32 hT) (Or.inl rfl) ?_
            exact k4 hc5 hc8 hc14 hc18 hc25
          · have hc25 : 0 ≤ z := Int.not_lt.mp hc25
            refine v_load (v := (1, z)) (hi_X12_isIn_6 hT) rfl rfl ?_
            refine v_load (v := (1, ((P 0 1) - 1))) (hi_X12_isIn_7 hT) rfl rfl ?_
            refine v_lif (hi_X12_isIn_9 hT) (hi_X12_isIn_10 hT) (fun hc29 => ?_) (fun hc29 => ?_)
            · have hc29 : ((P 0 1) - 1) < z := hc29
              refine v_push (0) (hi_X12_isIn_17 hT) rfl ?_
              refine v_ret (hi_X12_isIn_18 hT) (Or.inl rfl) ?_
              show vP D T N 244 33 (zset (zset h 121 1 (0, 0)) 121 0 (0, 0)) [some (2, 121), some (0, y), some (0, z)] [(0, 0)] _
              refine v_if (hi_X12_isCell_33 hT) (fun _ => ?_) (fun hc30 => absurd (show (0 : Int) = 0 from (by decide)) hc30)
              refine v_push (0) (hi_X12_isCell_40 hT) rfl ?_
              refine v_ret (hi_X12_isCell_41 hT) (Or.inl rfl) ?_
              show vP D T N 208 24 (zset (zset h 121 1 (0, 0)) 121 0 (0, 0)) [some (2, 121), some (0, x), some (0, y), some (0, z)] [(0, 0)] _
              refine v_if (hi_X12_clean_24 hT) (fun _ => ?_) (fun hc31 => absurd (show (0 : Int) = 0 from (by decide)) hc31)
              refine v_load (v := (2, 121)) (hi_X12_clean_27 hT) rfl rfl ?_
              refine v_push (2) (hi_X12_clean_28 hT) rfl ?_
              refine v_call (w := 2) [some (2, 121), some (0, 2)] hO (hi_X12_clean_29 hT) rfl rfl ?_
              refine v_load (v := (2, 121)) (hi_X12_no_0 hT) rfl rfl ?_
              refine v_load (v := (0, 2)) (hi_X12_no_1 hT) rfl rfl ?_
              refine v_putf (r := 121) hO (hi_X12_no_2 hT) rfl (fun hf32 => ?_)
              refine v_push (0) (hi_X12_no_5 hT) rfl ?_
              refine v_ret (hi_X12_no_6 hT) (Or.inl rfl) ?_
              show vP D T N 208 32 (zset (zset (zset h 121 1 (0, 0)) 121 0 (0, 0)) 121 0 (0, 2)) [some (2, 121), some (0, x), some (0, y), some (0, z)] [(0, 0)] _
              refine v_ret (hi_X12_clean_32 hT) (Or.inl rfl) ?_
              exact k5 hc5 hc8 hc14 hc18 hc25 hc29
            · have hc29 : z ≤ ((P 0 1) - 1) := Int.not_lt.mp hc29
              refine v_push (1) (hi_X12_isIn_13 hT) rfl ?_
              refine v_goto (hi_X12_isIn_14 hT) ?_
              refine v_ret (hi_X12_isIn_18 hT) (Or.inl rfl) ?_
              show vP D T N 244 33 (zset (zset h 121 1 (0, 0)) 121 0 (0, 0)) [some (2, 121), some (0, y), some (0, z)] [(0, 1)] _
              refine v_if (hi_X12_isCell_33 hT) (fun hc33 => absurd (show (1 : Int) = 0 from hc33) (by decide)) (fun _ => ?_)
              refine v_push (1) (hi_X12_isCell_36 hT) rfl ?_
              refine v_goto (hi_X12_isCell_37 hT) ?_
              refine v_ret (hi_X12_isCell_41 hT) (Or.inl rfl) ?_
              show vP D T N 208 24 (zset (zset h 121 1 (0, 0)) 121 0 (0, 0)) [some (2, 121), some (0, x), some (0, y), some (0, z)] [(0, 1)] _
              refine v_if (hi_X12_clean_24 hT) (fun hc34 => absurd (show (1 : Int) = 0 from hc34) (by decide)) (fun _ => ?_)
              exact k6 hc5 hc8 hc14 hc18 hc25 hc29
theorem qs_bite44n {D : zD} {T : zT} (hT : hTab T) (hO : vOK T) {N : Nat} {h : zH} {Q : zR → Prop} {j u v : Nat} (hv0 : zHv h)
    (k0 : Q (zset h 121 0 (0, 9), some (0, -1))) :
    vP D T N 202 44 h [some (2, 121), some (0, (j : Int)), some (0, (u : Int)), some (0, (v : Int)), none] [(0, -1)] Q := by
  refine v_store1 [some (2, 121), some (0, (j : Int)), some (0, (u : Int)), some (0, (v : Int)), some (0, -1)] (hz_X12_bite hT _ _ rfl) ⟨rfl, Nat.ne_of_beq_eq_false rfl⟩ (Nat.le_of_ble_eq_true rfl) rfl ?_
  refine v_load (v := (0, -1)) (hz_X12_bite hT _ _ rfl) rfl rfl ?_
  refine v_if (hz_X12_bite hT _ _ rfl) (fun _ => ?_) (fun hc1 => absurd (show (-1 : Int) < 0 from (by decide)) hc1)
  refine v_load (v := (2, 121)) (hz_X12_bite hT _ _ rfl) rfl rfl ?_
  refine v_push (9) (hz_X12_bite hT _ _ rfl) rfl ?_
  refine v_call (w := 2) [some (2, 121), some (0, 9)] hO (hz_X12_bite hT _ _ rfl) rfl rfl ?_
  refine v_load (v := (2, 121)) (hi_X12_refuse_0 hT) rfl rfl ?_
  refine v_load (v := (0, 9)) (hi_X12_refuse_1 hT) rfl rfl ?_
  refine v_putf (r := 121) hO (hi_X12_refuse_2 hT) rfl (fun hf2 => ?_)
  refine v_push (-1) (hi_X12_refuse_5 hT) rfl ?_
  refine v_ret (hi_X12_refuse_6 hT) (Or.inl rfl) ?_
  show vP D T N 202 57 (zset h 121 0 (0, 9)) [some (2, 121), some (0, (j : Int)), some (0, (u : Int)), some (0, (v : Int)), some (0, -1)] [(0, -1)] _
  refine v_goto (hz_X12_bite hT _ _ rfl) ?_
  refine v_ret (hz_X12_bite hT _ _ rfl) (Or.inl rfl) ?_
  exact k0 
theorem qs_bite44y {D : zD} {T : zT} (hT : hTab T) (hO : vOK T) {N : Nat} {h : zH} {Q : zR → Prop} {j u v : Nat} (w : Int) (hv0 : zHv h) (hw : 0 ≤ w)
    (k0 : Q (h, some (0, w))) :
    vP D T N 202 44 h [some (2, 121), some (0, (j : Int)), some (0, (u : Int)), some (0, (v : Int)), none] [(0, w)] Q := by
  refine v_store1 [some (2, 121), some (0, (j : Int)), some (0, (u : Int)), some (0, (v : Int)), some (0, w)] (hz_X12_bite hT _ _ rfl) ⟨rfl, Nat.ne_of_beq_eq_false rfl⟩ (Nat.le_of_ble_eq_true rfl) rfl ?_
  refine v_load (v := (0, w)) (hz_X12_bite hT _ _ rfl) rfl rfl ?_
  refine v_if (hz_X12_bite hT _ _ rfl) (fun hc1 => absurd (show w < 0 from hc1) (by omega)) (fun _ => ?_)
  refine v_load (v := (0, w)) (hz_X12_bite hT _ _ rfl) rfl rfl ?_
  refine v_ret (hz_X12_bite hT _ _ rfl) (Or.inl rfl) ?_
  exact k0 
theorem qs_mould44_0 {D : zD} {T : zT} (hT : hTab T) (hO : vOK T) {N : Nat} {h : zH} {Q : zR → Prop} {j u v : Nat} (hv0 : zHv h)
    (k0 : Q (zset h 121 0 (0, 9), some (0, 0))) :
    vP D T N 279 44 h [some (2, 121), some (0, (j : Int)), some (0, (u : Int)), some (0, (v : Int))] [(0, 0)] Q := by
  refine v_if (hz_X12_mould hT _ _ rfl) (fun _ => ?_) (fun hc1 => absurd (show (0 : Int) = 0 from (by decide)) hc1)
  refine v_load (v := (2, 121)) (hz_X12_mould hT _ _ rfl) rfl rfl ?_
  refine v_push (9) (hz_X12_mould hT _ _ rfl) rfl ?_
  refine v_call (w := 2) [some (2, 121), some (0, 9)] hO (hz_X12_mould hT _ _ rfl) rfl rfl ?_
  refine v_load (v := (2, 121)) (hi_X12_no_0 hT) rfl rfl ?_
  refine v_load (v := (0, 9)) (hi_X12_no_1 hT) rfl rfl ?_
  refine v_putf (r := 121) hO (hi_X12_no_2 hT) rfl (fun hf2 => ?_)
  refine v_push (0) (hi_X12_no_5 hT) rfl ?_
  refine v_ret (hi_X12_no_6 hT) (Or.inl rfl) ?_
  show vP D T N 279 53 (zset h 121 0 (0, 9)) [some (2, 121), some (0, (j : Int)), some (0, (u : Int)), some (0, (v : Int))] [(0, 0)] _
  refine v_if (hz_X12_mould hT _ _ rfl) (fun _ => ?_) (fun hc3 => absurd (show (0 : Int) = 0 from (by decide)) hc3)
  refine v_push (0) (hz_X12_mould hT _ _ rfl) rfl ?_
  refine v_ret (hz_X12_mould hT _ _ rfl) (Or.inl rfl) ?_
  exact k0 
theorem qs_mould44_1 {D : zD} {T : zT} (hT : hTab T) (hO : vOK T) {N : Nat} {h : zH} {Q : zR → Prop} {j u v : Nat} (hv0 : zHv h)
    (k0 : Q (h, some (0, 1))) :
    vP D T N 279 44 h [some (2, 121), some (0, (j : Int)), some (0, (u : Int)), some (0, (v : Int))] [(0, 1)] Q := by
  refine v_if (hz_X12_mould hT _ _ rfl) (fun hc1 => absurd (show (1 : Int) = 0 from hc1) (by decide)) (fun _ => ?_)
  refine v_push (1) (hz_X12_mould hT _ _ rfl) rfl ?_
  refine v_goto (hz_X12_mould hT _ _ rfl) ?_
  refine v_ret (hz_X12_mould hT _ _ rfl) (Or.inl rfl) ?_
  exact k0 
theorem qs_honey44_0 {D : zD} {T : zT} (hT : hTab T) (hO : vOK T) {N : Nat} {h : zH} {Q : zR → Prop} {j u v : Nat} (hv0 : zHv h)
    (k0 : Q (zset h 121 0 (0, 9), some (0, 0))) :
    vP D T N 239 44 h [some (2, 121), some (0, (j : Int)), some (0, (u : Int)), some (0, (v : Int))] [(0, 0)] Q := by
  refine v_if (hz_X12_honey hT _ _ rfl) (fun _ => ?_) (fun hc1 => absurd (show (0 : Int) = 0 from (by decide)) hc1)
  refine v_load (v := (2, 121)) (hz_X12_honey hT _ _ rfl) rfl rfl ?_
  refine v_push (9) (hz_X12_honey hT _ _ rfl) rfl ?_
  refine v_call (w := 2) [some (2, 121), some (0, 9)] hO (hz_X12_honey hT _ _ rfl) rfl rfl ?_
  refine v_load (v := (2, 121)) (hi_X12_no_0 hT) rfl rfl ?_
  refine v_load (v := (0, 9)) (hi_X12_no_1 hT) rfl rfl ?_
  refine v_putf (r := 121) hO (hi_X12_no_2 hT) rfl (fun hf2 => ?_)
  refine v_push (0) (hi_X12_no_5 hT) rfl ?_
  refine v_ret (hi_X12_no_6 hT) (Or.inl rfl) ?_
  show vP D T N 239 53 (zset h 121 0 (0, 9)) [some (2, 121), some (0, (j : Int)), some (0, (u : Int)), some (0, (v : Int))] [(0, 0)] _
  refine v_if (hz_X12_honey hT _ _ rfl) (fun _ => ?_) (fun hc3 => absurd (show (0 : Int) = 0 from (by decide)) hc3)
  refine v_push (0) (hz_X12_honey hT _ _ rfl) rfl ?_
  refine v_ret (hz_X12_honey hT _ _ rfl) (Or.inl rfl) ?_
  exact k0 
theorem qs_honey44_1 {D : zD} {T : zT} (hT : hTab T) (hO : vOK T) {N : Nat} {h : zH} {Q : zR → Prop} {j u v : Nat} (hv0 : zHv h)
    (k0 : Q (h, some (0, 1))) :
    vP D T N 239 44 h [some (2, 121), some (0, (j : Int)), some (0, (u : Int)), some (0, (v : Int))] [(0, 1)] Q := by
  refine v_if (hz_X12_honey hT _ _ rfl) (fun hc1 => absurd (show (1 : Int) = 0 from hc1) (by decide)) (fun _ => ?_)
  refine v_push (1) (hz_X12_honey hT _ _ rfl) rfl ?_
  refine v_goto (hz_X12_honey hT _ _ rfl) ?_
  refine v_ret (hz_X12_honey hT _ _ rfl) (Or.inl rfl) ?_
  exact k0 
theorem qs_clean41 {D : zD} {T : zT} (hT : hTab T) (hO : vOK T) {N : Nat} {h : zH} {Q : zR → Prop} {P : PT} {j u v q : Nat} (hv0 : zHv h) (hR : rBk 0 P h) (hb : fB P) (hj : j < 3) (gq : gIn P q) (hn : gJ P q < 48) (eq : P 0 0 * (v : Int) + (u : Int) = ((gJ P q : Nat) : Int)) (bu : u < 8) (bv : v < 6) (lb : lB P)
    (k0 : ((P 3 (48 * j + q)) < 2) → Q (zset h 121 0 (0, 9), some (0, 0)))
    (k1 : (2 ≤ (P 3 (48 * j + q))) → (0 ≤ ((101 + (48 * (j : Int))) + ((gJ P q : Nat) : Int))) → (((101 + (48 * (j : Int))) + ((gJ P q : Nat) : Int)) < 2750) → Q (zset h 126 ((((101 + (48 * (j : Int))) + ((gJ P q : Nat) : Int))).toNat) (0, 0), some (0, 1))) :
    vP D T N 208 41 h [some (2, 121), some (0, (j : Int)), some (0, (u : Int)), some (0, (v : Int))] [(0, ((gJ P q : Nat) : Int)), (0, (j : Int)), (2, 121)] Q := by
  refine v_call (w := 3) [some (2, 121), some (0, (j : Int)), some (0, ((gJ P q : Nat) : Int))] hO (hz_X12_clean hT _ _ rfl) rfl rfl (rb_st hT hO ((j : Int)) j q rfl (by omega) gq hR hb ?_)
  show vP D T N 208 44 h [some (2, 121), some (0, (j : Int)), some (0, (u : Int)), some (0, (v : Int))] [(0, (P 3 (48 * j + q)))] _
  refine v_push (2) (hz_X12_clean hT _ _ rfl) rfl ?_
  refine v_ic (hz_X12_clean hT _ _ rfl) (fun hc1 => ?_) (fun hc1 => ?_)
  · have hc1 : (P 3 (48 * j + q)) < 2 := hc1
    refine v_load (v := (2, 121)) (hz_X12_clean hT _ _ rfl) rfl rfl ?_
    refine v_push (9) (hz_X12_clean hT _ _ rfl) rfl ?_
    refine v_call (w := 2) [some (2, 121), some (0, 9)] hO (hz_X12_clean hT _ _ rfl) rfl rfl ?_
    refine v_load (v := (2, 121)) (hi_X12_no_0 hT) rfl rfl ?_
    refine v_load (v := (0, 9)) (hi_X12_no_1 hT) rfl rfl ?_
    refine v_putf (r := 121) hO (hi_X12_no_2 hT) rfl (fun hf2 => ?_)
    refine v_push (0) (hi_X12_no_5 hT) rfl ?_
    refine v_ret (hi_X12_no_6 hT) (Or.inl rfl) ?_
    show vP D T N 208 54 (zset h 121 0 (0, 9)) [some (2, 121), some (0, (j : Int)), some (0, (u : Int)), some (0, (v : Int))] [(0, 0)] _
    refine v_ret (hz_X12_clean hT _ _ rfl) (Or.inl rfl) ?_
    exact k0 hc1
  · have hc1 : 2 ≤ (P 3 (48 * j + q)) := Int.not_lt.mp hc1
    refine v_load (v := (2, 121)) (hz_X12_clean hT _ _ rfl) rfl rfl ?_
    refine v_getR (c := 126) (r := 121) (hz_X12_clean hT _ _ rfl) rfl rfl rfl ?_
    refine v_load (v := (0, (j : Int))) (hz_X12_clean hT _ _ rfl) rfl rfl ?_
    refine v_load (v := (2, 121)) (hz_X12_clean hT _ _ rfl) rfl rfl ?_
    refine v_load (v := (0, (u : Int))) (hz_X12_clean hT _ _ rfl) rfl rfl ?_
    refine v_load (v := (0, (v : Int))) (hz_X12_clean hT _ _ rfl) rfl rfl ?_
    refine v_call (w := 3) [some (2, 121), some (0, (u : Int)), some (0, (v : Int))] hO (hz_X12_clean hT _ _ rfl) rfl rfl (cb_eq2 eq (rb_at2 hT hO ((u : Int)) ((v : Int)) (by omega) (by omega) hR.w lb) ?_)
    show vP D T N 208 66 h [some (2, 121), some (0, (j : Int)), some (0, (u : Int)), some (0, (v : Int))] [(0, ((gJ P q : Nat) : Int)), (0, (j : Int)), (2, 126)] _
    refine v_call (w := 2) [some (0, (j : Int)), some (0, ((gJ P q : Nat) : Int))] hO (hz_X12_clean hT _ _ rfl) rfl rfl ?_
    refine v_push (101) (hi_X12_state_0 hT) rfl ?_
    refine v_push (48) (hi_X12_state_2 hT) rfl ?_
    refine v_load (v := (0, (j : Int))) (hi_X12_state_4 hT) rfl rfl ?_
    refine v_bin (w := (48 * (j : Int))) (hi_X12_state_5 hT) (hq_mul (by omega) (by omega)) ?_
    refine v_bin (w := (101 + (48 * (j : Int)))) (hi_X12_state_6 hT) (hq_add (by omega) (by omega)) ?_
    refine v_load (v := (0, ((gJ P q : Nat) : Int))) (hi_X12_state_7 hT) rfl rfl ?_
    refine v_bin (w := ((101 + (48 * (j : Int))) + ((gJ P q : Nat) : Int))) (hi_X12_state_8 hT) (hq_add (by omega) (by omega)) ?_
    refine v_ret (hi_X12_state_9 hT) (Or.inl rfl) ?_
    show vP D T N 208 69 h [some (2, 121), some (0, (j : Int)), some (0, (u : Int)), some (0, (v : Int))] [(0, ((101 + (48 * (j : Int))) + ((gJ P q : Nat) : Int))), (2, 126)] _
    refine v_push (0) (hz_X12_clean hT _ _ rfl) rfl ?_
    refine v_ast (r := 126) (hz_X12_clean hT _ _ rfl) rfl rfl (fun ha3 hb4 hf5 => ?_)
    refine v_push (1) (hz_X12_clean hT _ _ rfl) rfl ?_
    refine v_ret (hz_X12_clean hT _ _ rfl) (Or.inl rfl) ?_
    exact k1 hc1 ha3 hb4
theorem qs_clean33 {D : zD} {T : zT} (hT : hTab T) (hO : vOK T) {N : Nat} {h : zH} {Q : zR → Prop} {j u v : Nat} (hv0 : zHv h)
    (k0 : vP D T N 197 0 h [some (2, 121), some (0, (u : Int)), some (0, (v : Int))] [] (fun r1 => vP D T N 208 41 r1.1 [some (2, 121), some (0, (j : Int)), some (0, (u : Int)), some (0, (v : Int))] (zpush r1.2 [(0, (j : Int)), (2, 121)]) Q)) :
    vP D T N 208 33 h [some (2, 121), some (0, (j : Int)), some (0, (u : Int)), some (0, (v : Int))] [] Q := by
  refine v_load (v := (2, 121)) (hz_X12_clean hT _ _ rfl) rfl rfl ?_
  refine v_load (v := (0, (j : Int))) (hz_X12_clean hT _ _ rfl) rfl rfl ?_
  refine v_load (v := (2, 121)) (hz_X12_clean hT _ _ rfl) rfl rfl ?_
  refine v_load (v := (0, (u : Int))) (hz_X12_clean hT _ _ rfl) rfl rfl ?_
  refine v_load (v := (0, (v : Int))) (hz_X12_clean hT _ _ rfl) rfl rfl ?_
  refine v_call (w := 3) [some (2, 121), some (0, (u : Int)), some (0, (v : Int))] hO (hz_X12_clean hT _ _ rfl) rfl rfl ?_
  exact k0 
theorem qs_steam0 {D : zD} {T : zT} (hT : hTab T) (hO : vOK T) {N : Nat} {h : zH} {Q : zR → Prop} {P : PT} (x y : Int) (hv0 : zHv h) (p0 : h 126 0 = (0, P 0 0)) (p1 : h 126 1 = (0, P 0 1)) (p2 : h 126 2 = (0, P 0 2)) (p3 : h 126 3 = (0, P 0 3)) (lb : (0 ≤ P 0 0 ∧ P 0 0 ≤ 8) ∧ (0 ≤ P 0 1 ∧ P 0 1 ≤ 6) ∧ (0 ≤ P 0 2 ∧ P 0 2 ≤ 3) ∧ (0 ≤ P 0 3 ∧ P 0 3 ≤ 6))
    (k0 : (x < 0) → Q (zset (zset (zset h 121 1 (0, 0)) 121 0 (0, 0)) 121 0 (0, 2), some (0, -1)))
    (k1 : (0 ≤ x) → (((P 0 2) - 1) < x) → Q (zset (zset (zset h 121 1 (0, 0)) 121 0 (0, 0)) 121 0 (0, 2), some (0, -1)))
    (k2 : (0 ≤ x) → (x ≤ ((P 0 2) - 1)) → (y < 0) → Q (zset (zset (zset h 121 1 (0, 0)) 121 0 (0, 0)) 121 0 (0, 2), some (0, -1)))
    (k3 : (0 ≤ x) → (x ≤ ((P 0 2) - 1)) → (0 ≤ y) → (((P 0 2) - 1) < y) → Q (zset (zset (zset h 121 1 (0, 0)) 121 0 (0, 0)) 121 0 (0, 2), some (0, -1)))
    (k4 : (0 ≤ x) → (x ≤ ((P 0 2) - 1)) → (0 ≤ y) → (y ≤ ((P 0 2) - 1)) → (x = y) → Q (zset (zset (zset h 121 1 (0, 0)) 121 0 (0, 0)) 121 0 (0, 5), some (0, -1)))
    (k5 : (0 ≤ x) → (x ≤ ((P 0 2) - 1)) → (0 ≤ y) → (y ≤ ((P 0 2) - 1)) → (x ≠ y) → vP D T N 316 45 (zset (zset h 121 1 (0, 0)) 121 0 (0, 0)) [some (2, 121), some (0, x), some (0, y)] [] Q) :
    vP D T N 316 0 h [some (2, 121), some (0, x), some (0, y)] [] Q := by
  refine v_load (v := (2, 121)) (hz_X12_steam hT _ _ rfl) rfl rfl ?_
  refine v_push (0) (hz_X12_steam hT _ _ rfl) rfl ?_
  refine v_putf (r := 121) hO (hz_X12_steam hT _ _ rfl) rfl (fun hf1 => ?_)
  refine v_load (v := (2, 121)) (hz_X12_steam hT _ _ rfl) rfl rfl ?_
  refine v_push (0) (hz_X12_steam hT _ _ rfl) rfl ?_
  refine v_putf (r := 121) hO (hz_X12_steam hT _ _ rfl) rfl (fun hf2 => ?_)
  refine v_load (v := (2, 121)) (hz_X12_steam hT _ _ rfl) rfl rfl ?_
  refine v_load (v := (0, x)) (hz_X12_steam hT _ _ rfl) rfl rfl ?_
  refine v_call (w := 2) [some (2, 121), some (0, x)] hO (hz_X12_steam hT _ _ rfl) rfl rfl ?_
  refine v_load (v := (0, x)) (hi_X12_isCopy_0 hT) rfl rfl ?_
  refine v_i2l (hi_X12_isCopy_1 hT) ?_
  refine v_push (0) (hi_X12_isCopy_2 hT) rfl ?_
  refine v_load (v := (2, 121)) (hi_X12_isCopy_3 hT) rfl rfl ?_
  refine v_getR (c := 126) (r := 121) (hi_X12_isCopy_4 hT) rfl rfl rfl ?_
  refine v_push (2) (hi_X12_isCopy_7 hT) rfl ?_
  refine v_aldV (v := (0, (P 0 2))) (r := 126) (hi_X12_isCopy_8 hT) rfl rfl (fun _ _ _ => (Eq.trans (Eq.trans (zset_ne (fun c => absurd c.1 (by decide))) (zset_ne (fun c => absurd c.1 (by decide)))) (p2))) (fun ha3 hb4 => ?_)
  refine v_push (1) (hi_X12_isCopy_9 hT) rfl ?_
  refine v_bin (w := ((P 0 2) - 1)) (hi_X12_isCopy_10 hT) (hq_sub (by omega) (by omega)) ?_
  refine v_i2l (hi_X12_isCopy_11 hT) ?_
  refine v_call (w := 6) [some (1, x), none, some (1, 0), none, some (1, ((P 0 2) - 1)), none] hO (hi_X12_isCopy_12 hT) rfl rfl ?_
  refine v_load (v := (1, x)) (hi_X12_isIn_0 hT) rfl rfl ?_
  refine v_load (v := (1, 0)) (hi_X12_isIn_1 hT) rfl rfl ?_
  refine v_lif (hi_X12_isIn_2 hT) (hi_X12_isIn_3 hT) (fun hc5 => ?_) (fun hc5 => ?_)
  · have hc5 : x < 0 := hc5
    refine v_push (0) (hi_X12_isIn_17 hT) rfl ?_
    refine v_ret (hi_X12_isIn_18 hT) (Or.inl rfl) ?_
    show vP D T N 248 15 (zset (zset h 121 1 (0, 0)) 121 0 (0, 0)) [some (2, 121), some (0, x)] [(0, 0)] _
    refine v_ret (hi_X12_isCopy_15 hT) (Or.inl rfl) ?_
    show vP D T N 316 15 (zset (zset h 121 1 (0, 0)) 121 0 (0, 0)) [some (2, 121), some (0, x), some (0, y)] [(0, 0)] _
    refine v_if (hz_X12_steam hT _ _ rfl) (fun _ => ?_) (fun hc6 => absurd (show (0 : Int) = 0 from (by decide)) hc6)
    refine v_load (v := (2, 121)) (hi_X12_steam_26 hT) rfl rfl ?_
    refine v_push (2) (hi_X12_steam_27 hT) rfl ?_
    refine v_call (w := 2) [some (2, 121), some (0, 2)] hO (hi_X12_steam_28 hT) rfl rfl ?_
    refine v_load (v := (2, 121)) (hi_X12_refuse_0 hT) rfl rfl ?_
    refine v_load (v := (0, 2)) (hi_X12_refuse_1 hT) rfl rfl ?_
    refine v_putf (r := 121) hO (hi_X12_refuse_2 hT) rfl (fun hf7 => ?_)
    refine v_push (-1) (hi_X12_refuse_5 hT) rfl ?_
    refine v_ret (hi_X12_refuse_6 hT) (Or.inl rfl) ?_
    show vP D T N 316 31 (zset (zset (zset h 121 1 (0, 0)) 121 0 (0, 0)) 121 0 (0, 2)) [some (2, 121), some (0, x), some (0, y)] [(0, -1)] _
    refine v_ret (hi_X12_steam_31 hT) (Or.inl rfl) ?_
    exact k0 hc5
  · have hc5 : 0 ≤ x := Int.not_lt.mp hc5
    refine v_load (v := (1, x)) (hi_X12_isIn_6 hT) rfl rfl ?_
    refine v_load (v := (1, ((P 0 2) - 1))) (hi_X12_isIn_7 hT) rfl rfl ?_
    refine v_lif (hi_X12_isIn_9 hT) (hi_X12_isIn_10 hT) (fun hc8 => ?_) (fun hc8 => ?_)
    · have hc8 : ((P 0 2) - 1) < x := hc8
      refine v_push (0) (hi_X12_isIn_17 hT) rfl ?_
      refine v_ret (hi_X12_isIn_18 hT) (Or.inl rfl) ?_
      show vP D T N 248 15 (zset (zset h 121 1 (0, 0)) 121 0 (0, 0)) [some (2, 121), some (0, x)] [(0, 0)] _
      refine v_ret (hi_X12_isCopy_15 hT) (Or.inl rfl) ?_
      show vP D T N 316 15 (zset (zset h 121 1 (0, 0)) 121 0 (0, 0)) [some (2, 121), some (0, x), some (0, y)] [(0, 0)] _
      refine v_if (hz_X12_steam hT _ _ rfl) (fun _ => ?_) (fun hc9 => absurd (show (0 : Int) = 0 from (by decide)) hc9)
      refine v_load (v := (2, 121)) (hi_X12_steam_26 hT) rfl rfl ?_
      refine v_push (2) (hi_X12_steam_27 hT) rfl ?_
      refine v_call (w := 2) [some (2, 121), some (0, 2)] hO (hi_X12_steam_28 hT) rfl rfl ?_
      refine v_load (v := (2, 121)) (hi_X12_refuse_0 hT) rfl rfl ?_
      refine v_load (v := (0, 2)) (hi_X12_refuse_1 hT) rfl rfl ?_
      refine v_putf (r := 121) hO (hi_X12_refuse_2 hT) rfl (fun hf10 => ?_)
      refine v_push (-1) (hi_X12_refuse_5 hT) rfl ?_
      refine v_ret (hi_X12_refuse_6 hT) (Or.inl rfl) ?_
      show vP D T N 316 31 (zset (zset (zset h 121 1 (0, 0)) 121 0 (0, 0)) 121 0 (0, 2)) [some (2, 121), some (0, x), some (0, y)] [(0, -1)] _
      refine v_ret (hi_X12_steam_31 hT) (Or.inl rfl) ?_
      exact k1 hc5 hc8
    · have hc8 : x ≤ ((P 0 2) - 1) := Int.not_lt.mp hc8
      refine v_push (1) (hi_X12_isIn_13 hT) rfl ?_
      refine v_goto (hi_X12_isIn_14 hT) ?_
      refine v_ret (hi_X12_isIn_18 hT) (Or.inl rfl) ?_
      show vP D T N 248 15 (zset (zset h 121 1 (0, 0)) 121 0 (0, 0)) [some (2, 121), some (0, x)] [(0, 1)] _
      refine v_ret (hi_X12_isCopy_15 hT) (Or.inl rfl) ?_
      show vP D T N 316 15 (zset (zset h 121 1 (0, 0)) 121 0 (0, 0)) [some (2, 121), some (0, x), some (0, y)] [(0, 1)] _
      refine v_if (hz_X12_steam hT _ _ rfl) (fun hc11 => absurd (show (1 : Int) = 0 from hc11) (by decide)) (fun _ => ?_)
      refine v_load (v := (2, 121)) (hz_X12_steam hT _ _ rfl) rfl rfl ?_
      refine v_load (v := (0, y)) (hz_X12_steam hT _ _ rfl) rfl rfl ?_
      refine v_call (w := 2) [some (2, 121), some (0, y)] hO (hz_X12_steam hT _ _ rfl) rfl rfl ?_
      refine v_load (v := (0, y)) (hi_X12_isCopy_0 hT) rfl rfl ?_
      refine v_i2l (hi_X12_isCopy_1 hT) ?_
      refine v_push (0) (hi_X12_isCopy_2 hT) rfl ?_
      refine v_load (v := (2, 121)) (hi_X12_isCopy_3 hT) rfl rfl ?_
      refine v_getR (c := 126) (r := 121) (hi_X12_isCopy_4 hT) rfl rfl rfl ?_
      refine v_push (2) (hi_X12_isCopy_7 hT) rfl ?_
      refine v_aldV (v := (0, (P 0 2))) (r := 126) (hi_X12_isCopy_8 hT) rfl rfl (fun _ _ _ => (Eq.trans (Eq.trans (zset_ne (fun c => absurd c.1 (by decide))) (zset_ne (fun c => absurd c.1 (by decide)))) (p2))) (fun ha12 hb13 => ?_)
      refine v_push (1) (hi_X12_isCopy_9 hT) rfl ?_
      refine v_bin (w := ((P 0 2) - 1)) (hi_X12_isCopy_10 hT) (hq_sub (by omega) (by omega)) ?_
      refine v_i2l (hi_X12_isCopy_11 hT) ?_
      refine v_call (w := 6) [some (1, y), none, some (1, 0), none, some (1, ((P 0 2) - 1)), none] hO (hi_X12_isCopy_12 hT) rfl rfl ?_
      refine v_load (v := (1, y)) (hi_X12_isIn_0 hT) rfl rfl ?_
      refine v_load (v := (1, 0)) (hi_X12_isIn_1 hT) rfl rfl ?_
      refine v_lif (hi_X12_isIn_2 hT) (hi_X12_isIn_3 hT) (fun hc14 => ?_) (fun hc14 => ?_)
      · have hc14 : y < 0 := hc14
        refine v_push (0) (hi_X12_isIn_17 hT) rfl ?_
        refine v_ret (hi_X12_isIn_18 hT) (Or.inl rfl) ?_
        show vP D T N 248 15 (zset (zset h 121 1 (0, 0)) 121 0 (0, 0)) [some (2, 121), some (0, y)] [(0, 0)] _
        refine v_ret (hi_X12_isCopy_15 hT) (Or.inl rfl) ?_
        show vP D T N 316 23 (zset (zset h 121 1 (0, 0)) 121 0 (0, 0)) [some (2, 121), some (0, x), some (0, y)] [(0, 0)] _
        refine v_if (hz_X12_steam hT _ _ rfl) (fun _ => ?_) (fun hc15 => absurd (show (0 : Int) = 0 from (by decide)) hc15)
        refine v_load (v := (2, 121)) (hi_X12_steam_26 hT) rfl rfl ?_
        refine v_push (2) (hi_X12_steam_27 hT) rfl ?_
        refine v_call (w := 2) [some (2, 121), some (0, 2)] hO (hi_X12_steam_28 hT) rfl rfl ?_
        refine v_load (v := (2, 121)) (hi_X12_refuse_0 hT) rfl rfl ?_
        refine v_load (v := (0, 2)) (hi_X12_refuse_1 hT) rfl rfl ?_
        refine v_putf (r := 121) hO (hi_X12_refuse_2 hT) rfl (fun hf16 => ?_)
        refine v_push (-1) (hi_X12_refuse_5 hT) rfl ?_
        refine v_ret (hi_X12_refuse_6 hT) (Or.inl rfl) ?_
        show vP D T N 316 31 (zset (zset (zset h 121 1 (0, 0)) 121 0 (0, 0)) 121 0 (0, 2)) [some (2, 121), some (0, x), some (0, y)] [(0, -1)] _
        refine v_ret (hi_X12_steam_31 hT) (Or.inl rfl) ?_
        exact k2 hc5 hc8 hc14
      · have hc14 : 0 ≤ y := Int.not_lt.mp hc14
        refine v_load (v := (1, y)) (hi_X12_isIn_6 hT) rfl rfl ?_
        refine v_load (v := (1, ((P 0 2) - 1))) (hi_X12_isIn_7 hT) rfl rfl ?_
        refine v_lif (hi_X12_isIn_9 hT) (hi_X12_isIn_10 hT) (fun hc17 => ?_) (fun hc17 => ?_)
        · have hc17 : ((P 0 2) - 1) < y := hc17
          refine v_push (0) (hi_X12_isIn_17 hT) rfl ?_
          refine v_ret (hi_X12_isIn_18 hT) (Or.inl rfl) ?_
          show vP D T N 248 15 (zset (zset h 121 1 (0, 0)) 121 0 (0, 0)) [some (2, 121), some (0, y)] [(0, 0)] _
          refine v_ret (hi_X12_isCopy_15 hT) (Or.inl rfl) ?_
          show vP D T N 316 23 (zset (zset h 121 1 (0, 0)) 121 0 (0, 0)) [some (2, 121), some (0, x), some (0, y)] [(0, 0)] _
          refine v_if (hz_X12_steam hT _ _ rfl) (fun _ => ?_) (fun hc18 => absurd (show (0 : Int) = 0 from (by decide)) hc18)
          refine v_load (v := (2, 121)) (hi_X12_steam_26 hT) rfl rfl ?_
          refine v_push (2) (hi_X12_steam_27 hT) rfl ?_
          refine v_call (w := 2) [some (2, 121), some (0, 2)] hO (hi_X12_steam_28 hT) rfl rfl ?_
          refine v_load (v := (2, 121)) (hi_X12_refuse_0 hT) rfl rfl ?_
          refine v_load (v := (0, 2)) (hi_X12_refuse_1 hT) rfl rfl ?_
          refine v_putf (r := 121) hO (hi_X12_refuse_2 hT) rfl (fun hf19 => ?_)
          refine v_push (-1) (hi_X12_refuse_5 hT) rfl ?_
          refine v_ret (hi_X12_refuse_6 hT) (Or.inl rfl) ?_
          show vP D T N 316 31 (zset (zset (zset h 121 1 (0, 0)) 121 0 (0, 0)) 121 0 (0, 2)) [some (2, 121), some (0, x), some (0, y)] [(0, -1)] _
          refine v_ret (hi_X12_steam_31 hT) (Or.inl rfl) ?_
          exact k3 hc5 hc8 hc14 hc17
        · have hc17 : y ≤ ((P 0 2) - 1) := Int.not_lt.mp hc17
          refine v_push (1) (hi_X12_isIn_13 hT) rfl ?_
          refine v_goto (hi_X12_isIn_14 hT) ?_
          refine v_ret (hi_X12_isIn_18 hT) (Or.inl rfl) ?_
          show vP D T N 248 15 (zset (zset h 121 1 (0, 0)) 121 0 (0, 0)) [some (2, 121), some (0, y)] [(0, 1)] _
          refine v_ret (hi_X12_isCopy_15 hT) (Or.inl rfl) ?_
          show vP D T N 316 23 (zset (zset h 121 1 (0, 0)) 121 0 (0, 0)) [some (2, 121), some (0, x), some (0, y)] [(0, 1)] _
          refine v_if (hz_X12_steam hT _ _ rfl) (fun hc20 => absurd (show (1 : Int) = 0 from hc20) (by decide)) (fun _ => ?_)
          refine v_load (v := (0, x)) (hz_X12_steam hT _ _ rfl) rfl rfl ?_
          refine v_load (v := (0, y)) (hz_X12_steam hT _ _ rfl) rfl rfl ?_
          refine v_ic (hz_X12_steam hT _ _ rfl) (fun hc21 => ?_) (fun hc21 => ?_)
          · have hc21 : x = y := hc21
            refine v_load (v := (2, 121)) (hz_X12_steam hT _ _ rfl) rfl rfl ?_
            refine v_push (5) (hz_X12_steam hT _ _ rfl) rfl ?_
            refine v_call (w := 2) [some (2, 121), some (0, 5)] hO (hz_X12_steam hT _ _ rfl) rfl rfl ?_
            refine v_load (v := (2, 121)) (hi_X12_refuse_0 hT) rfl rfl ?_
            refine v_load (v := (0, 5)) (hi_X12_refuse_1 hT) rfl rfl ?_
            refine v_putf (r := 121) hO (hi_X12_refuse_2 hT) rfl (fun hf22 => ?_)
            refine v_push (-1) (hi_X12_refuse_5 hT) rfl ?_
            refine v_ret (hi_X12_refuse_6 hT) (Or.inl rfl) ?_
            show vP D T N 316 42 (zset (zset (zset h 121 1 (0, 0)) 121 0 (0, 0)) 121 0 (0, 5)) [some (2, 121), some (0, x), some (0, y)] [(0, -1)] _
            refine v_goto (hz_X12_steam hT _ _ rfl) ?_
            refine v_ret (hz_X12_steam hT _ _ rfl) (Or.inl rfl) ?_
            exact k4 hc5 hc8 hc14 hc17 hc21
          · have hc21 : x ≠ y := hc21
            exact k5 hc5 hc8 hc14 hc17 hc21
theorem qs_steam45 {D : zD} {T : zT} (hT : hTab T) (hO : vOK T) {N : Nat} {h : zH} {Q : zR → Prop} {j t : Nat} (hv0 : zHv h)
    (k0 : vP D T N 317 0 h [some (2, 121), some (0, (j : Int)), some (0, (t : Int)), none, none] [] (fun r1 => vP D T N 316 51 r1.1 [some (2, 121), some (0, (j : Int)), some (0, (t : Int))] (zpush r1.2 []) Q)) :
    vP D T N 316 45 h [some (2, 121), some (0, (j : Int)), some (0, (t : Int))] [] Q := by
  refine v_load (v := (2, 121)) (hz_X12_steam hT _ _ rfl) rfl rfl ?_
  refine v_load (v := (0, (j : Int))) (hz_X12_steam hT _ _ rfl) rfl rfl ?_
  refine v_load (v := (0, (t : Int))) (hz_X12_steam hT _ _ rfl) rfl rfl ?_
  refine v_call (w := 5) [some (2, 121), some (0, (j : Int)), some (0, (t : Int)), none, none] hO (hz_X12_steam hT _ _ rfl) rfl rfl ?_
  exact k0 
theorem qs_steam51 {D : zD} {T : zT} (hT : hTab T) (hO : vOK T) {N : Nat} {h : zH} {Q : zR → Prop} {j t : Nat} (w : Int) (hv0 : zHv h)
    (k0 : Q (h, some (0, w))) :
    vP D T N 316 51 h [some (2, 121), some (0, (j : Int)), some (0, (t : Int))] [(0, w)] Q := by
  refine v_ret (hz_X12_steam hT _ _ rfl) (Or.inl rfl) ?_
  exact k0 
theorem qs_march0 {D : zD} {T : zT} (hT : hTab T) (hO : vOK T) {N : Nat} {h : zH} {Q : zR → Prop} {P : PT} (x : Int) (hv0 : zHv h) (p0 : h 126 0 = (0, P 0 0)) (p1 : h 126 1 = (0, P 0 1)) (p2 : h 126 2 = (0, P 0 2)) (p3 : h 126 3 = (0, P 0 3)) (lb : (0 ≤ P 0 0 ∧ P 0 0 ≤ 8) ∧ (0 ≤ P 0 1 ∧ P 0 1 ≤ 6) ∧ (0 ≤ P 0 2 ∧ P 0 2 ≤ 3) ∧ (0 ≤ P 0 3 ∧ P 0 3 ≤ 6))
    (k0 : (x < 0) → Q (zset (zset (zset h 121 1 (0, 0)) 121 0 (0, 0)) 121 0 (0, 2), some (0, -1)))
    (k1 : (0 ≤ x) → (((P 0 3) - 1) < x) → Q (zset (zset (zset h 121 1 (0, 0)) 121 0 (0, 0)) 121 0 (0, 2), some (0, -1)))
    (k2 : (0 ≤ x) → (x ≤ ((P 0 3) - 1)) → vP D T N 274 24 (zset (zset h 121 1 (0, 0)) 121 0 (0, 0)) [some (2, 121), some (0, x), none] [] Q) :
    vP D T N 274 0 h [some (2, 121), some (0, x), none] [] Q := by
  refine v_load (v := (2, 121)) (hz_X12_march hT _ _ rfl) rfl rfl ?_
  refine v_push (0) (hz_X12_march hT _ _ rfl) rfl ?_
  refine v_putf (r := 121) hO (hz_X12_march hT _ _ rfl) rfl (fun hf1 => ?_)
  refine v_load (v := (2, 121)) (hz_X12_march hT _ _ rfl) rfl rfl ?_
  refine v_push (0) (hz_X12_march hT _ _ rfl) rfl ?_
  refine v_putf (r := 121) hO (hz_X12_march hT _ _ rfl) rfl (fun hf2 => ?_)
  refine v_load (v := (2, 121)) (hz_X12_march hT _ _ rfl) rfl rfl ?_
  refine v_load (v := (0, x)) (hz_X12_march hT _ _ rfl) rfl rfl ?_
  refine v_call (w := 2) [some (2, 121), some (0, x)] hO (hz_X12_march hT _ _ rfl) rfl rfl ?_
  refine v_load (v := (0, x)) (hi_X12_isCompanyAt_0 hT) rfl rfl ?_
  refine v_i2l (hi_X12_isCompanyAt_1 hT) ?_
  refine v_push (0) (hi_X12_isCompanyAt_2 hT) rfl ?_
  refine v_load (v := (2, 121)) (hi_X12_isCompanyAt_3 hT) rfl rfl ?_
  refine v_getR (c := 126) (r := 121) (hi_X12_isCompanyAt_4 hT) rfl rfl rfl ?_
  refine v_push (3) (hi_X12_isCompanyAt_7 hT) rfl ?_
  refine v_aldV (v := (0, (P 0 3))) (r := 126) (hi_X12_isCompanyAt_8 hT) rfl rfl (fun _ _ _ => (Eq.trans (Eq.trans (zset_ne (fun c => absurd c.1 (by decide))) (zset_ne (fun c => absurd c.1 (by decide)))) (p3))) (fun ha3 hb4 => ?_)
  refine v_push (1) (hi_X12_isCompanyAt_9 hT) rfl ?_
  refine v_bin (w := ((P 0 3) - 1)) (hi_X12_isCompanyAt_10 hT) (hq_sub (by omega) (by omega)) ?_
  refine v_i2l (hi_X12_isCompanyAt_11 hT) ?_
  refine v_call (w := 6) [some (1, x), none, some (1, 0), none, some (1, ((P 0 3) - 1)), none] hO (hi_X12_isCompanyAt_12 hT) rfl rfl ?_
  refine v_load (v := (1, x)) (hi_X12_isIn_0 hT) rfl rfl ?_
  refine v_load (v := (1, 0)) (hi_X12_isIn_1 hT) rfl rfl ?_
  refine v_lif (hi_X12_isIn_2 hT) (hi_X12_isIn_3 hT) (fun hc5 => ?_) (fun hc5 => ?_)
  · have hc5 : x < 0 := hc5
    refine v_push (0) (hi_X12_isIn_17 hT) rfl ?_
    refine v_ret (hi_X12_isIn_18 hT) (Or.inl rfl) ?_
    show vP D T N 246 15 (zset (zset h 121 1 (0, 0)) 121 0 (0, 0)) [some (2, 121), some (0, x)] [(0, 0)] _
    refine v_ret (hi_X12_isCompanyAt_15 hT) (Or.inl rfl) ?_
    show vP D T N 274 15 (zset (zset h 121 1 (0, 0)) 121 0 (0, 0)) [some (2, 121), some (0, x), none] [(0, 0)] _
    refine v_if (hz_X12_march hT _ _ rfl) (fun _ => ?_) (fun hc6 => absurd (show (0 : Int) = 0 from (by decide)) hc6)
    refine v_load (v := (2, 121)) (hz_X12_march hT _ _ rfl) rfl rfl ?_
    refine v_push (2) (hz_X12_march hT _ _ rfl) rfl ?_
    refine v_call (w := 2) [some (2, 121), some (0, 2)] hO (hz_X12_march hT _ _ rfl) rfl rfl ?_
    refine v_load (v := (2, 121)) (hi_X12_refuse_0 hT) rfl rfl ?_
    refine v_load (v := (0, 2)) (hi_X12_refuse_1 hT) rfl rfl ?_
    refine v_putf (r := 121) hO (hi_X12_refuse_2 hT) rfl (fun hf7 => ?_)
    refine v_push (-1) (hi_X12_refuse_5 hT) rfl ?_
    refine v_ret (hi_X12_refuse_6 hT) (Or.inl rfl) ?_
    show vP D T N 274 23 (zset (zset (zset h 121 1 (0, 0)) 121 0 (0, 0)) 121 0 (0, 2)) [some (2, 121), some (0, x), none] [(0, -1)] _
    refine v_ret (hz_X12_march hT _ _ rfl) (Or.inl rfl) ?_
    exact k0 hc5
  · have hc5 : 0 ≤ x := Int.not_lt.mp hc5
    refine v_load (v := (1, x)) (hi_X12_isIn_6 hT) rfl rfl ?_
    refine v_load (v := (1, ((P 0 3) - 1))) (hi_X12_isIn_7 hT) rfl rfl ?_
    refine v_lif (hi_X12_isIn_9 hT) (hi_X12_isIn_10 hT) (fun hc8 => ?_) (fun hc8 => ?_)
    · have hc8 : ((P 0 3) - 1) < x := hc8
      refine v_push (0) (hi_X12_isIn_17 hT) rfl ?_
      refine v_ret (hi_X12_isIn_18 hT) (Or.inl rfl) ?_
      show vP D T N 246 15 (zset (zset h 121 1 (0, 0)) 121 0 (0, 0)) [some (2, 121), some (0, x)] [(0, 0)] _
      refine v_ret (hi_X12_isCompanyAt_15 hT) (Or.inl rfl) ?_
      show vP D T N 274 15 (zset (zset h 121 1 (0, 0)) 121 0 (0, 0)) [some (2, 121), some (0, x), none] [(0, 0)] _
      refine v_if (hz_X12_march hT _ _ rfl) (fun _ => ?_) (fun hc9 => absurd (show (0 : Int) = 0 from (by decide)) hc9)
      refine v_load (v := (2, 121)) (hz_X12_march hT _ _ rfl) rfl rfl ?_
      refine v_push (2) (hz_X12_march hT _ _ rfl) rfl ?_
      refine v_call (w := 2) [some (2, 121), some (0, 2)] hO (hz_X12_march hT _ _ rfl) rfl rfl ?_
      refine v_load (v := (2, 121)) (hi_X12_refuse_0 hT) rfl rfl ?_
      refine v_load (v := (0, 2)) (hi_X12_refuse_1 hT) rfl rfl ?_
      refine v_putf (r := 121) hO (hi_X12_refuse_2 hT) rfl (fun hf10 => ?_)
      refine v_push (-1) (hi_X12_refuse_5 hT) rfl ?_
      refine v_ret (hi_X12_refuse_6 hT) (Or.inl rfl) ?_
      show vP D T N 274 23 (zset (zset (zset h 121 1 (0, 0)) 121 0 (0, 0)) 121 0 (0, 2)) [some (2, 121), some (0, x), none] [(0, -1)] _
      refine v_ret (hz_X12_march hT _ _ rfl) (Or.inl rfl) ?_
      exact k1 hc5 hc8
    · have hc8 : x ≤ ((P 0 3) - 1) := Int.not_lt.mp hc8
      refine v_push (1) (hi_X12_isIn_13 hT) rfl ?_
      refine v_goto (hi_X12_isIn_14 hT) ?_
      refine v_ret (hi_X12_isIn_18 hT) (Or.inl rfl) ?_
      show vP D T N 246 15 (zset (zset h 121 1 (0, 0)) 121 0 (0, 0)) [some (2, 121), some (0, x)] [(0, 1)] _
      refine v_ret (hi_X12_isCompanyAt_15 hT) (Or.inl rfl) ?_
      show vP D T N 274 15 (zset (zset h 121 1 (0, 0)) 121 0 (0, 0)) [some (2, 121), some (0, x), none] [(0, 1)] _
      refine v_if (hz_X12_march hT _ _ rfl) (fun hc11 => absurd (show (1 : Int) = 0 from hc11) (by decide)) (fun _ => ?_)
      exact k2 hc5 hc8
theorem qs_march24 {D : zD} {T : zT} (hT : hTab T) (hO : vOK T) {N : Nat} {h : zH} {Q : zR → Prop} {a : Nat} (hv0 : zHv h)
    (k0 : vP D T N 275 0 h [some (2, 121), some (0, (a : Int)), none, none] [] (fun r1 => vP D T N 274 29 r1.1 [some (2, 121), some (0, (a : Int)), none] (zpush r1.2 []) Q)) :
    vP D T N 274 24 h [some (2, 121), some (0, (a : Int)), none] [] Q := by
  refine v_load (v := (2, 121)) (hz_X12_march hT _ _ rfl) rfl rfl ?_
  refine v_load (v := (0, (a : Int))) (hz_X12_march hT _ _ rfl) rfl rfl ?_
  refine v_call (w := 4) [some (2, 121), some (0, (a : Int)), none, none] hO (hz_X12_march hT _ _ rfl) rfl rfl ?_
  exact k0 
theorem qs_march29n {D : zD} {T : zT} (hT : hTab T) (hO : vOK T) {N : Nat} {h : zH} {Q : zR → Prop} {a : Nat} (hv0 : zHv h)
    (k0 : Q (zset h 121 0 (0, 9), some (0, -1))) :
    vP D T N 274 29 h [some (2, 121), some (0, (a : Int)), none] [(0, -1)] Q := by
  refine v_store1 [some (2, 121), some (0, (a : Int)), some (0, -1)] (hz_X12_march hT _ _ rfl) ⟨rfl, Nat.ne_of_beq_eq_false rfl⟩ (Nat.le_of_ble_eq_true rfl) rfl ?_
  refine v_load (v := (0, -1)) (hz_X12_march hT _ _ rfl) rfl rfl ?_
  refine v_if (hz_X12_march hT _ _ rfl) (fun _ => ?_) (fun hc1 => absurd (show (-1 : Int) < 0 from (by decide)) hc1)
  refine v_load (v := (2, 121)) (hz_X12_march hT _ _ rfl) rfl rfl ?_
  refine v_push (9) (hz_X12_march hT _ _ rfl) rfl ?_
  refine v_call (w := 2) [some (2, 121), some (0, 9)] hO (hz_X12_march hT _ _ rfl) rfl rfl ?_
  refine v_load (v := (2, 121)) (hi_X12_refuse_0 hT) rfl rfl ?_
  refine v_load (v := (0, 9)) (hi_X12_refuse_1 hT) rfl rfl ?_
  refine v_putf (r := 121) hO (hi_X12_refuse_2 hT) rfl (fun hf2 => ?_)
  refine v_push (-1) (hi_X12_refuse_5 hT) rfl ?_
  refine v_ret (hi_X12_refuse_6 hT) (Or.inl rfl) ?_
  show vP D T N 274 40 (zset h 121 0 (0, 9)) [some (2, 121), some (0, (a : Int)), some (0, -1)] [(0, -1)] _
  refine v_ret (hz_X12_march hT _ _ rfl) (Or.inl rfl) ?_
  exact k0 
theorem qs_march29 {D : zD} {T : zT} (hT : hTab T) (hO : vOK T) {N : Nat} {h : zH} {Q : zR → Prop} {a n : Nat} (w : Int) (hv0 : zHv h) (hw : 0 ≤ w) (e33 : h 121 33 = (0, (n : Int)))
    (k0 : Q (zset h 121 32 (0, (n : Int)), some (0, w))) :
    vP D T N 274 29 h [some (2, 121), some (0, (a : Int)), none] [(0, w)] Q := by
  refine v_store1 [some (2, 121), some (0, (a : Int)), some (0, w)] (hz_X12_march hT _ _ rfl) ⟨rfl, Nat.ne_of_beq_eq_false rfl⟩ (Nat.le_of_ble_eq_true rfl) rfl ?_
  refine v_load (v := (0, w)) (hz_X12_march hT _ _ rfl) rfl rfl ?_
  refine v_if (hz_X12_march hT _ _ rfl) (fun hc1 => absurd (show w < 0 from hc1) (by omega)) (fun _ => ?_)
  refine v_load (v := (2, 121)) (hz_X12_march hT _ _ rfl) rfl rfl ?_
  refine v_load (v := (2, 121)) (hz_X12_march hT _ _ rfl) rfl rfl ?_
  refine v_getf (v := (0, (n : Int))) (r := 121) (hz_X12_march hT _ _ rfl) rfl rfl (fun _ => e33) ?_
  refine v_putf (r := 121) hO (hz_X12_march hT _ _ rfl) rfl (fun hf2 => ?_)
  refine v_load (v := (0, w)) (hz_X12_march hT _ _ rfl) rfl rfl ?_
  refine v_ret (hz_X12_march hT _ _ rfl) (Or.inl rfl) ?_
  exact k0 
theorem qs_hand0 {D : zD} {T : zT} (hT : hTab T) (hO : vOK T) {N : Nat} {h : zH} {Q : zR → Prop} {P : PT} (x y : Int) (hv0 : zHv h) (p0 : h 126 0 = (0, P 0 0)) (p1 : h 126 1 = (0, P 0 1)) (p2 : h 126 2 = (0, P 0 2)) (p3 : h 126 3 = (0, P 0 3)) (lb : (0 ≤ P 0 0 ∧ P 0 0 ≤ 8) ∧ (0 ≤ P 0 1 ∧ P 0 1 ≤ 6) ∧ (0 ≤ P 0 2 ∧ P 0 2 ≤ 3) ∧ (0 ≤ P 0 3 ∧ P 0 3 ≤ 6))
    (k0 : (x < 0) → Q (zset (zset (zset h 121 1 (0, 0)) 121 0 (0, 0)) 121 0 (0, 2), some (0, 0)))
    (k1 : (0 ≤ x) → (((P 0 3) - 1) < x) → Q (zset (zset (zset h 121 1 (0, 0)) 121 0 (0, 0)) 121 0 (0, 2), some (0, 0)))
    (k2 : (0 ≤ x) → (x ≤ ((P 0 3) - 1)) → (y < 0) → Q (zset (zset (zset h 121 1 (0, 0)) 121 0 (0, 0)) 121 0 (0, 2), some (0, 0)))
    (k3 : (0 ≤ x) → (x ≤ ((P 0 3) - 1)) → (0 ≤ y) → (((P 0 2) - 1) < y) → Q (zset (zset (zset h 121 1 (0, 0)) 121 0 (0, 0)) 121 0 (0, 2), some (0, 0)))
    (k4 : (0 ≤ x) → (x ≤ ((P 0 3) - 1)) → (0 ≤ y) → (y ≤ ((P 0 2) - 1)) → vP D T N 236 32 (zset (zset h 121 1 (0, 0)) 121 0 (0, 0)) [some (2, 121), some (0, x), some (0, y)] [] Q) :
    vP D T N 236 0 h [some (2, 121), some (0, x), some (0, y)] [] Q := by
  refine v_load (v := (2, 121)) (hz_X12_hand hT _ _ rfl) rfl rfl ?_
  refine v_push (0) (hz_X12_hand hT _ _ rfl) rfl ?_
  refine v_putf (r := 121) hO (hz_X12_hand hT _ _ rfl) rfl (fun hf1 => ?_)
  refine v_load (v := (2, 121)) (hz_X12_hand hT _ _ rfl) rfl rfl ?_
  refine v_push (0) (hz_X12_hand hT _ _ rfl) rfl ?_
  refine v_putf (r := 121) hO (hz_X12_hand hT _ _ rfl) rfl (fun hf2 => ?_)
  refine v_load (v := (2, 121)) (hz_X12_hand hT _ _ rfl) rfl rfl ?_
  refine v_load (v := (0, x)) (hz_X12_hand hT _ _ rfl) rfl rfl ?_
  refine v_call (w := 2) [some (2, 121), some (0, x)] hO (hz_X12_hand hT _ _ rfl) rfl rfl ?_
  refine v_load (v := (0, x)) (hi_X12_isCompanyAt_0 hT) rfl rfl ?_
  refine v_i2l (hi_X12_isCompanyAt_1 hT) ?_
  refine v_push (0) (hi_X12_isCompanyAt_2 hT) rfl ?_
  refine v_load (v := (2, 121)) (hi_X12_isCompanyAt_3 hT) rfl rfl ?_
  refine v_getR (c := 126) (r := 121) (hi_X12_isCompanyAt_4 hT) rfl rfl rfl ?_
  refine v_push (3) (hi_X12_isCompanyAt_7 hT) rfl ?_
  refine v_aldV (v := (0, (P 0 3))) (r := 126) (hi_X12_isCompanyAt_8 hT) rfl rfl (fun _ _ _ => (Eq.trans (Eq.trans (zset_ne (fun c => absurd c.1 (by decide))) (zset_ne (fun c => absurd c.1 (by decide)))) (p3))) (fun ha3 hb4 => ?_)
  refine v_push (1) (hi_X12_isCompanyAt_9 hT) rfl ?_
  refine v_bin (w := ((P 0 3) - 1)) (hi_X12_isCompanyAt_10 hT) (hq_sub (by omega) (by omega)) ?_
  refine v_i2l (hi_X12_isCompanyAt_11 hT) ?_
  refine v_call (w := 6) [some (1, x), none, some (1, 0), none, some (1, ((P 0 3) - 1)), none] hO (hi_X12_isCompanyAt_12 hT) rfl rfl ?_
  refine v_load (v := (1, x)) (hi_X12_isIn_0 hT) rfl rfl ?_
  refine v_load (v := (1, 0)) (hi_X12_isIn_1 hT) rfl rfl ?_
  refine v_lif (hi_X12_isIn_2 hT) (hi_X12_isIn_3 hT) (fun hc5 => ?_) (fun hc5 => ?_)
  · have hc5 : x < 0 := hc5
    refine v_push (0) (hi_X12_isIn_17 hT) rfl ?_
    refine v_ret (hi_X12_isIn_18 hT) (Or.inl rfl) ?_
    show vP D T N 246 15 (zset (zset h 121 1 (0, 0)) 121 0 (0, 0)) [some (2, 121), some (0, x)] [(0, 0)] _
    refine v_ret (hi_X12_isCompanyAt_15 hT) (Or.inl rfl) ?_
    show vP D T N 236 15 (zset (zset h 121 1 (0, 0)) 121 0 (0, 0)) [some (2, 121), some (0, x), some (0, y)] [(0, 0)] _
    refine v_if (hz_X12_hand hT _ _ rfl) (fun _ => ?_) (fun hc6 => absurd (show (0 : Int) = 0 from (by decide)) hc6)
    refine v_load (v := (2, 121)) (hi_X12_hand_26 hT) rfl rfl ?_
    refine v_push (2) (hi_X12_hand_27 hT) rfl ?_
    refine v_call (w := 2) [some (2, 121), some (0, 2)] hO (hi_X12_hand_28 hT) rfl rfl ?_
    refine v_load (v := (2, 121)) (hi_X12_no_0 hT) rfl rfl ?_
    refine v_load (v := (0, 2)) (hi_X12_no_1 hT) rfl rfl ?_
    refine v_putf (r := 121) hO (hi_X12_no_2 hT) rfl (fun hf7 => ?_)
    refine v_push (0) (hi_X12_no_5 hT) rfl ?_
    refine v_ret (hi_X12_no_6 hT) (Or.inl rfl) ?_
    show vP D T N 236 31 (zset (zset (zset h 121 1 (0, 0)) 121 0 (0, 0)) 121 0 (0, 2)) [some (2, 121), some (0, x), some (0, y)] [(0, 0)] _
    refine v_ret (hi_X12_hand_31 hT) (Or.inl rfl) ?_
    exact k0 hc5
  · have hc5 : 0 ≤ x := Int.not_lt.mp hc5
    refine v_load (v := (1, x)) (hi_X12_isIn_6 hT) rfl rfl ?_
    refine v_load (v := (1, ((P 0 3) - 1))) (hi_X12_isIn_7 hT) rfl rfl ?_
    refine v_lif (hi_X12_isIn_9 hT) (hi_X12_isIn_10 hT) (fun hc8 => ?_) (fun hc8 => ?_)
    · have hc8 : ((P 0 3) - 1) < x := hc8
      refine v_push (0) (hi_X12_isIn_17 hT) rfl ?_
      refine v_ret (hi_X12_isIn_18 hT) (Or.inl rfl) ?_
      show vP D T N 246 15 (zset (zset h 121 1 (0, 0)) 121 0 (0, 0)) [some (2, 121), some (0, x)] [(0, 0)] _
      refine v_ret (hi_X12_isCompanyAt_15 hT) (Or.inl rfl) ?_
      show vP D T N 236 15 (zset (zset h 121 1 (0, 0)) 121 0 (0, 0)) [some (2, 121), some (0, x), some (0, y)] [(0, 0)] _
      refine v_if (hz_X12_hand hT _ _ rfl) (fun _ => ?_) (fun hc9 => absurd (show (0 : Int) = 0 from (by decide)) hc9)
      refine v_load (v := (2, 121)) (hi_X12_hand_26 hT) rfl rfl ?_
      refine v_push (2) (hi_X12_hand_27 hT) rfl ?_
      refine v_call (w := 2) [some (2, 121), some (0, 2)] hO (hi_X12_hand_28 hT) rfl rfl ?_
      refine v_load (v := (2, 121)) (hi_X12_no_0 hT) rfl rfl ?_
      refine v_load (v := (0, 2)) (hi_X12_no_1 hT) rfl rfl ?_
      refine v_putf (r := 121) hO (hi_X12_no_2 hT) rfl (fun hf10 => ?_)
      refine v_push (0) (hi_X12_no_5 hT) rfl ?_
      refine v_ret (hi_X12_no_6 hT) (Or.inl rfl) ?_
      show vP D T N 236 31 (zset (zset (zset h 121 1 (0, 0)) 121 0 (0, 0)) 121 0 (0, 2)) [some (2, 121), some (0, x), some (0, y)] [(0, 0)] _
      refine v_ret (hi_X12_hand_31 hT) (Or.inl rfl) ?_
      exact k1 hc5 hc8
    · have hc8 : x ≤ ((P 0 3) - 1) := Int.not_lt.mp hc8
      refine v_push (1) (hi_X12_isIn_13 hT) rfl ?_
      refine v_goto (hi_X12_isIn_14 hT) ?_
      refine v_ret (hi_X12_isIn_18 hT) (Or.inl rfl) ?_
      show vP D T N 246 15 (zset (zset h 121 1 (0, 0)) 121 0 (0, 0)) [some (2, 121), some (0, x)] [(0, 1)] _
      refine v_ret (hi_X12_isCompanyAt_15 hT) (Or.inl rfl) ?_
      show vP D T N 236 15 (zset (zset h 121 1 (0, 0)) 121 0 (0, 0)) [some (2, 121), some (0, x), some (0, y)] [(0, 1)] _
      refine v_if (hz_X12_hand hT _ _ rfl) (fun hc11 => absurd (show (1 : Int) = 0 from hc11) (by decide)) (fun _ => ?_)
      refine v_load (v := (2, 121)) (hz_X12_hand hT _ _ rfl) rfl rfl ?_
      refine v_load (v := (0, y)) (hz_X12_hand hT _ _ rfl) rfl rfl ?_
      refine v_call (w := 2) [some (2, 121), some (0, y)] hO (hz_X12_hand hT _ _ rfl) rfl rfl ?_
      refine v_load (v := (0, y)) (hi_X12_isCopy_0 hT) rfl rfl ?_
      refine v_i2l (hi_X12_isCopy_1 hT) ?_
      refine v_push (0) (hi_X12_isCopy_2 hT) rfl ?_
      refine v_load (v := (2, 121)) (hi_X12_isCopy_3 hT) rfl rfl ?_
      refine v_getR (c := 126) (r := 121) (hi_X12_isCopy_4 hT) rfl rfl rfl ?_
      refine v_push (2) (hi_X12_isCopy_7 hT) rfl ?_
      refine v_aldV (v := (0, (P 0 2))) (r := 126) (hi_X12_isCopy_8 hT) rfl rfl (fun _ _ _ => (Eq.trans (Eq.trans (zset_ne (fun c => absurd c.1 (by decide))) (zset_ne (fun c => absurd c.1 (by decide)))) (p2))) (fun ha12 hb13 => ?_)
      refine v_push (1) (hi_X12_isCopy_9 hT) rfl ?_
      refine v_bin (w := ((P 0 2) - 1)) (hi_X12_isCopy_10 hT) (hq_sub (by omega) (by omega)) ?_
      refine v_i2l (hi_X12_isCopy_11 hT) ?_
      refine v_call (w := 6) [some (1, y), none, some (1, 0), none, some (1, ((P 0 2) - 1)), none] hO (hi_X12_isCopy_12 hT) rfl rfl ?_
      refine v_load (v := (1, y)) (hi_X12_isIn_0 hT) rfl rfl ?_
      refine v_load (v := (1, 0)) (hi_X12_isIn_1 hT) rfl rfl ?_
      refine v_lif (hi_X12_isIn_2 hT) (hi_X12_isIn_3 hT) (fun hc14 => ?_) (fun hc14 => ?_)
      · have hc14 : y < 0 := hc14
        refine v_push (0) (hi_X12_isIn_17 hT) rfl ?_
        refine v_ret (hi_X12_isIn_18 hT) (Or.inl rfl) ?_
        show vP D T N 248 15 (zset (zset h 121 1 (0, 0)) 121 0 (0, 0)) [some (2, 121), some (0, y)] [(0, 0)] _
        refine v_ret (hi_X12_isCopy_15 hT) (Or.inl rfl) ?_
        show vP D T N 236 23 (zset (zset h 121 1 (0, 0)) 121 0 (0, 0)) [some (2, 121), some (0, x), some (0, y)] [(0, 0)] _
        refine v_if (hz_X12_hand hT _ _ rfl) (fun _ => ?_) (fun hc15 => absurd (show (0 : Int) = 0 from (by decide)) hc15)
        refine v_load (v := (2, 121)) (hi_X12_hand_26 hT) rfl rfl ?_
        refine v_push (2) (hi_X12_hand_27 hT) rfl ?_
        refine v_call (w := 2) [some (2, 121), some (0, 2)] hO (hi_X12_hand_28 hT) rfl rfl ?_
        refine v_load (v := (2, 121)) (hi_X12_no_0 hT) rfl rfl ?_
        refine v_load (v := (0, 2)) (hi_X12_no_1 hT) rfl rfl ?_
        refine v_putf (r := 121) hO (hi_X12_no_2 hT) rfl (fun hf16 => ?_)
        refine v_push (0) (hi_X12_no_5 hT) rfl ?_
        refine v_ret (hi_X12_no_6 hT) (Or.inl rfl) ?_
        show vP D T N 236 31 (zset (zset (zset h 121 1 (0, 0)) 121 0 (0, 0)) 121 0 (0, 2)) [some (2, 121), some (0, x), some (0, y)] [(0, 0)] _
        refine v_ret (hi_X12_hand_31 hT) (Or.inl rfl) ?_
        exact k2 hc5 hc8 hc14
      · have hc14 : 0 ≤ y := Int.not_lt.mp hc14
        refine v_load (v := (1, y)) (hi_X12_isIn_6 hT) rfl rfl ?_
        refine v_load (v := (1, ((P 0 2) - 1))) (hi_X12_isIn_7 hT) rfl rfl ?_
        refine v_lif (hi_X12_isIn_9 hT) (hi_X12_isIn_10 hT) (fun hc17 => ?_) (fun hc17 => ?_)
        · have hc17 : ((P 0 2) - 1) < y := hc17
          refine v_push (0) (hi_X12_isIn_17 hT) rfl ?_
          refine v_ret (hi_X12_isIn_18 hT) (Or.inl rfl) ?_
          show vP D T N 248 15 (zset (zset h 121 1 (0, 0)) 121 0 (0, 0)) [some (2, 121), some (0, y)] [(0, 0)] _
          refine v_ret (hi_X12_isCopy_15 hT) (Or.inl rfl) ?_
          show vP D T N 236 23 (zset (zset h 121 1 (0, 0)) 121 0 (0, 0)) [some (2, 121), some (0, x), some (0, y)] [(0, 0)] _
          refine v_if (hz_X12_hand hT _ _ rfl) (fun _ => ?_) (fun hc18 => absurd (show (0 : Int) = 0 from (by decide)) hc18)
          refine v_load (v := (2, 121)) (hi_X12_hand_26 hT) rfl rfl ?_
          refine v_push (2) (hi_X12_hand_27 hT) rfl ?_
          refine v_call (w := 2) [some (2, 121), some (0, 2)] hO (hi_X12_hand_28 hT) rfl rfl ?_
          refine v_load (v := (2, 121)) (hi_X12_no_0 hT) rfl rfl ?_
          refine v_load (v := (0, 2)) (hi_X12_no_1 hT) rfl rfl ?_
          refine v_putf (r := 121) hO (hi_X12_no_2 hT) rfl (fun hf19 => ?_)
          refine v_push (0) (hi_X12_no_5 hT) rfl ?_
          refine v_ret (hi_X12_no_6 hT) (Or.inl rfl) ?_
          show vP D T N 236 31 (zset (zset (zset h 121 1 (0, 0)) 121 0 (0, 0)) 121 0 (0, 2)) [some (2, 121), some (0, x), some (0, y)] [(0, 0)] _
          refine v_ret (hi_X12_hand_31 hT) (Or.inl rfl) ?_
          exact k3 hc5 hc8 hc14 hc17
        · have hc17 : y ≤ ((P 0 2) - 1) := Int.not_lt.mp hc17
          refine v_push (1) (hi_X12_isIn_13 hT) rfl ?_
          refine v_goto (hi_X12_isIn_14 hT) ?_
          refine v_ret (hi_X12_isIn_18 hT) (Or.inl rfl) ?_
          show vP D T N 248 15 (zset (zset h 121 1 (0, 0)) 121 0 (0, 0)) [some (2, 121), some (0, y)] [(0, 1)] _
          refine v_ret (hi_X12_isCopy_15 hT) (Or.inl rfl) ?_
          show vP D T N 236 23 (zset (zset h 121 1 (0, 0)) 121 0 (0, 0)) [some (2, 121), some (0, x), some (0, y)] [(0, 1)] _
          refine v_if (hz_X12_hand hT _ _ rfl) (fun hc20 => absurd (show (1 : Int) = 0 from hc20) (by decide)) (fun _ => ?_)
          exact k4 hc5 hc8 hc14 hc17
theorem qs_hand32 {D : zD} {T : zT} (hT : hTab T) (hO : vOK T) {N : Nat} {h : zH} {Q : zR → Prop} {a j : Nat} (hv0 : zHv h) (ha : a < 6)
    (k0 : (0 ≤ (263 + (a : Int))) → ((263 + (a : Int)) < 2750) → Q (zset h 126 (((263 + (a : Int))).toNat) (0, (j : Int)), some (0, 1))) :
    vP D T N 236 32 h [some (2, 121), some (0, (a : Int)), some (0, (j : Int))] [] Q := by
  refine v_load (v := (2, 121)) (hz_X12_hand hT _ _ rfl) rfl rfl ?_
  refine v_getR (c := 126) (r := 121) (hz_X12_hand hT _ _ rfl) rfl rfl rfl ?_
  refine v_push (263) (hz_X12_hand hT _ _ rfl) rfl ?_
  refine v_load (v := (0, (a : Int))) (hz_X12_hand hT _ _ rfl) rfl rfl ?_
  refine v_bin (w := (263 + (a : Int))) (hz_X12_hand hT _ _ rfl) (hq_add (by omega) (by omega)) ?_
  refine v_load (v := (0, (j : Int))) (hz_X12_hand hT _ _ rfl) rfl rfl ?_
  refine v_ast (r := 126) (hz_X12_hand hT _ _ rfl) rfl rfl (fun ha1 hb2 hf3 => ?_)
  refine v_push (1) (hz_X12_hand hT _ _ rfl) rfl ?_
  refine v_ret (hz_X12_hand hT _ _ rfl) (Or.inl rfl) ?_
  exact k0 ha1 hb2
theorem qs_run0 {D : zD} {T : zT} (hT : hTab T) (hO : vOK T) {N : Nat} {h : zH} {Q : zR → Prop} (x w : Int) (hv0 : zHv h) (e275 : h 126 275 = (0, w))
    (k0 : (x < 0) → Q (zset (zset (zset h 121 1 (0, 0)) 121 0 (0, 0)) 121 0 (0, 5), some (0, -1)))
    (k1 : (0 ≤ x) → (9999 < x) → Q (zset (zset (zset h 121 1 (0, 0)) 121 0 (0, 0)) 121 0 (0, 5), some (0, -1)))
    (k2 : (0 ≤ x) → (x ≤ 9999) → (w = 0) → Q (zset (zset (zset h 121 1 (0, 0)) 121 0 (0, 0)) 121 0 (0, 8), some (0, -1)))
    (k3 : (0 ≤ x) → (x ≤ 9999) → (w ≠ 0) → vP D T N 308 0 (zset (zset h 121 1 (0, 0)) 121 0 (0, 0)) [some (2, 121), some (0, x)] [] (fun r1 => vP D T N 307 51 r1.1 [some (2, 121), some (0, x)] (zpush r1.2 []) Q)) :
    vP D T N 307 0 h [some (2, 121), some (0, x)] [] Q := by
  refine v_load (v := (2, 121)) (hz_X12_run hT _ _ rfl) rfl rfl ?_
  refine v_push (0) (hz_X12_run hT _ _ rfl) rfl ?_
  refine v_putf (r := 121) hO (hz_X12_run hT _ _ rfl) rfl (fun hf1 => ?_)
  refine v_load (v := (2, 121)) (hz_X12_run hT _ _ rfl) rfl rfl ?_
  refine v_push (0) (hz_X12_run hT _ _ rfl) rfl ?_
  refine v_putf (r := 121) hO (hz_X12_run hT _ _ rfl) rfl (fun hf2 => ?_)
  refine v_load (v := (0, x)) (hz_X12_run hT _ _ rfl) rfl rfl ?_
  refine v_i2l (hz_X12_run hT _ _ rfl) ?_
  refine v_push (0) (hz_X12_run hT _ _ rfl) rfl ?_
  refine v_push (9999) (hz_X12_run hT _ _ rfl) rfl ?_
  refine v_call (w := 6) [some (1, x), none, some (1, 0), none, some (1, 9999), none] hO (hz_X12_run hT _ _ rfl) rfl rfl ?_
  refine v_load (v := (1, x)) (hi_X12_isIn_0 hT) rfl rfl ?_
  refine v_load (v := (1, 0)) (hi_X12_isIn_1 hT) rfl rfl ?_
  refine v_lif (hi_X12_isIn_2 hT) (hi_X12_isIn_3 hT) (fun hc3 => ?_) (fun hc3 => ?_)
  · have hc3 : x < 0 := hc3
    refine v_push (0) (hi_X12_isIn_17 hT) rfl ?_
    refine v_ret (hi_X12_isIn_18 hT) (Or.inl rfl) ?_
    show vP D T N 307 19 (zset (zset h 121 1 (0, 0)) 121 0 (0, 0)) [some (2, 121), some (0, x)] [(0, 0)] _
    refine v_if (hz_X12_run hT _ _ rfl) (fun _ => ?_) (fun hc4 => absurd (show (0 : Int) = 0 from (by decide)) hc4)
    refine v_load (v := (2, 121)) (hz_X12_run hT _ _ rfl) rfl rfl ?_
    refine v_push (5) (hz_X12_run hT _ _ rfl) rfl ?_
    refine v_call (w := 2) [some (2, 121), some (0, 5)] hO (hz_X12_run hT _ _ rfl) rfl rfl ?_
    refine v_load (v := (2, 121)) (hi_X12_refuse_0 hT) rfl rfl ?_
    refine v_load (v := (0, 5)) (hi_X12_refuse_1 hT) rfl rfl ?_
    refine v_putf (r := 121) hO (hi_X12_refuse_2 hT) rfl (fun hf5 => ?_)
    refine v_push (-1) (hi_X12_refuse_5 hT) rfl ?_
    refine v_ret (hi_X12_refuse_6 hT) (Or.inl rfl) ?_
    show vP D T N 307 27 (zset (zset (zset h 121 1 (0, 0)) 121 0 (0, 0)) 121 0 (0, 5)) [some (2, 121), some (0, x)] [(0, -1)] _
    refine v_ret (hz_X12_run hT _ _ rfl) (Or.inl rfl) ?_
    exact k0 hc3
  · have hc3 : 0 ≤ x := Int.not_lt.mp hc3
    refine v_load (v := (1, x)) (hi_X12_isIn_6 hT) rfl rfl ?_
    refine v_load (v := (1, 9999)) (hi_X12_isIn_7 hT) rfl rfl ?_
    refine v_lif (hi_X12_isIn_9 hT) (hi_X12_isIn_10 hT) (fun hc6 => ?_) (fun hc6 => ?_)
    · have hc6 : 9999 < x := hc6
      refine v_push (0) (hi_X12_isIn_17 hT) rfl ?_
      refine v_ret (hi_X12_isIn_18 hT) (Or.inl rfl) ?_
      show vP D T N 307 19 (zset (zset h 121 1 (0, 0)) 121 0 (0, 0)) [some (2, 121), some (0, x)] [(0, 0)] _
      refine v_if (hz_X12_run hT _ _ rfl) (fun _ => ?_) (fun hc7 => absurd (show (0 : Int) = 0 from (by decide)) hc7)
      refine v_load (v := (2, 121)) (hz_X12_run hT _ _ rfl) rfl rfl ?_
      refine v_push (5) (hz_X12_run hT _ _ rfl) rfl ?_
      refine v_call (w := 2) [some (2, 121), some (0, 5)] hO (hz_X12_run hT _ _ rfl) rfl rfl ?_
      refine v_load (v := (2, 121)) (hi_X12_refuse_0 hT) rfl rfl ?_
      refine v_load (v := (0, 5)) (hi_X12_refuse_1 hT) rfl rfl ?_
      refine v_putf (r := 121) hO (hi_X12_refuse_2 hT) rfl (fun hf8 => ?_)
      refine v_push (-1) (hi_X12_refuse_5 hT) rfl ?_
      refine v_ret (hi_X12_refuse_6 hT) (Or.inl rfl) ?_
      show vP D T N 307 27 (zset (zset (zset h 121 1 (0, 0)) 121 0 (0, 0)) 121 0 (0, 5)) [some (2, 121), some (0, x)] [(0, -1)] _
      refine v_ret (hz_X12_run hT _ _ rfl) (Or.inl rfl) ?_
      exact k1 hc3 hc6
    · have hc6 : x ≤ 9999 := Int.not_lt.mp hc6
      refine v_push (1) (hi_X12_isIn_13 hT) rfl ?_
      refine v_goto (hi_X12_isIn_14 hT) ?_
      refine v_ret (hi_X12_isIn_18 hT) (Or.inl rfl) ?_
      show vP D T N 307 19 (zset (zset h 121 1 (0, 0)) 121 0 (0, 0)) [some (2, 121), some (0, x)] [(0, 1)] _
      refine v_if (hz_X12_run hT _ _ rfl) (fun hc9 => absurd (show (1 : Int) = 0 from hc9) (by decide)) (fun _ => ?_)
      refine v_load (v := (2, 121)) (hz_X12_run hT _ _ rfl) rfl rfl ?_
      refine v_getR (c := 126) (r := 121) (hz_X12_run hT _ _ rfl) rfl rfl rfl ?_
      refine v_push (275) (hz_X12_run hT _ _ rfl) rfl ?_
      refine v_aldV (v := (0, w)) (r := 126) (hz_X12_run hT _ _ rfl) rfl rfl (fun _ _ _ => (Eq.trans (Eq.trans (zset_ne (fun c => absurd c.1 (by decide))) (zset_ne (fun c => absurd c.1 (by decide)))) (e275))) (fun ha10 hb11 => ?_)
      refine v_if (hz_X12_run hT _ _ rfl) (fun hc12 => ?_) (fun hc12 => ?_)
      · have hc12 : w = 0 := hc12
        refine v_load (v := (2, 121)) (hz_X12_run hT _ _ rfl) rfl rfl ?_
        refine v_push (8) (hz_X12_run hT _ _ rfl) rfl ?_
        refine v_call (w := 2) [some (2, 121), some (0, 8)] hO (hz_X12_run hT _ _ rfl) rfl rfl ?_
        refine v_load (v := (2, 121)) (hi_X12_refuse_0 hT) rfl rfl ?_
        refine v_load (v := (0, 8)) (hi_X12_refuse_1 hT) rfl rfl ?_
        refine v_putf (r := 121) hO (hi_X12_refuse_2 hT) rfl (fun hf13 => ?_)
        refine v_push (-1) (hi_X12_refuse_5 hT) rfl ?_
        refine v_ret (hi_X12_refuse_6 hT) (Or.inl rfl) ?_
        show vP D T N 307 45 (zset (zset (zset h 121 1 (0, 0)) 121 0 (0, 0)) 121 0 (0, 8)) [some (2, 121), some (0, x)] [(0, -1)] _
        refine v_ret (hz_X12_run hT _ _ rfl) (Or.inl rfl) ?_
        exact k2 hc3 hc6 hc12
      · have hc12 : w ≠ 0 := hc12
        refine v_load (v := (2, 121)) (hz_X12_run hT _ _ rfl) rfl rfl ?_
        refine v_load (v := (0, x)) (hz_X12_run hT _ _ rfl) rfl rfl ?_
        refine v_call (w := 2) [some (2, 121), some (0, x)] hO (hz_X12_run hT _ _ rfl) rfl rfl ?_
        exact k3 hc3 hc6 hc12
theorem qs_run51 {D : zD} {T : zT} (hT : hTab T) (hO : vOK T) {N : Nat} {h : zH} {Q : zR → Prop} {m b k d : Nat} (x f : Int) (hv0 : zHv h) (e43 : h 121 43 = (0, (d : Int))) (e44 : h 121 44 = (0, (m : Int))) (e45 : h 121 45 = (0, (b : Int))) (e46 : h 121 46 = (0, (k : Int))) (e47 : h 121 47 = (0, f))
    (k0 : Q (zset (zset (zset (zset (zset h 136 0 (0, (m : Int))) 136 1 (0, (b : Int))) 136 2 (0, (k : Int))) 136 3 (0, f)) 121 40 (0, 1), some (0, (d : Int)))) :
    vP D T N 307 51 h [some (2, 121), some (0, x)] [] Q := by
  refine v_load (v := (2, 121)) (hz_X12_run hT _ _ rfl) rfl rfl ?_
  refine v_getR (c := 136) (r := 121) (hz_X12_run hT _ _ rfl) rfl rfl rfl ?_
  refine v_push (0) (hz_X12_run hT _ _ rfl) rfl ?_
  refine v_load (v := (2, 121)) (hz_X12_run hT _ _ rfl) rfl rfl ?_
  refine v_getf (v := (0, (m : Int))) (r := 121) (hz_X12_run hT _ _ rfl) rfl rfl (fun _ => e44) ?_
  refine v_ast (r := 136) (hz_X12_run hT _ _ rfl) rfl rfl (fun ha1 hb2 hf3 => ?_)
  refine v_load (v := (2, 121)) (hz_X12_run hT _ _ rfl) rfl rfl ?_
  refine v_getR (c := 136) (r := 121) (hz_X12_run hT _ _ rfl) rfl rfl rfl ?_
  refine v_push (1) (hz_X12_run hT _ _ rfl) rfl ?_
  refine v_load (v := (2, 121)) (hz_X12_run hT _ _ rfl) rfl rfl ?_
  refine v_getf (v := (0, (b : Int))) (r := 121) (hz_X12_run hT _ _ rfl) rfl rfl (fun _ => Eq.trans (zset_ne (fun c => absurd c.1 (by decide))) (e45)) ?_
  refine v_ast (r := 136) (hz_X12_run hT _ _ rfl) rfl rfl (fun ha4 hb5 hf6 => ?_)
  refine v_load (v := (2, 121)) (hz_X12_run hT _ _ rfl) rfl rfl ?_
  refine v_getR (c := 136) (r := 121) (hz_X12_run hT _ _ rfl) rfl rfl rfl ?_
  refine v_push (2) (hz_X12_run hT _ _ rfl) rfl ?_
  refine v_load (v := (2, 121)) (hz_X12_run hT _ _ rfl) rfl rfl ?_
  refine v_getf (v := (0, (k : Int))) (r := 121) (hz_X12_run hT _ _ rfl) rfl rfl (fun _ => Eq.trans (Eq.trans (zset_ne (fun c => absurd c.1 (by decide))) (zset_ne (fun c => absurd c.1 (by decide)))) (e46)) ?_
  refine v_ast (r := 136) (hz_X12_run hT _ _ rfl) rfl rfl (fun ha7 hb8 hf9 => ?_)
  refine v_load (v := (2, 121)) (hz_X12_run hT _ _ rfl) rfl rfl ?_
  refine v_getR (c := 136) (r := 121) (hz_X12_run hT _ _ rfl) rfl rfl rfl ?_
  refine v_push (3) (hz_X12_run hT _ _ rfl) rfl ?_
  refine v_load (v := (2, 121)) (hz_X12_run hT _ _ rfl) rfl rfl ?_
  refine v_getf (v := (0, f)) (r := 121) (hz_X12_run hT _ _ rfl) rfl rfl (fun _ => Eq.trans (Eq.trans (zset_ne (fun c => absurd c.1 (by decide))) (Eq.trans (zset_ne (fun c => absurd c.1 (by decide))) (zset_ne (fun c => absurd c.1 (by decide))))) (e47)) ?_
  refine v_ast (r := 136) (hz_X12_run hT _ _ rfl) rfl rfl (fun ha10 hb11 hf12 => ?_)
  refine v_load (v := (2, 121)) (hz_X12_run hT _ _ rfl) rfl rfl ?_
  refine v_push (1) (hz_X12_run hT _ _ rfl) rfl ?_
  refine v_putf (r := 121) hO (hz_X12_run hT _ _ rfl) rfl (fun hf13 => ?_)
  refine v_load (v := (2, 121)) (hz_X12_run hT _ _ rfl) rfl rfl ?_
  refine v_getf (v := (0, (d : Int))) (r := 121) (hz_X12_run hT _ _ rfl) rfl rfl (fun _ => Eq.trans (Eq.trans (zset_ne (fun c => absurd c.2 (by decide))) (Eq.trans (zset_ne (fun c => absurd c.1 (by decide))) (Eq.trans (zset_ne (fun c => absurd c.1 (by decide))) (Eq.trans (zset_ne (fun c => absurd c.1 (by decide))) (zset_ne (fun c => absurd c.1 (by decide))))))) (e43)) ?_
  refine v_ret (hz_X12_run hT _ _ rfl) (Or.inl rfl) ?_
  exact k0 
section RT
variable {D : zD} {T : zT} {N : Nat} {h : zH} {P : PT}
theorem at2_J {P : PT} (lb : lB P) {u v : Nat} (hu : (u : Int) < P 0 0) : P 0 0 * (v : Int) + (u : Int) = ((gJ P (8 * v + u) : Nat) : Int) := by
  have w8 := lb.1.2
  rw [gJ_i lb.1.1, show (((8 * v + u) / 8 : Nat) : Int) = (v : Int) from by omega, show (((8 * v + u) % 8 : Nat) : Int) = (u : Int) from by omega]
theorem rx_bite (hT : hTab T) (hO : vOK T) (hR : rBk 0 P h) (hb : fB P) (x y z : Int) : vP D T N 202 0 h [some (2, 121), some (0, x), some (0, y), some (0, z), none] [] (fun r => rBk 0 (btP P x y z) r.1 ∧ rTF h r.1 ∧ r.2 = some (0, btV P x y z)) := by
  have lb := hb.1
  have l3 := lb.2.2.1.2
  have F2 : rTF h (zset (zset h 121 1 (0, 0)) 121 0 (0, 0)) := (rTF.rfl.z (by decide)).z (by decide)
  have hR2 : rBk 0 P (zset (zset h 121 1 (0, 0)) 121 0 (0, 0)) := (hR.z1 lb).z1 lb
  have no : ∀ v : Int, ¬ (okC P x y z ∧ P 3 (cI x y z) ≠ 1) → rBk 0 (btP P x y z) (zset (zset (zset h 121 1 (0, 0)) 121 0 (0, 0)) 121 0 (0, v)) ∧ rTF h (zset (zset (zset h 121 1 (0, 0)) 121 0 (0, 0)) 121 0 (0, v)) ∧ (some ((0, -1) : zV)) = some (0, btV P x y z) := fun v c => by
    unfold btP btV
    rw [if_neg c, if_neg c]
    exact ⟨hR2.z1 lb, F2.z (by decide), rfl⟩
  refine vP_hv (fun hv => qs_bite0 (P := P) hT hO x y z hv hR.w hR.r hR.c hR.m lb ?k0 ?k1 ?k2 ?k3 ?k4 ?k5 ?k6)
  case k6 =>
    intro c1 c2 c3 c4 c5 c6
    obtain ⟨j, rfl⟩ : ∃ j : Nat, x = (j : Int) := ⟨x.toNat, by omega⟩
    obtain ⟨u, rfl⟩ : ∃ u : Nat, y = (u : Int) := ⟨y.toNat, by omega⟩
    obtain ⟨v, rfl⟩ : ∃ v : Nat, z = (v : Int) := ⟨z.toNat, by omega⟩
    have w8 := lb.1.2
    have r6 := lb.2.1.2
    have gq : gIn P (8 * v + u) := ⟨by omega, by omega, by omega⟩
    refine vP_hv (fun hv => qs_bite33 (P := P) hT hO hv hR2.w lb (by omega) (by omega) ?_)
    rw [at2_J lb (by omega)]
    refine rb_bi hT hO _ j (8 * v + u) rfl (by omega) gq hR2 hb (fun c => ?_) (fun c g hP2 f => ?_)
    · exact vP_hv (fun hv => qs_bite44n hT hO hv (no 9 (fun d => d.2 c)))
    · have ok : okC P (j : Int) (u : Int) (v : Int) := ⟨c1, by omega, c3, by omega, c5, by omega⟩
      have e1 : btP P (j : Int) (u : Int) (v : Int) = pBite P j (8 * v + u) := if_pos ⟨ok, c⟩
      have e2 : btV P (j : Int) (u : Int) (v : Int) = gCr P (8 * v + u) := if_pos ⟨ok, c⟩
      have cr := gCr_b hb gq.1
      rw [e1, e2]
      exact vP_hv (fun hv => qs_bite44y hT hO _ hv (by omega) ⟨hP2, F2.trans f.tf, rfl⟩)
  all_goals
    intros
    exact no 2 (by rintro ⟨⟨o1, o2, o3, o4, o5, o6⟩, _⟩; omega)
theorem rx_mould (hT : hTab T) (hO : vOK T) (hR : rBk 0 P h) (hb : fB P) (x y z : Int) : vP D T N 279 0 h [some (2, 121), some (0, x), some (0, y), some (0, z)] [] (fun r => rBk 0 (moP P x y z) r.1 ∧ rTF h r.1 ∧ r.2 = some (0, moV P x y z)) := by
  have lb := hb.1
  have l3 := lb.2.2.1.2
  have F2 : rTF h (zset (zset h 121 1 (0, 0)) 121 0 (0, 0)) := (rTF.rfl.z (by decide)).z (by decide)
  have hR2 : rBk 0 P (zset (zset h 121 1 (0, 0)) 121 0 (0, 0)) := (hR.z1 lb).z1 lb
  have no : ∀ v : Int, ¬ (okC P x y z ∧ (P 3 (cI x y z) = 0)) → rBk 0 (moP P x y z) (zset (zset (zset h 121 1 (0, 0)) 121 0 (0, 0)) 121 0 (0, v)) ∧ rTF h (zset (zset (zset h 121 1 (0, 0)) 121 0 (0, 0)) 121 0 (0, v)) ∧ (some ((0, 0) : zV)) = some (0, moV P x y z) := fun v c => by
    unfold moP moV
    rw [if_neg c, if_neg c]
    exact ⟨hR2.z1 lb, F2.z (by decide), rfl⟩
  refine vP_hv (fun hv => qs_mould0 (P := P) hT hO x y z hv hR.w hR.r hR.c hR.m lb ?k0 ?k1 ?k2 ?k3 ?k4 ?k5 ?k6)
  case k6 =>
    intro c1 c2 c3 c4 c5 c6
    obtain ⟨j, rfl⟩ : ∃ j : Nat, x = (j : Int) := ⟨x.toNat, by omega⟩
    obtain ⟨u, rfl⟩ : ∃ u : Nat, y = (u : Int) := ⟨y.toNat, by omega⟩
    obtain ⟨v, rfl⟩ : ∃ v : Nat, z = (v : Int) := ⟨z.toNat, by omega⟩
    have w8 := lb.1.2
    have r6 := lb.2.1.2
    have gq : gIn P (8 * v + u) := ⟨by omega, by omega, by omega⟩
    have bs := hb.2.2.1 (48 * j + (8 * v + u)) (by omega)
    have ok : okC P (j : Int) (u : Int) (v : Int) := ⟨c1, by omega, c3, by omega, c5, by omega⟩
    refine vP_hv (fun hv => qs_mould33 (P := P) hT hO hv hR2.w lb (by omega) (by omega) ?_)
    rw [at2_J lb (by omega)]
    refine rb_mo hT hO _ j (8 * v + u) rfl (by omega) gq hR2 hb (fun c => ?_) (fun c g hP2 f => ?_)
    · exact vP_hv (fun hv => qs_mould44_0 hT hO hv (no 9 (fun d => by have d := d.2; have d : (P 3 (48 * j + (8 * v + u)) = 0) := d; omega)))
    · have cc : (P 3 (48 * j + (8 * v + u)) = 0) := by omega
      have e1 : moP P (j : Int) (u : Int) (v : Int) = pSt P j (8 * v + u) 2 := if_pos ⟨ok, cc⟩
      have e2 : moV P (j : Int) (u : Int) (v : Int) = 1 := if_pos ⟨ok, cc⟩
      rw [e1, e2]
      exact vP_hv (fun hv => qs_mould44_1 hT hO hv ⟨hP2, F2.trans f.tf, rfl⟩)
  all_goals
    intros
    exact no 2 (by rintro ⟨⟨o1, o2, o3, o4, o5, o6⟩, _⟩; omega)
theorem rx_honey (hT : hTab T) (hO : vOK T) (hR : rBk 0 P h) (hb : fB P) (x y z : Int) : vP D T N 239 0 h [some (2, 121), some (0, x), some (0, y), some (0, z)] [] (fun r => rBk 0 (hoP P x y z) r.1 ∧ rTF h r.1 ∧ r.2 = some (0, hoV P x y z)) := by
  have lb := hb.1
  have l3 := lb.2.2.1.2
  have F2 : rTF h (zset (zset h 121 1 (0, 0)) 121 0 (0, 0)) := (rTF.rfl.z (by decide)).z (by decide)
  have hR2 : rBk 0 P (zset (zset h 121 1 (0, 0)) 121 0 (0, 0)) := (hR.z1 lb).z1 lb
  have no : ∀ v : Int, ¬ (okC P x y z ∧ (P 3 (cI x y z) = 0 ∨ P 3 (cI x y z) = 2)) → rBk 0 (hoP P x y z) (zset (zset (zset h 121 1 (0, 0)) 121 0 (0, 0)) 121 0 (0, v)) ∧ rTF h (zset (zset (zset h 121 1 (0, 0)) 121 0 (0, 0)) 121 0 (0, v)) ∧ (some ((0, 0) : zV)) = some (0, hoV P x y z) := fun v c => by
    unfold hoP hoV
    rw [if_neg c, if_neg c]
    exact ⟨hR2.z1 lb, F2.z (by decide), rfl⟩
  refine vP_hv (fun hv => qs_honey0 (P := P) hT hO x y z hv hR.w hR.r hR.c hR.m lb ?k0 ?k1 ?k2 ?k3 ?k4 ?k5 ?k6)
  case k6 =>
    intro c1 c2 c3 c4 c5 c6
    obtain ⟨j, rfl⟩ : ∃ j : Nat, x = (j : Int) := ⟨x.toNat, by omega⟩
    obtain ⟨u, rfl⟩ : ∃ u : Nat, y = (u : Int) := ⟨y.toNat, by omega⟩
    obtain ⟨v, rfl⟩ : ∃ v : Nat, z = (v : Int) := ⟨z.toNat, by omega⟩
    have w8 := lb.1.2
    have r6 := lb.2.1.2
    have gq : gIn P (8 * v + u) := ⟨by omega, by omega, by omega⟩
    have bs := hb.2.2.1 (48 * j + (8 * v + u)) (by omega)
    have ok : okC P (j : Int) (u : Int) (v : Int) := ⟨c1, by omega, c3, by omega, c5, by omega⟩
    refine vP_hv (fun hv => qs_honey33 (P := P) hT hO hv hR2.w lb (by omega) (by omega) ?_)
    rw [at2_J lb (by omega)]
    refine rb_ho hT hO _ j (8 * v + u) rfl (by omega) gq hR2 hb (fun c => ?_) (fun c g hP2 f => ?_)
    · exact vP_hv (fun hv => qs_honey44_0 hT hO hv (no 9 (fun d => by have d := d.2; have d : (P 3 (48 * j + (8 * v + u)) = 0 ∨ P 3 (48 * j + (8 * v + u)) = 2) := d; omega)))
    · have cc : (P 3 (48 * j + (8 * v + u)) = 0 ∨ P 3 (48 * j + (8 * v + u)) = 2) := by omega
      have e1 : hoP P (j : Int) (u : Int) (v : Int) = pSt P j (8 * v + u) 3 := if_pos ⟨ok, cc⟩
      have e2 : hoV P (j : Int) (u : Int) (v : Int) = 1 := if_pos ⟨ok, cc⟩
      rw [e1, e2]
      exact vP_hv (fun hv => qs_honey44_1 hT hO hv ⟨hP2, F2.trans f.tf, rfl⟩)
  all_goals
    intros
    exact no 2 (by rintro ⟨⟨o1, o2, o3, o4, o5, o6⟩, _⟩; omega)
theorem rx_clean (hT : hTab T) (hO : vOK T) (hR : rBk 0 P h) (hb : fB P) (x y z : Int) : vP D T N 208 0 h [some (2, 121), some (0, x), some (0, y), some (0, z)] [] (fun r => rBk 0 (clP P x y z) r.1 ∧ rTF h r.1 ∧ r.2 = some (0, clV P x y z)) := by
  have lb := hb.1
  have l3 := lb.2.2.1.2
  have F2 : rTF h (zset (zset h 121 1 (0, 0)) 121 0 (0, 0)) := (rTF.rfl.z (by decide)).z (by decide)
  have hR2 : rBk 0 P (zset (zset h 121 1 (0, 0)) 121 0 (0, 0)) := (hR.z1 lb).z1 lb
  have no : ∀ v : Int, ¬ (okC P x y z ∧ 2 ≤ P 3 (cI x y z)) → rBk 0 (clP P x y z) (zset (zset (zset h 121 1 (0, 0)) 121 0 (0, 0)) 121 0 (0, v)) ∧ rTF h (zset (zset (zset h 121 1 (0, 0)) 121 0 (0, 0)) 121 0 (0, v)) ∧ (some ((0, 0) : zV)) = some (0, clV P x y z) := fun v c => by
    unfold clP clV
    rw [if_neg c, if_neg c]
    exact ⟨hR2.z1 lb, F2.z (by decide), rfl⟩
  refine vP_hv (fun hv => qs_clean0 (P := P) hT hO x y z hv hR.w hR.r hR.c hR.m lb ?k0 ?k1 ?k2 ?k3 ?k4 ?k5 ?k6)
  case k6 =>
    intro c1 c2 c3 c4 c5 c6
    obtain ⟨j, rfl⟩ : ∃ j : Nat, x = (j : Int) := ⟨x.toNat, by omega⟩
    obtain ⟨u, rfl⟩ : ∃ u : Nat, y = (u : Int) := ⟨y.toNat, by omega⟩
    obtain ⟨v, rfl⟩ : ∃ v : Nat, z = (v : Int) := ⟨z.toNat, by omega⟩
    have w8 := lb.1.2
    have r6 := lb.2.1.2
    have gq : gIn P (8 * v + u) := ⟨by omega, by omega, by omega⟩
    have ok : okC P (j : Int) (u : Int) (v : Int) := ⟨c1, by omega, c3, by omega, c5, by omega⟩
    have ej := at2_J lb (u := u) (v := v) (by omega)
    refine vP_hv (fun hv => qs_clean33 hT hO hv ?_)
    refine rb_at2 hT hO _ _ (by omega) (by omega) hR2.w lb ?_
    rw [ej]
    show vP D T N 208 41 _ [some (2, 121), some (0, (j : Int)), some (0, (u : Int)), some (0, (v : Int))] [(0, ((gJ P (8 * v + u) : Nat) : Int)), (0, (j : Int)), (2, 121)] _
    refine vP_hv (fun hv => qs_clean41 hT hO hv hR2 hb (by omega) gq (gJ_lt lb gq) ej (by omega) (by omega) lb (fun c => ?_) (fun c _ _ => ?_))
    · exact no 9 (fun d => by have d := d.2; have d : 2 ≤ P 3 (48 * j + (8 * v + u)) := d; omega)
    · have e1 : clP P (j : Int) (u : Int) (v : Int) = pSt P j (8 * v + u) 0 := if_pos ⟨ok, c⟩
      have e2 : clV P (j : Int) (u : Int) (v : Int) = 1 := if_pos ⟨ok, c⟩
      have lj := gJ_lt lb gq
      rw [e1, e2]
      exact ⟨hR2.s3 lb (by omega) gq, F2.trans (bFr.tf (bFr.z (by omega) (fun _ _ _ => rfl))), rfl⟩
  all_goals
    intros
    exact no 2 (by rintro ⟨⟨o1, o2, o3, o4, o5, o6⟩, _⟩; omega)
theorem rx_steam (hT : hTab T) (hO : vOK T) (hR : rBk 0 P h) (hb : fB P) (x y : Int) : vP D T N 316 0 h [some (2, 121), some (0, x), some (0, y)] [] (fun r => rBk 0 (ssP P x y) r.1 ∧ rTF h r.1 ∧ r.2 = some (0, ssV P x y)) := by
  have lb := hb.1
  have l3 := lb.2.2.1.2
  have F2 : rTF h (zset (zset h 121 1 (0, 0)) 121 0 (0, 0)) := (rTF.rfl.z (by decide)).z (by decide)
  have hR2 : rBk 0 P (zset (zset h 121 1 (0, 0)) 121 0 (0, 0)) := (hR.z1 lb).z1 lb
  have no : ∀ v : Int, ¬ (okS P x y ∧ x ≠ y) → rBk 0 (ssP P x y) (zset (zset (zset h 121 1 (0, 0)) 121 0 (0, 0)) 121 0 (0, v)) ∧ rTF h (zset (zset (zset h 121 1 (0, 0)) 121 0 (0, 0)) 121 0 (0, v)) ∧ (some ((0, -1) : zV)) = some (0, ssV P x y) := fun v c => by
    unfold ssP ssV
    rw [if_neg c, if_neg c]
    exact ⟨hR2.z1 lb, F2.z (by decide), rfl⟩
  refine vP_hv (fun hv => qs_steam0 (P := P) hT hO x y hv hR.w hR.r hR.c hR.m lb ?k0 ?k1 ?k2 ?k3 ?k4 ?k5)
  case k4 =>
    intro c1 c2 c3 c4 c5
    exact no 5 (fun d => d.2 c5)
  case k5 =>
    intro c1 c2 c3 c4 c5
    obtain ⟨j, rfl⟩ : ∃ j : Nat, x = (j : Int) := ⟨x.toNat, by omega⟩
    obtain ⟨t, rfl⟩ : ∃ t : Nat, y = (t : Int) := ⟨y.toNat, by omega⟩
    have ok : okS P (j : Int) (t : Int) := ⟨c1, by omega, c3, by omega⟩
    have e1 : ssP P (j : Int) (t : Int) = pSteam P j t := if_pos ⟨ok, c5⟩
    have e2 : ssV P (j : Int) (t : Int) = ((uS P j t ((P 0 0).toNat * (P 0 1).toNat) : Nat) : Int) := if_pos ⟨ok, c5⟩
    rw [e1, e2]
    refine vP_hv (fun hv => qs_steam45 hT hO hv ?_)
    refine rx_ss hT hO hR2 hb (by omega) (by omega) (by omega) (fun g hP2 f => ?_)
    exact vP_hv (fun hv => qs_steam51 hT hO _ hv ⟨hP2, F2.trans f.tf, rfl⟩)
  all_goals
    intros
    exact no 2 (by rintro ⟨⟨o1, o2, o3, o4⟩, _⟩; omega)
theorem rx_march (hT : hTab T) (hO : vOK T) (hR : rBk 0 P h) (hb : fB P) (x : Int) : vP D T N 274 0 h [some (2, 121), some (0, x), none] [] (fun r => rBk 0 (maP P x) r.1 ∧ rTF h r.1 ∧ r.2 = some (0, maV P x)) := by
  have lb := hb.1
  have l6 := lb.2.2.2.2
  have F2 : rTF h (zset (zset h 121 1 (0, 0)) 121 0 (0, 0)) := (rTF.rfl.z (by decide)).z (by decide)
  have hR2 : rBk 0 P (zset (zset h 121 1 (0, 0)) 121 0 (0, 0)) := (hR.z1 lb).z1 lb
  have no : ∀ (g : zH) (v : Int), rBk 0 P g → rTF h g → ¬ (okM P x ∧ mC P x.toNat ≠ -1) → rBk 0 (maP P x) (zset g 121 0 (0, v)) ∧ rTF h (zset g 121 0 (0, v)) ∧ (some ((0, -1) : zV)) = some (0, maV P x) := fun g v hg f c => by
    unfold maP maV
    rw [if_neg c, if_neg c]
    exact ⟨hg.z1 lb, f.z (by decide), rfl⟩
  have mF : ∀ {g g2 : zH}, mvF g g2 → rTF g g2 := fun f i k hn => f i k (fun e => hn (by omega))
  refine vP_hv (fun hv => qs_march0 (P := P) hT hO x hv hR.w hR.r hR.c hR.m lb ?k0 ?k1 ?k2)
  case k2 =>
    intro c1 c2
    obtain ⟨a, rfl⟩ : ∃ a : Nat, x = (a : Int) := ⟨x.toNat, by omega⟩
    have hm : (a : Int) < P 0 3 := by omega
    refine vP_hv (fun hv => qs_march24 hT hO hv ?_)
    refine rx_mv hT hO _ a rfl hR2 hb hm (fun g f r c => ?_) (fun g c f r v => ?_)
    · have c : mC P a = -1 := c
      exact vP_hv (fun hv => qs_march29n hT hO hv (no g 9 r (F2.trans (mF f)) (fun d => d.2 c)))
    · have c0 : 0 ≤ mC P a := c
      have c' : mC P a ≠ -1 := by omega
      have e1 : maP P (a : Int) = pGo P a (mP P a) (mS P a) := if_pos ⟨⟨c1, hm⟩, c'⟩
      have e2 : maV P (a : Int) = ((mS P a : Nat) : Int) := if_pos ⟨⟨c1, hm⟩, c'⟩
      have v' : g 121 33 = (0, (((if mS P a < mN P a then 1 else 0) : Nat) : Int)) := by
        have v : g 121 33 = (0, if mS P a < mN P a then 1 else 0) := v
        rw [v]
        by_cases q : mS P a < mN P a
        · rw [if_pos q, if_pos q]; rfl
        · rw [if_neg q, if_neg q]; rfl
      rw [e1, e2]
      exact vP_hv (fun hv => qs_march29 hT hO _ hv (show (0 : Int) ≤ ((mS P a : Nat) : Int) by omega) v' ⟨rBk.z1 r (fB_march hb hm c0).1, (F2.trans (mF f)).z (by decide), rfl⟩)
  all_goals
    intros
    exact no _ 2 hR2 F2 (by rintro ⟨⟨o1, o2⟩, _⟩; omega)
theorem rx_hand (hT : hTab T) (hO : vOK T) (hR : rBk 0 P h) (hb : fB P) (x y : Int) : vP D T N 236 0 h [some (2, 121), some (0, x), some (0, y)] [] (fun r => rBk 0 (haP P x y) r.1 ∧ rTF h r.1 ∧ r.2 = some (0, haV P x y)) := by
  have lb := hb.1
  have l6 := lb.2.2.2.2
  have F2 : rTF h (zset (zset h 121 1 (0, 0)) 121 0 (0, 0)) := (rTF.rfl.z (by decide)).z (by decide)
  have hR2 : rBk 0 P (zset (zset h 121 1 (0, 0)) 121 0 (0, 0)) := (hR.z1 lb).z1 lb
  have no : ∀ v : Int, ¬ okH P x y → rBk 0 (haP P x y) (zset (zset (zset h 121 1 (0, 0)) 121 0 (0, 0)) 121 0 (0, v)) ∧ rTF h (zset (zset (zset h 121 1 (0, 0)) 121 0 (0, 0)) 121 0 (0, v)) ∧ (some ((0, 0) : zV)) = some (0, haV P x y) := fun v c => by
    unfold haP haV
    rw [if_neg c, if_neg c]
    exact ⟨hR2.z1 lb, F2.z (by decide), rfl⟩
  refine vP_hv (fun hv => qs_hand0 (P := P) hT hO x y hv hR.w hR.r hR.c hR.m lb ?k0 ?k1 ?k2 ?k3 ?k4)
  case k4 =>
    intro c1 c2 c3 c4
    obtain ⟨a, rfl⟩ : ∃ a : Nat, x = (a : Int) := ⟨x.toNat, by omega⟩
    obtain ⟨j, rfl⟩ : ∃ j : Nat, y = (j : Int) := ⟨y.toNat, by omega⟩
    have ok : okH P (a : Int) (j : Int) := ⟨c1, by omega, c3, by omega⟩
    have e1 : haP P (a : Int) (j : Int) = pset P 8 a (j : Int) := if_pos ok
    have e2 : haV P (a : Int) (j : Int) = 1 := if_pos ok
    rw [e1, e2]
    refine vP_hv (fun hv => qs_hand32 hT hO hv (by omega) (fun _ _ => ?_))
    exact ⟨hR2.s8 lb (by omega), F2.trans (bFr.tf (bFr.z (by omega) (fun _ _ _ => rfl))), rfl⟩
  all_goals
    intros
    exact no 2 (by rintro ⟨o1, o2, o3, o4⟩; omega)
end RT
end
section
/-! ALL CONTENTS OF THE LANDS OF CLASS AND REFERENCE ALIKE -/
def oLd (c o : Nat) (P : PT) (h : zH) : Prop := (h (c + 10) 0 = (0, -1) ∧ h 126 (o + 275) = (0, 0)) ∨ ∃ t : OT, oOk P t ∧ tS t ≤ 30 ∧ tN t ≤ 60 ∧ h (c + 10) 0 = (0, (tN t : Int)) ∧ h (c + 10) 1 = (0, (tS t : Int)) ∧ cLay c h t 0 ∧ h 126 (o + 275) = (0, 1) ∧ h 126 (o + 276) = (0, (tS t : Int)) ∧ rLay o (P 0 0).toNat h t 0
def fLd (c o : Nat) (h : zH) : Prop := ∃ P, cP c P h ∧ rBk o P h ∧ fB P ∧ (2 ≤ P 0 0 ∧ 1 ≤ P 0 1) ∧ oLd c o P h
/-- the class's places of a LAND -/
def cJ (j k : Nat) : Prop := (j = 0 ∧ k < 5) ∨ ((j = 1 ∨ j = 2) ∧ k < 48) ∨ (j = 3 ∧ k < 144) ∨ ((4 ≤ j ∧ j ≤ 9) ∧ k < 6) ∨ (j = 10 ∧ k < 2) ∨ ((11 ≤ j ∧ j ≤ 14) ∧ k < 60)
def cKf (c c' : Nat) (h h' : zH) : Prop := ∀ j k, cJ j k → h' (c' + j) k = h (c + j) k
def bKf (o o' : Nat) (h h' : zH) : Prop := ∀ j, j < 547 → h' 126 (o' + j) = h 126 (o + j)
theorem cKf.trans {c c' c2 : Nat} {h h' h2 : zH} (f : cKf c c' h h') (f2 : cKf c' c2 h' h2) : cKf c c2 h h2 := fun j k hj => (f2 j k hj).trans (f j k hj)
theorem bKf.trans {o o' o2 : Nat} {h h' h2 : zH} (f : bKf o o' h h') (f2 : bKf o' o2 h' h2) : bKf o o2 h h2 := fun j hj => (f2 j hj).trans (f j hj)
theorem cP.tr {c c' : Nat} {P : PT} {h h' : zH} (g : cP c P h) (l6 : P 0 3 ≤ 6) (f : cKf c c' h h') : cP c' P h' := by
  obtain ⟨⟨a0, a1, a2, a3, a4⟩, b1, b2, b3, b4⟩ := g
  have f0 : ∀ k, k < 5 → h' c' k = h c k := fun k hk => f 0 k (Or.inl ⟨rfl, hk⟩)
  refine ⟨⟨(f0 0 (by decide)).trans a0, (f0 1 (by decide)).trans a1, (f0 2 (by decide)).trans a2, (f0 3 (by decide)).trans a3, (f0 4 (by decide)).trans a4⟩, fun k hk => (f 1 k (by unfold cJ; omega)).trans (b1 k hk), fun k hk => (f 2 k (by unfold cJ; omega)).trans (b2 k hk), fun k hk => (f 3 k (by unfold cJ; omega)).trans (b3 k hk), fun k hk => ?_⟩
  obtain ⟨c4, c5, c6, c7, c8, c9⟩ := b4 k hk
  have k6 : k < 6 := by omega
  exact ⟨(f 4 k (by unfold cJ; omega)).trans c4, (f 5 k (by unfold cJ; omega)).trans c5, (f 6 k (by unfold cJ; omega)).trans c6, (f 7 k (by unfold cJ; omega)).trans c7, (f 8 k (by unfold cJ; omega)).trans c8, (f 9 k (by unfold cJ; omega)).trans c9⟩
theorem rBk.tr {o o' : Nat} {P : PT} {h h' : zH} (g : rBk o P h) (lb : lB P) (f : bKf o o' h h') : rBk o' P h' := by
  obtain ⟨⟨a0, a1, a2, a3, a4⟩, b1, b2, b3⟩ := g
  have e : ∀ j k, j + k < 547 → h' 126 (o' + j + k) = h 126 (o + j + k) := fun j k hj => by
    rw [Nat.add_assoc, Nat.add_assoc]
    exact f (j + k) hj
  refine ⟨⟨(f 0 (by decide)).trans a0, (f 1 (by decide)).trans a1, (f 2 (by decide)).trans a2, (f 3 (by decide)).trans a3, (f 4 (by decide)).trans a4⟩, fun q i => ?_, fun k q hk i => ?_, fun k hk => ?_⟩
  · have := gJ_lt lb i
    exact ⟨(e 5 _ (by omega)).trans (b1 q i).1, (e 53 _ (by omega)).trans (b1 q i).2⟩
  · have := gJ_lt lb i
    have q := e (101 + 48 * k) (gJ P q) (by omega)
    rw [← Nat.add_assoc, ← Nat.add_assoc] at q
    exact q.trans (b2 k _ hk i)
  · have := lb.2.2.2.2
    obtain ⟨c1, c2, c3, c4, c5⟩ := b3 k hk
    exact ⟨(e 245 k (by omega)).trans c1, (e 251 k (by omega)).trans c2, (e 257 k (by omega)).trans c3, (e 263 k (by omega)).trans c4, (e 269 k (by omega)).trans c5⟩
theorem oLd.tr {c c' o o' : Nat} {P P' : PT} {h h' : zH} (g : oLd c o P h) (sh : pSh P P') (f : ∀ j k, 10 ≤ j → cJ j k → h' (c' + j) k = h (c + j) k) (m : ∀ j, 275 ≤ j → j < 547 → h' 126 (o' + j) = h 126 (o + j)) : oLd c' o' P' h' := by
  rcases g with ⟨g1, g2⟩ | ⟨t, g1, g2, g3, g4, g5, g6, g7, g8, g9⟩
  · exact Or.inl ⟨(f 10 0 (by decide) (by unfold cJ; omega)).trans g1, (m 275 (by decide) (by decide)).trans g2⟩
  · refine Or.inr ⟨t, sh.ok g1, g2, g3, (f 10 0 (by decide) (by unfold cJ; omega)).trans g4, (f 10 1 (by decide) (by unfold cJ; omega)).trans g5, g6.tr (fun j k h1 h2 h3 => f j k (by omega) (by unfold cJ; omega)) (by omega), (m 275 (by decide) (by decide)).trans g7, (m 276 (by decide) (by decide)).trans g8, ?_⟩
    rw [sh.1]
    exact g9.tr (fun j h1 h2 => m j (by omega) h2) (by omega)
theorem fLd.tr {c c' o o' : Nat} {h h' : zH} (g : fLd c o h) (f : cKf c c' h h') (m : bKf o o' h h') : fLd c' o' h' := by
  obtain ⟨P, g1, g2, g3, g4, g5⟩ := g
  exact ⟨P, g1.tr g3.1.2.2.2.2 f, g2.tr g3.1 m, g3, g4, g5.tr pSh.rfl (fun j k _ hj => f j k hj) (fun j _ hj => m j hj)⟩
/-- the places, as frames name them -/
abbrev kLf (c : Nat) : aM := [(c, 0, 4), (c + 1, 0, 47), (c + 2, 0, 47), (c + 3, 0, 143), (c + 4, 0, 5), (c + 5, 0, 5), (c + 6, 0, 5), (c + 7, 0, 5), (c + 8, 0, 5), (c + 9, 0, 5), (c + 10, 0, 1), (c + 11, 0, 59), (c + 12, 0, 59), (c + 13, 0, 59), (c + 14, 0, 59)]
abbrev kLb (o : Nat) : aM := [(126, o, o + 546)]
abbrev cAf : aM := kLf 24 ++ (kLf 39 ++ (kLf 55 ++ (kLf 70 ++ kLf 85)))
abbrev bAf : aM := kLb 0 ++ (kLb 550 ++ (kLb 1100 ++ kLb 1650))
abbrev fpS : aM := tpS ++ (cAf ++ bAf)
theorem aIn_of {S : aM} {a lo hi k : Nat} (m : (a, lo, hi) ∈ S) (h1 : lo ≤ k) (h2 : k ≤ hi) : aIn S a k := ⟨_, m, rfl, h1, h2⟩
theorem kLf_in {c j k : Nat} (hj : cJ j k) : aIn (kLf c) (c + j) k := by
  rcases hj with ⟨rfl, hk⟩ | ⟨rfl | rfl, hk⟩ | ⟨rfl, hk⟩ | ⟨⟨h1, h2⟩, hk⟩ | ⟨rfl, hk⟩ | ⟨⟨h1, h2⟩, hk⟩
  · exact aIn_of (lo := 0) (hi := 4) (by simp) (Nat.zero_le _) (by omega)
  · exact aIn_of (lo := 0) (hi := 47) (by simp) (Nat.zero_le _) (by omega)
  · exact aIn_of (lo := 0) (hi := 47) (by simp) (Nat.zero_le _) (by omega)
  · exact aIn_of (lo := 0) (hi := 143) (by simp) (Nat.zero_le _) (by omega)
  · have : j = 4 ∨ j = 5 ∨ j = 6 ∨ j = 7 ∨ j = 8 ∨ j = 9 := by omega
    rcases this with rfl | rfl | rfl | rfl | rfl | rfl <;> exact aIn_of (lo := 0) (hi := 5) (by simp) (Nat.zero_le _) (by omega)
  · exact aIn_of (lo := 0) (hi := 1) (by simp) (Nat.zero_le _) (by omega)
  · have : j = 11 ∨ j = 12 ∨ j = 13 ∨ j = 14 := by omega
    rcases this with rfl | rfl | rfl | rfl <;> exact aIn_of (lo := 0) (hi := 59) (by simp) (Nat.zero_le _) (by omega)
theorem aIn_l {S S' : aM} {a k : Nat} (h : aIn S a k) : aIn (S ++ S') a k := by
  obtain ⟨e, he, x⟩ := h
  exact ⟨e, List.mem_append_left _ he, x⟩
theorem aIn_r {S S' : aM} {a k : Nat} (h : aIn S' a k) : aIn (S ++ S') a k := by
  obtain ⟨e, he, x⟩ := h
  exact ⟨e, List.mem_append_right _ he, x⟩
theorem cAf_in {c j k : Nat} (hc : cOb c) (hj : cJ j k) : aIn cAf (c + j) k := by
  rcases hc with rfl | rfl | rfl | rfl | rfl
  · exact aIn_l (kLf_in hj)
  · exact aIn_r (aIn_l (kLf_in hj))
  · exact aIn_r (aIn_r (aIn_l (kLf_in hj)))
  · exact aIn_r (aIn_r (aIn_r (aIn_l (kLf_in hj))))
  · exact aIn_r (aIn_r (aIn_r (aIn_r (kLf_in hj))))
theorem bAf_in {b j : Nat} (hb : b < 4) (hj : j < 547) : aIn bAf 126 (550 * b + j) := by
  have l : ∀ o, aIn (kLb o) 126 (o + j) := fun o => aIn_of (lo := o) (hi := o + 546) List.mem_cons_self (by omega) (by omega)
  have : b = 0 ∨ b = 1 ∨ b = 2 ∨ b = 3 := by omega
  rcases this with rfl | rfl | rfl | rfl
  · exact aIn_l (l 0)
  · exact aIn_r (aIn_l (l 550))
  · exact aIn_r (aIn_r (aIn_l (l 1100)))
  · exact aIn_r (aIn_r (aIn_r (l 1650)))
theorem cKf_S {h h' : zH} (he : ∀ a k, aIn cAf a k → h' a k = h a k) {c : Nat} (hc : cOb c) : cKf c c h h' := fun _ _ hj => he _ _ (cAf_in hc hj)
theorem bKf_S {h h' : zH} (he : ∀ a k, aIn bAf a k → h' a k = h a k) {b : Nat} (hb : b < 4) : bKf (550 * b) (550 * b) h h' := fun _ hj => he _ _ (bAf_in hb hj)
def fMk (h : zH) : Prop := ∀ m : Nat, m < 3 → (m : Int) < (h 0 10).2 → fLd (55 + 15 * m) (550 * (m + 1)) h
def fX (h : zH) : Prop := fMk h ∧ ∃ r c, lSw r c ∧ h 0 7 = (2, (c : Int)) ∧ h 0 8 = (2, (r : Int)) ∧ fLd c 0 h
def fR (h : zH) : Prop := lR h ∧ fX h
theorem fX_S {h h' : zH} (he : ∀ a k, aIn fpS a k → h' a k = h a k) (g : fX h) : fX h' := by
  obtain ⟨hM, r, c, s1, s2, s3, hL⟩ := g
  have hc : ∀ a k, aIn cAf a k → h' a k = h a k := fun a k hi => he a k (aIn_r (aIn_l hi))
  have hb : ∀ a k, aIn bAf a k → h' a k = h a k := fun a k hi => he a k (aIn_r (aIn_r hi))
  have h0 : ∀ a k, aIn tp0 a k → h' a k = h a k := fun a k hi => he a k (aIn_l (tpS_0 hi))
  refine ⟨fun m hm hq => ?_, r, c, s1, (h0 _ _ ⟨(0, 7, 8), by decide, rfl, by decide, by decide⟩).trans s2, (h0 _ _ ⟨(0, 7, 8), by decide, rfl, by decide, by decide⟩).trans s3, hL.tr (cKf_S hc s1.ob) (bKf_S hb (b := 0) (by decide))⟩
  rw [h0 0 10 ⟨(0, 10, 10), by decide, rfl, by decide, by decide⟩] at hq
  exact (hM m hm hq).tr (cKf_S hc (mOb hm)) (bKf_S hb (by omega))
theorem fR_S : lRs fpS fR := fun h h' he hR => ⟨lR_S h h' (fun a k hi => he a k (aIn_l hi)) hR.1, fX_S he hR.2⟩
theorem fR.off {M : aM} {h h' : zH} (hR : fR h) (hf : lFree fpS M = true) (he : ∀ a b, ¬ aIn M a b → h' a b = h a b) : fR h' := fR_S h h' (fun a b hi => he a b (lFree_ok hf hi)) hR
theorem ini_f : (∀ k, k < 144 → hIni 27 k = (0, 0)) ∧ hIni 24 4 = (0, 0) ∧ (∀ k, k < 240 → hIni 126 (5 + k) = (0, 0)) ∧ hIni 126 4 = (0, 0) := by decide +kernel
theorem ini_fL : fLd 24 0 hIni := by
  have z : ∀ a k, iniP a k = if a = 0 ∧ k = 0 then 2 else if a = 0 ∧ (k = 1 ∨ k = 2) then 1 else 0 := fun _ _ => rfl
  have p1 : ∀ k, iniP 1 k = 0 := fun k => by rw [z, if_neg (by omega), if_neg (by omega)]
  have p2 : ∀ k, iniP 2 k = 0 := fun k => by rw [z, if_neg (by omega), if_neg (by omega)]
  have p3 : ∀ k, iniP 3 k = 0 := fun k => by rw [z, if_neg (by omega), if_neg (by omega)]
  have lb : lB iniP := by unfold lB; decide
  refine ⟨iniP, ⟨⟨ini_c.1.1, ini_c.1.2.1, ini_c.1.2.2.1, ini_c.1.2.2.2, ini_f.2.1⟩, fun k hk => ?_, fun k hk => ?_, fun k hk => ?_, fun k hk => ?_⟩, ⟨⟨ini_b.1.1, ini_b.1.2.1, ini_b.1.2.2.1, ini_b.1.2.2.2, ini_f.2.2.2⟩, fun q g => ?_, fun k q hk g => ?_, fun k hk => ?_⟩, ⟨lb, fun q _ => ?_, fun i _ => ?_, fun k hk => ?_⟩, by decide, Or.inl ⟨ini_c.2.2.2, ini_b.2.2⟩⟩
  · rw [p1]; exact ini_c.2.1 k hk
  · rw [p2]; exact ini_c.2.2.1 k hk
  · rw [p3]; exact ini_f.1 k hk
  · have hk : (k : Int) < 0 := hk
    omega
  · have l := gJ_lt lb g
    rw [p1, p2]
    refine ⟨?_, ?_⟩
    · have := ini_f.2.2.1 (gJ iniP q) (by omega)
      rw [show 0 + 5 + gJ iniP q = 5 + gJ iniP q from by omega]
      exact this
    · have := ini_f.2.2.1 (48 + gJ iniP q) (by omega)
      rw [show 0 + 53 + gJ iniP q = 5 + (48 + gJ iniP q) from by omega]
      exact this
  · have l := gJ_lt lb g
    rw [p3]
    have := ini_f.2.2.1 (96 + 48 * k + gJ iniP q) (by omega)
    rw [show 0 + 101 + 48 * k + gJ iniP q = 5 + (96 + 48 * k + gJ iniP q) from by omega]
    exact this
  · have hk : (k : Int) < 0 := hk
    omega
  · rw [p1, p2]; decide
  · rw [p3]; decide
  · have hk : (k : Int) < 0 := hk
    omega
theorem fR_ini : fR hIni := by
  refine ⟨lR_ini, fun m _ hm => ?_, 39, 24, Or.inr ⟨rfl, rfl⟩, (by decide +kernel : hIni 0 7 = (2, 24)), (by decide +kernel : hIni 0 8 = (2, 39)), ini_fL⟩
  have e : (hIni 0 10).2 = 0 := by decide +kernel
  omega
/-- what is no place of the LAND that is changed -/
def fOut (c a b : Nat) : Prop := (a = 0 ∧ (b = 7 ∨ b = 8 ∨ b = 10)) ∨ (24 ≤ a ∧ a < 100 ∧ ¬ (c ≤ a ∧ a ≤ c + 9)) ∨ (a = 126 ∧ 275 ≤ b ∧ b < 2200)
theorem fX_up {h h2 : zH} {r c : Nat} {P P' : PT} (hM : fMk h) (s1 : lSw r c) (s2 : h 0 7 = (2, (c : Int))) (s3 : h 0 8 = (2, (r : Int))) (o : oLd c 0 P h) (sh : pSh P P') (f : ∀ a b, fOut c a b → h2 a b = h a b) (q1 : cP c P' h2) (q2 : rBk 0 P' h2) (q3 : fB P') (q4 : 2 ≤ P' 0 0 ∧ 1 ≤ P' 0 1) : fX h2 := by
  have c2 : c = 24 ∨ c = 39 := by
    rcases s1 with ⟨_, e⟩ | ⟨_, e⟩
    · exact Or.inr e
    · exact Or.inl e
  refine ⟨fun m hm hq => ?_, r, c, s1, (f 0 7 (Or.inl (by omega))).trans s2, (f 0 8 (Or.inl (by omega))).trans s3, P', q1, q2, q3, q4, o.tr sh (fun j k hj hk => f _ _ (Or.inr (Or.inl ?_))) (fun j h1 h2 => f _ _ (Or.inr (Or.inr (by omega))))⟩
  · rw [f 0 10 (Or.inl (by omega))] at hq
    refine (hM m hm hq).tr (fun j k hj => f _ _ (Or.inr (Or.inl ?_))) (fun j hj => f _ _ (Or.inr (Or.inr (by omega))))
    have : j ≤ 14 := by
      unfold cJ at hj
      omega
    omega
  · have : j ≤ 14 := by
      unfold cJ at hk
      omega
    omega
theorem lSw.c2 {r c : Nat} (s1 : lSw r c) : c = 24 ∨ c = 39 := by
  rcases s1 with ⟨_, e⟩ | ⟨_, e⟩
  · exact Or.inr e
  · exact Or.inl e
end
section
/-! run() -/
def cCF (c : Nat) (h g : zH) : Prop := ∀ a b, ¬ ((c ≤ a ∧ a ≤ c + 9) ∨ (100 ≤ a ∧ a ≤ 104) ∨ a = 117 ∨ a = 118) → g a b = h a b
def cUF (c : Nat) (h g : zH) : Prop := ∀ a b, ¬ ((c ≤ a ∧ a ≤ c + 9) ∨ (100 ≤ a ∧ a ≤ 104) ∨ a = 117 ∨ a = 118 ∨ a = 120 ∨ (a = 0 ∧ b = 0)) → g a b = h a b
def rUF (h g : zH) : Prop := ∀ a b, ¬ ((a = 126 ∧ b < 275) ∨ a = 130 ∨ a = 132 ∨ a = 136 ∨ (a = 121 ∧ (b ≤ 1 ∨ b = 31 ∨ b = 33 ∨ (40 ≤ b ∧ b ≤ 47)))) → g a b = h a b
theorem cx_carry_24 {D : zD} {T : zT} (hT : hTab T) (hO : vOK T) {N : Nat} {h : zH} {Q : zR → Prop} {P : PT} {t : OT} (seed : Nat) (hsd : seed ≤ 9999) (hP : cP 24 P h) (hb : fB P) (hw : 1 ≤ P 0 0 ∧ 1 ≤ P 0 1) (ok : oOk P t) (ly : cLay 24 h t 0) (hn : tN t ≤ 60) (ez : h 34 0 = (0, (tN t : Int))) (k : ∀ g : zH, cR1 24 (ev t (runS P seed)) g → g 117 11 = (0, if (ev t (runS P seed)).ov = 2 then 1 else 0) → cCF 24 h g → Q (g, some (0, ((ev t (runS P seed)).dn : Int)))) : vP D T N 90 0 h [some (2, 117), some (2, 24), some (0, (seed : Int)), none] [] Q := by
  refine vP_hv (fun hv => qk_co0_24 hT hO _ hv ?_)
  generalize eg : (zset (zset (zset (zset (zset (zset (zset (zset (zset (zset h 117 2 (2, 24)) 117 3 (2, 34)) 117 4 (0, (seed : Int))) 117 5 (0, 0)) 117 6 (0, 0)) 117 7 (0, 0)) 117 8 (0, 0)) 117 9 (0, 0)) 117 10 (0, 0)) 117 11 (0, 0)) = g0
  have F : ∀ a b, a ≠ 117 → g0 a b = h a b := fun a b ha => by
    rw [← eg]
    exact (zset_ne (fun e => ha e.1)).trans ((zset_ne (fun e => ha e.1)).trans ((zset_ne (fun e => ha e.1)).trans ((zset_ne (fun e => ha e.1)).trans ((zset_ne (fun e => ha e.1)).trans ((zset_ne (fun e => ha e.1)).trans ((zset_ne (fun e => ha e.1)).trans ((zset_ne (fun e => ha e.1)).trans ((zset_ne (fun e => ha e.1)).trans (zset_ne (fun e => ha e.1))))))))))
  have v11 : g0 117 11 = (0, 0) := by rw [← eg]; exact zset_same
  have v10 : g0 117 10 = (0, 0) := by rw [← eg]; exact (zset_ne (by decide)).trans zset_same
  have v9 : g0 117 9 = (0, 0) := by rw [← eg]; exact (zset_ne (by decide)).trans ((zset_ne (by decide)).trans zset_same)
  have v8 : g0 117 8 = (0, 0) := by rw [← eg]; exact (zset_ne (by decide)).trans ((zset_ne (by decide)).trans ((zset_ne (by decide)).trans zset_same))
  have v7 : g0 117 7 = (0, 0) := by rw [← eg]; exact (zset_ne (by decide)).trans ((zset_ne (by decide)).trans ((zset_ne (by decide)).trans ((zset_ne (by decide)).trans zset_same)))
  have v6 : g0 117 6 = (0, 0) := by rw [← eg]; exact (zset_ne (by decide)).trans ((zset_ne (by decide)).trans ((zset_ne (by decide)).trans ((zset_ne (by decide)).trans ((zset_ne (by decide)).trans zset_same))))
  have v5 : g0 117 5 = (0, 0) := by rw [← eg]; exact (zset_ne (by decide)).trans ((zset_ne (by decide)).trans ((zset_ne (by decide)).trans ((zset_ne (by decide)).trans ((zset_ne (by decide)).trans ((zset_ne (by decide)).trans zset_same)))))
  have v4 : g0 117 4 = (0, (seed : Int)) := by rw [← eg]; exact (zset_ne (by decide)).trans ((zset_ne (by decide)).trans ((zset_ne (by decide)).trans ((zset_ne (by decide)).trans ((zset_ne (by decide)).trans ((zset_ne (by decide)).trans ((zset_ne (by decide)).trans zset_same))))))
  have v3 : g0 117 3 = (2, 34) := by rw [← eg]; exact (zset_ne (by decide)).trans ((zset_ne (by decide)).trans ((zset_ne (by decide)).trans ((zset_ne (by decide)).trans ((zset_ne (by decide)).trans ((zset_ne (by decide)).trans ((zset_ne (by decide)).trans ((zset_ne (by decide)).trans zset_same)))))))
  have v2 : g0 117 2 = (2, 24) := by rw [← eg]; exact (zset_ne (by decide)).trans ((zset_ne (by decide)).trans ((zset_ne (by decide)).trans ((zset_ne (by decide)).trans ((zset_ne (by decide)).trans ((zset_ne (by decide)).trans ((zset_ne (by decide)).trans ((zset_ne (by decide)).trans ((zset_ne (by decide)).trans zset_same))))))))
  have hP0 : cP 24 P g0 := hP.eq (fun a b h1 h2 => F a b (by omega))
  have ly0 : cLay 24 g0 t 0 := ly.tr (fun j k h1 h2 _ => F _ _ (by omega)) (by omega)
  have ez0 : g0 34 0 = (0, (tN t : Int)) := (F 34 0 (by decide)).trans ez
  have FC : ∀ {g : zH}, cDF 24 g0 g → cCF 24 h g := fun f a b hn => (f a b (fun e => hn (by omega))).trans (F a b (fun e => hn (by omega)))
  refine cx_ev_24 hT hO (P0 := P) (z := tN t) (h0 := g0) ez0 hn t (runS P seed) 0 0 g0 ok ly0 (by omega) (runS_B hb hw hsd) pSh.rfl rfl ⟨⟨hP0, v4, v7, v8, v9, v10⟩, v2, v3, v5, v6, v11⟩ cDF.rfl (Nat.zero_le _) (by decide) (fun g x' ov hs f _ c5 => ?_) (fun g ov r1 e11 f => k g r1 e11 (FC f))
  obtain ⟨r1, e2, e3, e5, e6, e11⟩ := hs
  have d7 := (ev_ok t (runS P seed) ok (runS_B hb hw hsd) pSh.rfl).1.2.2.2.2.2.2.1
  have hx : x' < 30300 := by
    rcases c5 with ⟨_, c5⟩ | c5
    · omega
    · have e : (runS P seed).dn = 0 := rfl
      omega
  refine vP_dn (vP_hv (fun hv => qk_tx5_24 hT hO _ hv e2 e3 e5 e6 ((f 34 0 (by omega)).trans ez0) (by omega) r1.2.2.1 (by omega) ?_))
  exact k g r1 (by rw [if_neg (by omega)]; exact e11) (FC f)
theorem cx_runN_24 {D : zD} {T : zT} (hT : hTab T) (hO : vOK T) {N : Nat} {h : zH} (x s0 : Int) (e7 : h 0 7 = (2, 24)) (es : h 34 0 = (0, s0)) (hn : ¬ (0 ≤ x ∧ x ≤ 9999) ∨ s0 = -1) : vP D T N 178 0 h [some (2, 0), some (0, x), none] [] (fun r => (∃ w : Int, r.1 = zset h 0 0 (0, w)) ∧ r.2 = some (0, -1)) := by
  refine vP_hv (fun hv => qt_run0_24 hT hO x s0 hv e7 es (fun _ => ⟨⟨_, rfl⟩, rfl⟩) (fun _ _ => ⟨⟨_, rfl⟩, rfl⟩) (fun _ _ _ => ⟨⟨_, rfl⟩, rfl⟩) (fun c1 c2 c3 => ?_))
  exact absurd hn (by omega)
theorem cx_runY_24 {D : zD} {T : zT} (hT : hTab T) (hO : vOK T) {N : Nat} {h : zH} {P : PT} {t : OT} (seed : Nat) (hsd : seed ≤ 9999) (e7 : h 0 7 = (2, 24)) (hP : cP 24 P h) (hb : fB P) (hw : 1 ≤ P 0 0 ∧ 1 ≤ P 0 1) (ok : oOk P t) (ly : cLay 24 h t 0) (hn : tN t ≤ 60) (ez : h 34 0 = (0, (tN t : Int))) : vP D T N 178 0 h [some (2, 0), some (0, (seed : Int)), none] [] (fun r => cP 24 (ev t (runS P seed)).P r.1 ∧ cUF 24 h r.1 ∧ r.2 = some (0, ((ev t (runS P seed)).dn : Int)) ∧ r.1 120 0 = (0, ((ev t (runS P seed)).ms : Int)) ∧ r.1 120 1 = (0, ((ev t (runS P seed)).bt : Int)) ∧ r.1 120 2 = (0, ((ev t (runS P seed)).sk : Int)) ∧ r.1 120 3 = (0, if (ev t (runS P seed)).ov = 2 then 1 else 0)) := by
  refine vP_hv (fun hv => qt_run0_24 hT hO _ _ hv e7 ez (fun c => absurd c (by omega)) (fun _ c => absurd c (by omega)) (fun _ _ c => absurd c (by omega)) (fun _ _ _ => ?_))
  refine cx_carry_24 hT hO seed hsd hP hb hw ok ly hn ez (fun g r1 e11 f => ?_)
  show vP D T N 178 49 g [some (2, 0), some (0, (seed : Int)), none] [(0, ((ev t (runS P seed)).dn : Int))] _
  obtain ⟨q1, q4, q7, q8, q9, q10⟩ := r1
  have U : ∀ v3 : zV, cUF 24 h (zset (zset (zset (zset (zset g 120 0 (0, ((ev t (runS P seed)).ms : Int))) 120 1 (0, ((ev t (runS P seed)).bt : Int))) 120 2 (0, ((ev t (runS P seed)).sk : Int))) 120 3 v3) 0 0 (0, 0)) := fun v3 a b hn => (zset_ne (fun e => hn (by omega))).trans ((zset_ne (fun e => hn (by omega))).trans ((zset_ne (fun e => hn (by omega))).trans ((zset_ne (fun e => hn (by omega))).trans ((zset_ne (fun e => hn (by omega))).trans (f a b (fun e => hn (by omega)))))))
  have C : ∀ v3 : zV, cP 24 (ev t (runS P seed)).P (zset (zset (zset (zset (zset g 120 0 (0, ((ev t (runS P seed)).ms : Int))) 120 1 (0, ((ev t (runS P seed)).bt : Int))) 120 2 (0, ((ev t (runS P seed)).sk : Int))) 120 3 v3) 0 0 (0, 0)) := fun v3 => q1.eq (fun a b h1 h2 => (zset_ne (by omega)).trans ((zset_ne (by omega)).trans ((zset_ne (by omega)).trans ((zset_ne (by omega)).trans (zset_ne (by omega))))))
  have A0 : ∀ v3 : zV, (zset (zset (zset (zset (zset g 120 0 (0, ((ev t (runS P seed)).ms : Int))) 120 1 (0, ((ev t (runS P seed)).bt : Int))) 120 2 (0, ((ev t (runS P seed)).sk : Int))) 120 3 v3) 0 0 (0, 0)) 120 0 = (0, ((ev t (runS P seed)).ms : Int)) := fun v3 => (zset_ne (by decide)).trans ((zset_ne (by decide)).trans ((zset_ne (by decide)).trans ((zset_ne (by decide)).trans zset_same)))
  have A1 : ∀ v3 : zV, (zset (zset (zset (zset (zset g 120 0 (0, ((ev t (runS P seed)).ms : Int))) 120 1 (0, ((ev t (runS P seed)).bt : Int))) 120 2 (0, ((ev t (runS P seed)).sk : Int))) 120 3 v3) 0 0 (0, 0)) 120 1 = (0, ((ev t (runS P seed)).bt : Int)) := fun v3 => (zset_ne (by decide)).trans ((zset_ne (by decide)).trans ((zset_ne (by decide)).trans zset_same))
  have A2 : ∀ v3 : zV, (zset (zset (zset (zset (zset g 120 0 (0, ((ev t (runS P seed)).ms : Int))) 120 1 (0, ((ev t (runS P seed)).bt : Int))) 120 2 (0, ((ev t (runS P seed)).sk : Int))) 120 3 v3) 0 0 (0, 0)) 120 2 = (0, ((ev t (runS P seed)).sk : Int)) := fun v3 => (zset_ne (by decide)).trans ((zset_ne (by decide)).trans zset_same)
  have A3 : ∀ v3 : zV, (zset (zset (zset (zset (zset g 120 0 (0, ((ev t (runS P seed)).ms : Int))) 120 1 (0, ((ev t (runS P seed)).bt : Int))) 120 2 (0, ((ev t (runS P seed)).sk : Int))) 120 3 v3) 0 0 (0, 0)) 120 3 = v3 := fun v3 => (zset_ne (by decide)).trans zset_same
  by_cases c : (ev t (runS P seed)).ov = 2
  · rw [if_pos c] at e11 ⊢
    exact vP_hv (fun hv => qt_run49_1 hT hO _ hv q8 q9 q10 e11 ⟨C (0, 1), U (0, 1), rfl, A0 (0, 1), A1 (0, 1), A2 (0, 1), A3 (0, 1)⟩)
  · rw [if_neg c] at e11 ⊢
    exact vP_hv (fun hv => qt_run49_0 hT hO _ hv q8 q9 q10 e11 ⟨C (0, 0), U (0, 0), rfl, A0 (0, 0), A1 (0, 0), A2 (0, 0), A3 (0, 0)⟩)
theorem rx_runN {D : zD} {T : zT} (hT : hTab T) (hO : vOK T) {N : Nat} {h : zH} (x w : Int) (e275 : h 126 275 = (0, w)) (hn : ¬ (0 ≤ x ∧ x ≤ 9999) ∨ w = 0) : vP D T N 307 0 h [some (2, 121), some (0, x)] [] (fun r => (∀ a b, ¬ (a = 121 ∧ b ≤ 1) → r.1 a b = h a b) ∧ r.2 = some (0, -1)) := by
  have F : ∀ v : zV, ∀ a b, ¬ (a = 121 ∧ b ≤ 1) → zset (zset (zset h 121 1 (0, 0)) 121 0 (0, 0)) 121 0 v a b = h a b := fun v a b hn => (zset_ne (fun e => hn (by omega))).trans ((zset_ne (fun e => hn (by omega))).trans (zset_ne (fun e => hn (by omega))))
  refine vP_hv (fun hv => qs_run0 hT hO x w hv e275 (fun _ => ⟨F _, rfl⟩) (fun _ _ => ⟨F _, rfl⟩) (fun _ _ _ => ⟨F _, rfl⟩) (fun c1 c2 c3 => ?_))
  exact absurd hn (by omega)
theorem rx_runY {D : zD} {T : zT} (hT : hTab T) (hO : vOK T) {N : Nat} {h : zH} {P : PT} {t : OT} (seed : Nat) (hsd : seed ≤ 9999) (hR : rBk 0 P h) (hb : fB P) (hw : 1 ≤ P 0 0 ∧ 1 ≤ P 0 1) (ok : oOk P t) (ly : rLay 0 (P 0 0).toNat h t 0) (hs : tS t ≤ 30) (e5 : h 126 275 = (0, 1)) (e6 : h 126 276 = (0, (tS t : Int))) : vP D T N 307 0 h [some (2, 121), some (0, (seed : Int))] [] (fun r => rBk 0 (ev t (runS P seed)).P r.1 ∧ rUF h r.1 ∧ r.2 = some (0, ((ev t (runS P seed)).dn : Int)) ∧ r.1 136 0 = (0, ((ev t (runS P seed)).ms : Int)) ∧ r.1 136 1 = (0, ((ev t (runS P seed)).bt : Int)) ∧ r.1 136 2 = (0, ((ev t (runS P seed)).sk : Int)) ∧ r.1 136 3 = (0, if (ev t (runS P seed)).ov = 2 then 1 else 0) ∧ r.1 121 40 = (0, 1)) := by
  have lb := hb.1
  have F2 : ∀ a b, ¬ (a = 121 ∧ b ≤ 1) → zset (zset h 121 1 (0, 0)) 121 0 (0, 0) a b = h a b := fun a b hn => (zset_ne (fun e => hn (by omega))).trans (zset_ne (fun e => hn (by omega)))
  refine vP_hv (fun hv => qs_run0 hT hO _ _ hv e5 (fun c => absurd c (by omega)) (fun _ c => absurd c (by omega)) (fun _ _ c => absurd c (by decide)) (fun _ _ _ => ?_))
  refine rx_runW hT hO seed hsd ((hR.z1 lb).z1 lb) hb hw ok (ly.tr (fun j h1 h2 => F2 126 _ (by omega)) (by omega)) hs ((F2 126 276 (by omega)).trans e6) (fun g r1 e11 f => ?_)
  obtain ⟨q1, q42, q43, q44, q45, q46⟩ := r1
  obtain ⟨_, e47⟩ := e11
  have lb2 := (ev_ok t (runS P seed) ok (runS_B hb hw hsd) pSh.rfl).1.1.1
  show vP D T N 307 51 g [some (2, 121), some (0, (seed : Int))] [] _
  have A0 : ∀ v3 : zV, (zset (zset (zset (zset (zset g 136 0 (0, ((ev t (runS P seed)).ms : Int))) 136 1 (0, ((ev t (runS P seed)).bt : Int))) 136 2 (0, ((ev t (runS P seed)).sk : Int))) 136 3 v3) 121 40 (0, 1)) 136 0 = (0, ((ev t (runS P seed)).ms : Int)) := fun v3 => (zset_ne (by decide)).trans ((zset_ne (by decide)).trans ((zset_ne (by decide)).trans ((zset_ne (by decide)).trans zset_same)))
  have A1 : ∀ v3 : zV, (zset (zset (zset (zset (zset g 136 0 (0, ((ev t (runS P seed)).ms : Int))) 136 1 (0, ((ev t (runS P seed)).bt : Int))) 136 2 (0, ((ev t (runS P seed)).sk : Int))) 136 3 v3) 121 40 (0, 1)) 136 1 = (0, ((ev t (runS P seed)).bt : Int)) := fun v3 => (zset_ne (by decide)).trans ((zset_ne (by decide)).trans ((zset_ne (by decide)).trans zset_same))
  have A2 : ∀ v3 : zV, (zset (zset (zset (zset (zset g 136 0 (0, ((ev t (runS P seed)).ms : Int))) 136 1 (0, ((ev t (runS P seed)).bt : Int))) 136 2 (0, ((ev t (runS P seed)).sk : Int))) 136 3 v3) 121 40 (0, 1)) 136 2 = (0, ((ev t (runS P seed)).sk : Int)) := fun v3 => (zset_ne (by decide)).trans ((zset_ne (by decide)).trans zset_same)
  have A3 : ∀ v3 : zV, (zset (zset (zset (zset (zset g 136 0 (0, ((ev t (runS P seed)).ms : Int))) 136 1 (0, ((ev t (runS P seed)).bt : Int))) 136 2 (0, ((ev t (runS P seed)).sk : Int))) 136 3 v3) 121 40 (0, 1)) 136 3 = v3 := fun v3 => (zset_ne (by decide)).trans zset_same
  have A4 : ∀ v3 : zV, (zset (zset (zset (zset (zset g 136 0 (0, ((ev t (runS P seed)).ms : Int))) 136 1 (0, ((ev t (runS P seed)).bt : Int))) 136 2 (0, ((ev t (runS P seed)).sk : Int))) 136 3 v3) 121 40 (0, 1)) 121 40 = (0, 1) := fun v3 => zset_same
  have U : ∀ v3 : zV, rUF h (zset (zset (zset (zset (zset g 136 0 (0, ((ev t (runS P seed)).ms : Int))) 136 1 (0, ((ev t (runS P seed)).bt : Int))) 136 2 (0, ((ev t (runS P seed)).sk : Int))) 136 3 v3) 121 40 (0, 1)) := fun v3 a b hn => (zset_ne (fun e => hn (by omega))).trans ((zset_ne (fun e => hn (by omega))).trans ((zset_ne (fun e => hn (by omega))).trans ((zset_ne (fun e => hn (by omega))).trans ((zset_ne (fun e => hn (by omega))).trans ((f a b (fun e => hn (by omega))).trans (F2 a b (fun e => hn (by omega))))))))
  have C : ∀ v3 : zV, rBk 0 (ev t (runS P seed)).P (zset (zset (zset (zset (zset g 136 0 (0, ((ev t (runS P seed)).ms : Int))) 136 1 (0, ((ev t (runS P seed)).bt : Int))) 136 2 (0, ((ev t (runS P seed)).sk : Int))) 136 3 v3) 121 40 (0, 1)) := fun v3 => q1.eq lb2 (fun b _ _ => (zset_ne (by omega)).trans ((zset_ne (by omega)).trans ((zset_ne (by omega)).trans ((zset_ne (by omega)).trans (zset_ne (by omega))))))
  exact vP_hv (fun hv => qs_run51 hT hO _ _ hv q43 q44 q45 q46 e47 ⟨C (0, if (ev t (runS P seed)).ov = 2 then 1 else 0), U (0, if (ev t (runS P seed)).ov = 2 then 1 else 0), rfl, A0 (0, if (ev t (runS P seed)).ov = 2 then 1 else 0), A1 (0, if (ev t (runS P seed)).ov = 2 then 1 else 0), A2 (0, if (ev t (runS P seed)).ov = 2 then 1 else 0), A3 (0, if (ev t (runS P seed)).ov = 2 then 1 else 0), A4 (0, if (ev t (runS P seed)).ov = 2 then 1 else 0)⟩)
end
section
theorem qk_bes_39 {D : zD} {T : zT} (hT : hTab T) (hO : vOK T) {N : Nat} {h : zH} {Q : zR → Prop} {P : PT} {q d : Nat} (hv0 : zHv h) (p0 : h 39 0 = (0, P 0 0)) (p1 : h 39 1 = (0, P 0 1)) (hq : q < 48) (lb : (0 ≤ P 0 0 ∧ P 0 0 ≤ 8) ∧ (0 ≤ P 0 1 ∧ P 0 1 ≤ 6) ∧ (0 ≤ P 0 2 ∧ P 0 2 ≤ 3) ∧ (0 ≤ P 0 3 ∧ P 0 3 ≤ 6))
    (k0 : ((d : Int) = 0) → ((((q : Int) % 8) + 1) < (P 0 0)) → Q (h, some (0, ((q : Int) + 1))))
    (k1 : ((d : Int) = 0) → ((P 0 0) ≤ (((q : Int) % 8) + 1)) → Q (h, some (0, -1)))
    (k2 : ((d : Int) ≠ 0) → ((d : Int) = 1) → (((q : Int) + 8) < ((P 0 1) * 8)) → Q (h, some (0, ((q : Int) + 8))))
    (k3 : ((d : Int) ≠ 0) → ((d : Int) = 1) → (((P 0 1) * 8) ≤ ((q : Int) + 8)) → Q (h, some (0, -1)))
    (k4 : ((d : Int) ≠ 0) → ((d : Int) ≠ 1) → ((d : Int) = 2) → (0 < ((q : Int) % 8)) → Q (h, some (0, ((q : Int) - 1))))
    (k5 : ((d : Int) ≠ 0) → ((d : Int) ≠ 1) → ((d : Int) = 2) → (((q : Int) % 8) ≤ 0) → Q (h, some (0, -1)))
    (k6 : ((d : Int) ≠ 0) → ((d : Int) ≠ 1) → ((d : Int) ≠ 2) → ((q : Int) < 8) → Q (h, some (0, -1)))
    (k7 : ((d : Int) ≠ 0) → ((d : Int) ≠ 1) → ((d : Int) ≠ 2) → (8 ≤ (q : Int)) → Q (h, some (0, ((q : Int) - 8)))) :
    vP D T N 27 0 h [some (2, 39), some (0, (q : Int)), some (0, (d : Int)), none] [] Q := by
  refine v_load (v := (0, (q : Int))) (hz_X2_beside hT _ _ rfl) rfl rfl ?_
  refine v_push (7) (hz_X2_beside hT _ _ rfl) rfl ?_
  refine v_bin (w := ((q : Int) % 8)) (hz_X2_beside hT _ _ rfl) (and7 (by omega) (by omega)) ?_
  refine v_store1 [some (2, 39), some (0, (q : Int)), some (0, (d : Int)), some (0, ((q : Int) % 8))] (hz_X2_beside hT _ _ rfl) ⟨rfl, Nat.ne_of_beq_eq_false rfl⟩ (Nat.le_of_ble_eq_true rfl) rfl ?_
  refine v_load (v := (0, (d : Int))) (hz_X2_beside hT _ _ rfl) rfl rfl ?_
  refine v_sw (hz_X2_beside hT _ _ rfl) ?_
  refine ⟨fun hc1 => ?_, fun hc1 => ?_⟩
  · have hc1 : (d : Int) = 0 := hc1
    refine v_load (v := (0, ((q : Int) % 8))) (hz_X2_beside hT _ _ rfl) rfl rfl ?_
    refine v_push (1) (hz_X2_beside hT _ _ rfl) rfl ?_
    refine v_bin (w := (((q : Int) % 8) + 1)) (hz_X2_beside hT _ _ rfl) (hq_add (by omega) (by omega)) ?_
    refine v_load (v := (2, 39)) (hz_X2_beside hT _ _ rfl) rfl rfl ?_
    refine v_getf (v := (0, (P 0 0))) (r := 39) (hz_X2_beside hT _ _ rfl) rfl rfl (fun _ => p0) ?_
    refine v_ic (hz_X2_beside hT _ _ rfl) (fun hc2 => ?_) (fun hc2 => ?_)
    · have hc2 : (((q : Int) % 8) + 1) < (P 0 0) := hc2
      refine v_load (v := (0, (q : Int))) (hz_X2_beside hT _ _ rfl) rfl rfl ?_
      refine v_push (1) (hz_X2_beside hT _ _ rfl) rfl ?_
      refine v_bin (w := ((q : Int) + 1)) (hz_X2_beside hT _ _ rfl) (hq_add (by omega) (by omega)) ?_
      refine v_goto (hz_X2_beside hT _ _ rfl) ?_
      refine v_ret (hi_X2_beside_49 hT) (Or.inl rfl) ?_
      exact k0 hc1 hc2
    · have hc2 : (P 0 0) ≤ (((q : Int) % 8) + 1) := Int.not_lt.mp hc2
      refine v_push (-1) (hz_X2_beside hT _ _ rfl) rfl ?_
      refine v_ret (hi_X2_beside_49 hT) (Or.inl rfl) ?_
      exact k1 hc1 hc2
  refine ⟨fun hc3 => ?_, fun hc3 => ?_⟩
  · have hc3 : (d : Int) = 1 := hc3
    refine v_load (v := (0, (q : Int))) (hz_X2_beside hT _ _ rfl) rfl rfl ?_
    refine v_push (8) (hz_X2_beside hT _ _ rfl) rfl ?_
    refine v_bin (w := ((q : Int) + 8)) (hz_X2_beside hT _ _ rfl) (hq_add (by omega) (by omega)) ?_
    refine v_load (v := (2, 39)) (hz_X2_beside hT _ _ rfl) rfl rfl ?_
    refine v_getf (v := (0, (P 0 1))) (r := 39) (hz_X2_beside hT _ _ rfl) rfl rfl (fun _ => p1) ?_
    refine v_push (8) (hz_X2_beside hT _ _ rfl) rfl ?_
    refine v_bin (w := ((P 0 1) * 8)) (hz_X2_beside hT _ _ rfl) (hq_mul (by omega) (by omega)) ?_
    refine v_ic (hz_X2_beside hT _ _ rfl) (fun hc4 => ?_) (fun hc4 => ?_)
    · have hc4 : ((q : Int) + 8) < ((P 0 1) * 8) := hc4
      refine v_load (v := (0, (q : Int))) (hz_X2_beside hT _ _ rfl) rfl rfl ?_
      refine v_push (8) (hz_X2_beside hT _ _ rfl) rfl ?_
      refine v_bin (w := ((q : Int) + 8)) (hz_X2_beside hT _ _ rfl) (hq_add (by omega) (by omega)) ?_
      refine v_goto (hz_X2_beside hT _ _ rfl) ?_
      refine v_ret (hi_X2_beside_72 hT) (Or.inl rfl) ?_
      exact k2 hc1 hc3 hc4
    · have hc4 : ((P 0 1) * 8) ≤ ((q : Int) + 8) := Int.not_lt.mp hc4
      refine v_push (-1) (hz_X2_beside hT _ _ rfl) rfl ?_
      refine v_ret (hi_X2_beside_72 hT) (Or.inl rfl) ?_
      exact k3 hc1 hc3 hc4
  refine ⟨fun hc5 => ?_, fun hc5 => ?_⟩
  · have hc5 : (d : Int) = 2 := hc5
    refine v_load (v := (0, ((q : Int) % 8))) (hz_X2_beside hT _ _ rfl) rfl rfl ?_
    refine v_if (hz_X2_beside hT _ _ rfl) (fun hc6 => ?_) (fun hc6 => ?_)
    · have hc6 : 0 < ((q : Int) % 8) := hc6
      refine v_load (v := (0, (q : Int))) (hz_X2_beside hT _ _ rfl) rfl rfl ?_
      refine v_push (1) (hz_X2_beside hT _ _ rfl) rfl ?_
      refine v_bin (w := ((q : Int) - 1)) (hz_X2_beside hT _ _ rfl) (hq_sub (by omega) (by omega)) ?_
      refine v_goto (hz_X2_beside hT _ _ rfl) ?_
      refine v_ret (hi_X2_beside_84 hT) (Or.inl rfl) ?_
      exact k4 hc1 hc3 hc5 hc6
    · have hc6 : ((q : Int) % 8) ≤ 0 := Int.not_lt.mp hc6
      refine v_push (-1) (hz_X2_beside hT _ _ rfl) rfl ?_
      refine v_ret (hi_X2_beside_84 hT) (Or.inl rfl) ?_
      exact k5 hc1 hc3 hc5 hc6
  show vP _ _ _ _ _ _ _ _ _
  refine v_load (v := (0, (q : Int))) (hz_X2_beside hT _ _ rfl) rfl rfl ?_
  refine v_push (8) (hz_X2_beside hT _ _ rfl) rfl ?_
  refine v_ic (hz_X2_beside hT _ _ rfl) (fun hc7 => ?_) (fun hc7 => ?_)
  · have hc7 : (q : Int) < 8 := hc7
    refine v_push (-1) (hz_X2_beside hT _ _ rfl) rfl ?_
    refine v_ret (hi_X2_beside_99 hT) (Or.inl rfl) ?_
    exact k6 hc1 hc3 hc5 hc7
  · have hc7 : 8 ≤ (q : Int) := Int.not_lt.mp hc7
    refine v_load (v := (0, (q : Int))) (hz_X2_beside hT _ _ rfl) rfl rfl ?_
    refine v_push (8) (hz_X2_beside hT _ _ rfl) rfl ?_
    refine v_bin (w := ((q : Int) - 8)) (hz_X2_beside hT _ _ rfl) (hq_sub (by omega) (by omega)) ?_
    refine v_goto (hz_X2_beside hT _ _ rfl) ?_
    refine v_ret (hi_X2_beside_99 hT) (Or.inl rfl) ?_
    exact k7 hc1 hc3 hc5 hc7
theorem cb_bes_39 {D : zD} {T : zT} (hT : hTab T) (hO : vOK T) {N : Nat} {h : zH} {Q : zR → Prop} {P : PT} (x y : Int) (q d : Nat) (ex : x = (q : Int)) (ey : y = (d : Int)) (gq : gIn P q) (hd : d < 4) (p0 : h 39 0 = (0, P 0 0)) (p1 : h 39 1 = (0, P 0 1)) (lb : lB P) (k1 : gNb P q d = -1 → Q (h, some (0, -1))) (k2 : ∀ q2 : Nat, gNb P q d = (q2 : Int) → gIn P q2 → Q (h, some (0, (q2 : Int)))) : vP D T N 27 0 h [some (2, 39), some (0, x), some (0, y), none] [] Q := by
  subst ex ey
  have hq := gq.1
  have k : Q (h, some (0, gNb P q d)) := by
    rcases (gOk lb).2 q d gq hd with e | ⟨q2, g2, e, _⟩
    · rw [e]; exact k1 e
    · rw [e]; exact k2 q2 e g2
  clear k1 k2
  refine vP_hv (fun hv => qk_bes_39 hT hO hv p0 p1 hq lb ?_ ?_ ?_ ?_ ?_ ?_ ?_ ?_) <;> (intros; exact cb_eq k (by unfold gNb cBs; omega))
theorem qk_isC_39 {D : zD} {T : zT} (hT : hTab T) (hO : vOK T) {N : Nat} {h : zH} {Q : zR → Prop} {P : PT} {q : Nat} (hv0 : zHv h) (p0 : h 39 0 = (0, P 0 0)) (p1 : h 39 1 = (0, P 0 1)) (hq : q < 48)
    (k0 : ((q : Int) < 0) → Q (h, some (0, 0)))
    (k1 : (0 ≤ (q : Int)) → (((q : Int) % 8) < 0) → Q (h, some (0, 0)))
    (k2 : (0 ≤ (q : Int)) → (0 ≤ ((q : Int) % 8)) → (((q : Int) % 8) < (P 0 0)) → (((q : Int) / 8) < 0) → Q (h, some (0, 0)))
    (k3 : (0 ≤ (q : Int)) → (0 ≤ ((q : Int) % 8)) → (((q : Int) % 8) < (P 0 0)) → (0 ≤ ((q : Int) / 8)) → (((q : Int) / 8) < (P 0 1)) → Q (h, some (0, 1)))
    (k4 : (0 ≤ (q : Int)) → (0 ≤ ((q : Int) % 8)) → (((q : Int) % 8) < (P 0 0)) → (0 ≤ ((q : Int) / 8)) → ((P 0 1) ≤ ((q : Int) / 8)) → Q (h, some (0, 0)))
    (k5 : (0 ≤ (q : Int)) → (0 ≤ ((q : Int) % 8)) → ((P 0 0) ≤ ((q : Int) % 8)) → Q (h, some (0, 0))) :
    vP D T N 46 0 h [some (2, 39), some (0, (q : Int))] [] Q := by
  refine v_load (v := (0, (q : Int))) (hz_X2_isCell hT _ _ rfl) rfl rfl ?_
  refine v_if (hz_X2_isCell hT _ _ rfl) (fun hc1 => ?_) (fun hc1 => ?_)
  · have hc1 : (q : Int) < 0 := hc1
    refine v_push (0) (hi_X2_isCell_23 hT) rfl ?_
    refine v_ret (hi_X2_isCell_24 hT) (Or.inl rfl) ?_
    exact k0 hc1
  · have hc1 : 0 ≤ (q : Int) := Int.not_lt.mp hc1
    refine v_load (v := (2, 39)) (hz_X2_isCell hT _ _ rfl) rfl rfl ?_
    refine v_load (v := (0, (q : Int))) (hz_X2_isCell hT _ _ rfl) rfl rfl ?_
    refine v_call (w := 1) [some (0, (q : Int))] hO (hz_X2_isCell hT _ _ rfl) rfl rfl ?_
    refine v_load (v := (0, (q : Int))) (hi_X2_xOf_0 hT) rfl rfl ?_
    refine v_push (7) (hi_X2_xOf_1 hT) rfl ?_
    refine v_bin (w := ((q : Int) % 8)) (hi_X2_xOf_3 hT) (and7 (by omega) (by omega)) ?_
    refine v_ret (hi_X2_xOf_4 hT) (Or.inl rfl) ?_
    show vP D T N 46 9 h [some (2, 39), some (0, (q : Int))] [(0, ((q : Int) % 8)), (2, 39)] _
    refine v_load (v := (0, (q : Int))) (hz_X2_isCell hT _ _ rfl) rfl rfl ?_
    refine v_call (w := 1) [some (0, (q : Int))] hO (hz_X2_isCell hT _ _ rfl) rfl rfl ?_
    refine v_load (v := (0, (q : Int))) (hi_X2_yOf_0 hT) rfl rfl ?_
    refine v_push (3) (hi_X2_yOf_1 hT) rfl ?_
    refine v_bin (w := ((q : Int) / 8)) (hi_X2_yOf_2 hT) (shr3 (by omega) (by omega)) ?_
    refine v_ret (hi_X2_yOf_3 hT) (Or.inl rfl) ?_
    show vP D T N 46 13 h [some (2, 39), some (0, (q : Int))] [(0, ((q : Int) / 8)), (0, ((q : Int) % 8)), (2, 39)] _
    refine v_call (w := 3) [some (2, 39), some (0, ((q : Int) % 8)), some (0, ((q : Int) / 8))] hO (hz_X2_isCell hT _ _ rfl) rfl rfl ?_
    refine v_load (v := (0, ((q : Int) % 8))) (hi_X2_hasCell_0 hT) rfl rfl ?_
    refine v_if (hi_X2_hasCell_1 hT) (fun hc2 => ?_) (fun hc2 => ?_)
    · have hc2 : ((q : Int) % 8) < 0 := hc2
      refine v_push (0) (hi_X2_hasCell_28 hT) rfl ?_
      refine v_ret (hi_X2_hasCell_29 hT) (Or.inl rfl) ?_
      show vP D T N 46 16 h [some (2, 39), some (0, (q : Int))] [(0, 0)] _
      refine v_if (hi_X2_isCell_16 hT) (fun _ => ?_) (fun hc3 => absurd (show (0 : Int) = 0 from (by decide)) hc3)
      refine v_push (0) (hi_X2_isCell_23 hT) rfl ?_
      refine v_ret (hi_X2_isCell_24 hT) (Or.inl rfl) ?_
      exact k1 hc1 hc2
    · have hc2 : 0 ≤ ((q : Int) % 8) := Int.not_lt.mp hc2
      refine v_load (v := (0, ((q : Int) % 8))) (hi_X2_hasCell_4 hT) rfl rfl ?_
      refine v_load (v := (2, 39)) (hi_X2_hasCell_5 hT) rfl rfl ?_
      refine v_getf (v := (0, (P 0 0))) (r := 39) (hi_X2_hasCell_6 hT) rfl rfl (fun _ => p0) ?_
      refine v_ic (hi_X2_hasCell_9 hT) (fun hc4 => ?_) (fun hc4 => ?_)
      · have hc4 : ((q : Int) % 8) < (P 0 0) := hc4
        refine v_load (v := (0, ((q : Int) / 8))) (hi_X2_hasCell_12 hT) rfl rfl ?_
        refine v_if (hi_X2_hasCell_13 hT) (fun hc5 => ?_) (fun hc5 => ?_)
        · have hc5 : ((q : Int) / 8) < 0 := hc5
          refine v_push (0) (hi_X2_hasCell_28 hT) rfl ?_
          refine v_ret (hi_X2_hasCell_29 hT) (Or.inl rfl) ?_
          show vP D T N 46 16 h [some (2, 39), some (0, (q : Int))] [(0, 0)] _
          refine v_if (hi_X2_isCell_16 hT) (fun _ => ?_) (fun hc6 => absurd (show (0 : Int) = 0 from (by decide)) hc6)
          refine v_push (0) (hi_X2_isCell_23 hT) rfl ?_
          refine v_ret (hi_X2_isCell_24 hT) (Or.inl rfl) ?_
          exact k2 hc1 hc2 hc4 hc5
        · have hc5 : 0 ≤ ((q : Int) / 8) := Int.not_lt.mp hc5
          refine v_load (v := (0, ((q : Int) / 8))) (hi_X2_hasCell_16 hT) rfl rfl ?_
          refine v_load (v := (2, 39)) (hi_X2_hasCell_17 hT) rfl rfl ?_
          refine v_getf (v := (0, (P 0 1))) (r := 39) (hi_X2_hasCell_18 hT) rfl rfl (fun _ => p1) ?_
          refine v_ic (hi_X2_hasCell_21 hT) (fun hc7 => ?_) (fun hc7 => ?_)
          · have hc7 : ((q : Int) / 8) < (P 0 1) := hc7
            refine v_push (1) (hi_X2_hasCell_24 hT) rfl ?_
            refine v_goto (hi_X2_hasCell_25 hT) ?_
            refine v_ret (hi_X2_hasCell_29 hT) (Or.inl rfl) ?_
            show vP D T N 46 16 h [some (2, 39), some (0, (q : Int))] [(0, 1)] _
            refine v_if (hi_X2_isCell_16 hT) (fun hc8 => absurd (show (1 : Int) = 0 from hc8) (by decide)) (fun _ => ?_)
            refine v_push (1) (hz_X2_isCell hT _ _ rfl) rfl ?_
            refine v_goto (hz_X2_isCell hT _ _ rfl) ?_
            refine v_ret (hi_X2_isCell_24 hT) (Or.inl rfl) ?_
            exact k3 hc1 hc2 hc4 hc5 hc7
          · have hc7 : (P 0 1) ≤ ((q : Int) / 8) := Int.not_lt.mp hc7
            refine v_push (0) (hi_X2_hasCell_28 hT) rfl ?_
            refine v_ret (hi_X2_hasCell_29 hT) (Or.inl rfl) ?_
            show vP D T N 46 16 h [some (2, 39), some (0, (q : Int))] [(0, 0)] _
            refine v_if (hi_X2_isCell_16 hT) (fun _ => ?_) (fun hc9 => absurd (show (0 : Int) = 0 from (by decide)) hc9)
            refine v_push (0) (hi_X2_isCell_23 hT) rfl ?_
            refine v_ret (hi_X2_isCell_24 hT) (Or.inl rfl) ?_
            exact k4 hc1 hc2 hc4 hc5 hc7
      · have hc4 : (P 0 0) ≤ ((q : Int) % 8) := Int.not_lt.mp hc4
        refine v_push (0) (hi_X2_hasCell_28 hT) rfl ?_
        refine v_ret (hi_X2_hasCell_29 hT) (Or.inl rfl) ?_
        show vP D T N 46 16 h [some (2, 39), some (0, (q : Int))] [(0, 0)] _
        refine v_if (hi_X2_isCell_16 hT) (fun _ => ?_) (fun hc10 => absurd (show (0 : Int) = 0 from (by decide)) hc10)
        refine v_push (0) (hi_X2_isCell_23 hT) rfl ?_
        refine v_ret (hi_X2_isCell_24 hT) (Or.inl rfl) ?_
        exact k5 hc1 hc2 hc4
theorem cb_isC_39 {D : zD} {T : zT} (hT : hTab T) (hO : vOK T) {N : Nat} {h : zH} {Q : zR → Prop} {P : PT} (x : Int) (q : Nat) (ex : x = (q : Int)) (hq : q < 48) (p0 : h 39 0 = (0, P 0 0)) (p1 : h 39 1 = (0, P 0 1)) (lb : lB P) (k1 : gIn P q → Q (h, some (0, 1))) (k2 : ¬ gIn P q → Q (h, some (0, 0))) : vP D T N 46 0 h [some (2, 39), some (0, x)] [] Q := by
  subst ex
  have k : Q (h, some (0, gIx P q)) := by
    by_cases c : gIn P q
    · rw [gIx_y c]; exact k1 c
    · rw [gIx_n hq c]; exact k2 c
  clear k1 k2
  refine vP_hv (fun hv => qk_isC_39 hT hO hv p0 p1 hq ?_ ?_ ?_ ?_ ?_ ?_) <;> (intros; exact cb_eq k (by unfold gIx; omega))
theorem qk_st_39 {D : zD} {T : zT} (hT : hTab T) (hO : vOK T) {N : Nat} {h : zH} {Q : zR → Prop} {j q : Nat} (hv0 : zHv h) (hj : j < 3) (hq : q < 48)
    (k0 : (0 ≤ (((j : Int) * 48) + (q : Int))) → ((((j : Int) * 48) + (q : Int)) < 144) → Q (h, some (0, (h 42 ((((j : Int) * 48) + (q : Int))).toNat).2))) :
    vP D T N 56 0 h [some (2, 39), some (0, (j : Int)), some (0, (q : Int))] [] Q := by
  refine v_load (v := (2, 39)) (hz_X2_stateOf hT _ _ rfl) rfl rfl ?_
  refine v_getR (c := 42) (r := 39) (hz_X2_stateOf hT _ _ rfl) rfl rfl rfl ?_
  refine v_load (v := (0, (j : Int))) (hz_X2_stateOf hT _ _ rfl) rfl rfl ?_
  refine v_push (48) (hz_X2_stateOf hT _ _ rfl) rfl ?_
  refine v_bin (w := ((j : Int) * 48)) (hz_X2_stateOf hT _ _ rfl) (hq_mul (by omega) (by omega)) ?_
  refine v_load (v := (0, (q : Int))) (hz_X2_stateOf hT _ _ rfl) rfl rfl ?_
  refine v_bin (w := (((j : Int) * 48) + (q : Int))) (hz_X2_stateOf hT _ _ rfl) (hq_add (by omega) (by omega)) ?_
  refine v_ald (t := 0) (r := 42) (hz_X2_stateOf hT _ _ rfl) rfl rfl rfl (fun ha1 hb2 => ?_)
  refine v_ret (hz_X2_stateOf hT _ _ rfl) (Or.inl rfl) ?_
  exact k0 ha1 hb2
theorem cb_st_39 {D : zD} {T : zT} (hT : hTab T) (hO : vOK T) {N : Nat} {h : zH} {Q : zR → Prop} {P : PT} (x y : Int) (j q : Nat) (ex : x = (j : Int)) (ey : y = (q : Int)) (hj : j < 3) (hq : q < 48) (a3 : ∀ i, i < 144 → h 42 i = (0, P 3 i)) (k : Q (h, some (0, P 3 (48 * j + q)))) : vP D T N 56 0 h [some (2, 39), some (0, x), some (0, y)] [] Q := by
  subst ex ey
  refine vP_hv (fun hv => qk_st_39 hT hO hv hj hq (fun _ _ => ?_))
  rw [show ((j : Int) * 48 + (q : Int)).toNat = 48 * j + q from by omega, a3 _ (by omega)]
  exact k
theorem qk_gr_39 {D : zD} {T : zT} (hT : hTab T) (hO : vOK T) {N : Nat} {h : zH} {Q : zR → Prop} {P : PT} {q : Nat} (hv0 : zHv h) (hq : q < 48) (a1 : ∀ i, i < 48 → h 40 i = (0, P 1 i)) (a2 : ∀ i, i < 48 → h 41 i = (0, P 2 i)) (b2 : 0 ≤ P 2 q ∧ P 2 q ≤ 9) (bz : 0 ≤ zat D 2 (P 1 q).toNat ∧ zat D 2 (P 1 q).toNat ≤ 5)
    (k0 : (0 ≤ (q : Int)) → ((q : Int) < 48) → ((P 1 q) = 3) → Q (h, some (0, 0)))
    (k1 : (0 ≤ (q : Int)) → ((q : Int) < 48) → ((P 1 q) ≠ 3) → (0 ≤ (P 1 q)) → ((P 1 q) < (zlen D 2 : Int)) → Q (h, some (0, ((zat D 2 ((P 1 q)).toNat) + (P 2 q))))) :
    vP D T N 38 0 h [some (2, 39), some (0, (q : Int))] [] Q := by
  refine v_load (v := (2, 39)) (hz_X2_groundCost hT _ _ rfl) rfl rfl ?_
  refine v_getR (c := 40) (r := 39) (hz_X2_groundCost hT _ _ rfl) rfl rfl rfl ?_
  refine v_load (v := (0, (q : Int))) (hz_X2_groundCost hT _ _ rfl) rfl rfl ?_
  refine v_aldB (t := 0) (r := 40) (w := (P 1 q)) (hz_X2_groundCost hT _ _ rfl) rfl rfl rfl (fun _ _ => (congrArg Prod.snd (a1 q (by omega)))) (fun ha1 hb2 => ?_)
  refine v_push (3) (hz_X2_groundCost hT _ _ rfl) rfl ?_
  refine v_ic (hz_X2_groundCost hT _ _ rfl) (fun hc3 => ?_) (fun hc3 => ?_)
  · have hc3 : (P 1 q) = 3 := hc3
    refine v_push (0) (hz_X2_groundCost hT _ _ rfl) rfl ?_
    refine v_goto (hz_X2_groundCost hT _ _ rfl) ?_
    refine v_ret (hi_X2_groundCost_31 hT) (Or.inl rfl) ?_
    exact k0 ha1 hb2 hc3
  · have hc3 : (P 1 q) ≠ 3 := hc3
    refine v_push (2) (hz_X2_groundCost hT _ _ rfl) rfl ?_
    refine v_load (v := (2, 39)) (hz_X2_groundCost hT _ _ rfl) rfl rfl ?_
    refine v_getR (c := 40) (r := 39) (hz_X2_groundCost hT _ _ rfl) rfl rfl rfl ?_
    refine v_load (v := (0, (q : Int))) (hz_X2_groundCost hT _ _ rfl) rfl rfl ?_
    refine v_aldB (t := 0) (r := 40) (w := (P 1 q)) (hz_X2_groundCost hT _ _ rfl) rfl rfl rfl (fun _ _ => (congrArg Prod.snd (a1 q (by omega)))) (fun ha4 hb5 => ?_)
    refine v_aldS (j := 2) (hz_X2_groundCost hT _ _ rfl) rfl (fun ha6 hb7 => ?_)
    refine v_load (v := (2, 39)) (hz_X2_groundCost hT _ _ rfl) rfl rfl ?_
    refine v_getR (c := 41) (r := 39) (hz_X2_groundCost hT _ _ rfl) rfl rfl rfl ?_
    refine v_load (v := (0, (q : Int))) (hz_X2_groundCost hT _ _ rfl) rfl rfl ?_
    refine v_aldB (t := 0) (r := 41) (w := (P 2 q)) (hz_X2_groundCost hT _ _ rfl) rfl rfl rfl (fun _ _ => (congrArg Prod.snd (a2 q (by omega)))) (fun ha8 hb9 => ?_)
    refine v_bin (w := ((zat D 2 ((P 1 q)).toNat) + (P 2 q))) (hz_X2_groundCost hT _ _ rfl) (hq_add (by omega) (by omega)) ?_
    refine v_ret (hi_X2_groundCost_31 hT) (Or.inl rfl) ?_
    exact k1 ha1 hb2 hc3 ha6 hb7
theorem cb_gr_39 {D : zD} {T : zT} (hT : hTab T) (hO : vOK T) {N : Nat} {h : zH} {Q : zR → Prop} {P : PT} (x : Int) (q : Nat) (ex : x = (q : Int)) (hq : q < 48) (hb : fB P) (a1 : ∀ i, i < 48 → h 40 i = (0, P 1 i)) (a2 : ∀ i, i < 48 → h 41 i = (0, P 2 i)) (k : Q (h, some (0, gGr P q))) : vP D T N 38 0 h [some (2, 39), some (0, x)] [] Q := by
  subst ex
  refine vP_hv (fun hv => qk_gr_39 hT hO hv hq a1 a2 (hb.2.1 q hq).2 (zat2b D _) ?_ ?_)
  · intro _ _ c
    exact cb_eq k (if_pos c)
  · intro _ _ c d1 d2
    exact cb_eq k ((if_neg c).trans (congrArg (fun z => z + P 2 q) (zat2 D d1 d2).symm))
theorem qk_cr_39 {D : zD} {T : zT} (hT : hTab T) (hO : vOK T) {N : Nat} {h : zH} {Q : zR → Prop} {P : PT} {q : Nat} (hv0 : zHv h) (hq : q < 48) (a1 : ∀ i, i < 48 → h 40 i = (0, P 1 i)) (a2 : ∀ i, i < 48 → h 41 i = (0, P 2 i)) (b2 : 0 ≤ P 2 q ∧ P 2 q ≤ 9) (bz : 0 ≤ zat D 2 (P 1 q).toNat ∧ zat D 2 (P 1 q).toNat ≤ 5)
    (k0 : (0 ≤ (q : Int)) → ((q : Int) < 48) → (0 ≤ (P 1 q)) → ((P 1 q) < (zlen D 2 : Int)) → Q (h, some (0, ((zat D 2 ((P 1 q)).toNat) + (P 2 q))))) :
    vP D T N 33 0 h [some (2, 39), some (0, (q : Int))] [] Q := by
  refine v_push (2) (hz_X2_crumbsOf hT _ _ rfl) rfl ?_
  refine v_load (v := (2, 39)) (hz_X2_crumbsOf hT _ _ rfl) rfl rfl ?_
  refine v_getR (c := 40) (r := 39) (hz_X2_crumbsOf hT _ _ rfl) rfl rfl rfl ?_
  refine v_load (v := (0, (q : Int))) (hz_X2_crumbsOf hT _ _ rfl) rfl rfl ?_
  refine v_aldB (t := 0) (r := 40) (w := (P 1 q)) (hz_X2_crumbsOf hT _ _ rfl) rfl rfl rfl (fun _ _ => (congrArg Prod.snd (a1 q (by omega)))) (fun ha1 hb2 => ?_)
  refine v_aldS (j := 2) (hz_X2_crumbsOf hT _ _ rfl) rfl (fun ha3 hb4 => ?_)
  refine v_load (v := (2, 39)) (hz_X2_crumbsOf hT _ _ rfl) rfl rfl ?_
  refine v_getR (c := 41) (r := 39) (hz_X2_crumbsOf hT _ _ rfl) rfl rfl rfl ?_
  refine v_load (v := (0, (q : Int))) (hz_X2_crumbsOf hT _ _ rfl) rfl rfl ?_
  refine v_aldB (t := 0) (r := 41) (w := (P 2 q)) (hz_X2_crumbsOf hT _ _ rfl) rfl rfl rfl (fun _ _ => (congrArg Prod.snd (a2 q (by omega)))) (fun ha5 hb6 => ?_)
  refine v_bin (w := ((zat D 2 ((P 1 q)).toNat) + (P 2 q))) (hz_X2_crumbsOf hT _ _ rfl) (hq_add (by omega) (by omega)) ?_
  refine v_ret (hz_X2_crumbsOf hT _ _ rfl) (Or.inl rfl) ?_
  exact k0 ha1 hb2 ha3 hb4
theorem cb_cr_39 {D : zD} {T : zT} (hT : hTab T) (hO : vOK T) {N : Nat} {h : zH} {Q : zR → Prop} {P : PT} (x : Int) (q : Nat) (ex : x = (q : Int)) (hq : q < 48) (hb : fB P) (a1 : ∀ i, i < 48 → h 40 i = (0, P 1 i)) (a2 : ∀ i, i < 48 → h 41 i = (0, P 2 i)) (k : Q (h, some (0, gCr P q))) : vP D T N 33 0 h [some (2, 39), some (0, x)] [] Q := by
  subst ex
  refine vP_hv (fun hv => qk_cr_39 hT hO hv hq a1 a2 (hb.2.1 q hq).2 (zat2b D _) ?_)
  intro _ _ d1 d2
  exact cb_eq k (congrArg (fun z => z + P 2 q) (zat2 D d1 d2).symm)
theorem qk_sh_39 {D : zD} {T : zT} (hT : hTab T) (hO : vOK T) {N : Nat} {h : zH} {Q : zR → Prop} {P : PT} {j q : Nat} (hv0 : zHv h) (hj : j < 3) (hq : q < 48) (hb : fB P) (a1 : ∀ i, i < 48 → h 40 i = (0, P 1 i)) (a2 : ∀ i, i < 48 → h 41 i = (0, P 2 i)) (a3 : ∀ i, i < 144 → h 42 i = (0, P 3 i)) (b2 : 0 ≤ P 2 q ∧ P 2 q ≤ 9)
    (k0 : ((P 3 (48 * j + q)) = 0) → Q (h, some (0, (gGr P q))))
    (k1 : ((P 3 (48 * j + q)) ≠ 0) → ((P 3 (48 * j + q)) = 2) → (0 ≤ (q : Int)) → ((q : Int) < 48) → Q (h, some (0, (5 + (P 2 q)))))
    (k2 : ((P 3 (48 * j + q)) ≠ 0) → ((P 3 (48 * j + q)) ≠ 2) → Q (h, some (0, 0))) :
    vP D T N 53 0 h [some (2, 39), some (0, (j : Int)), some (0, (q : Int))] [] Q := by
  refine v_load (v := (2, 39)) (hz_X2_shownCost hT _ _ rfl) rfl rfl ?_
  refine v_load (v := (0, (j : Int))) (hz_X2_shownCost hT _ _ rfl) rfl rfl ?_
  refine v_load (v := (0, (q : Int))) (hz_X2_shownCost hT _ _ rfl) rfl rfl ?_
  refine v_call (w := 3) [some (2, 39), some (0, (j : Int)), some (0, (q : Int))] hO (hz_X2_shownCost hT _ _ rfl) rfl rfl (cb_st_39 hT hO ((j : Int)) ((q : Int)) j q rfl rfl (by omega) (by omega) a3 ?_)
  show vP D T N 53 6 h [some (2, 39), some (0, (j : Int)), some (0, (q : Int))] [(0, (P 3 (48 * j + q)))] _
  refine v_sw (hz_X2_shownCost hT _ _ rfl) ?_
  refine ⟨fun hc1 => ?_, fun hc1 => ?_⟩
  · have hc1 : (P 3 (48 * j + q)) = 0 := hc1
    refine v_load (v := (2, 39)) (hz_X2_shownCost hT _ _ rfl) rfl rfl ?_
    refine v_load (v := (0, (q : Int))) (hz_X2_shownCost hT _ _ rfl) rfl rfl ?_
    refine v_call (w := 2) [some (2, 39), some (0, (q : Int))] hO (hz_X2_shownCost hT _ _ rfl) rfl rfl (cb_gr_39 hT hO ((q : Int)) q rfl (by omega) hb a1 a2 ?_)
    show vP D T N 53 37 h [some (2, 39), some (0, (j : Int)), some (0, (q : Int))] [(0, (gGr P q))] _
    refine v_ret (hz_X2_shownCost hT _ _ rfl) (Or.inl rfl) ?_
    exact k0 hc1
  refine ⟨fun hc2 => ?_, fun hc2 => ?_⟩
  · have hc2 : (P 3 (48 * j + q)) = 2 := hc2
    refine v_push (5) (hz_X2_shownCost hT _ _ rfl) rfl ?_
    refine v_load (v := (2, 39)) (hz_X2_shownCost hT _ _ rfl) rfl rfl ?_
    refine v_getR (c := 41) (r := 39) (hz_X2_shownCost hT _ _ rfl) rfl rfl rfl ?_
    refine v_load (v := (0, (q : Int))) (hz_X2_shownCost hT _ _ rfl) rfl rfl ?_
    refine v_aldB (t := 0) (r := 41) (w := (P 2 q)) (hz_X2_shownCost hT _ _ rfl) rfl rfl rfl (fun _ _ => (congrArg Prod.snd (a2 q (by omega)))) (fun ha3 hb4 => ?_)
    refine v_bin (w := (5 + (P 2 q))) (hz_X2_shownCost hT _ _ rfl) (hq_add (by omega) (by omega)) ?_
    refine v_ret (hz_X2_shownCost hT _ _ rfl) (Or.inl rfl) ?_
    exact k1 hc1 hc2 ha3 hb4
  show vP _ _ _ _ _ _ _ _ _
  refine v_push (0) (hz_X2_shownCost hT _ _ rfl) rfl ?_
  refine v_ret (hz_X2_shownCost hT _ _ rfl) (Or.inl rfl) ?_
  exact k2 hc1 hc2
theorem cb_sh_39 {D : zD} {T : zT} (hT : hTab T) (hO : vOK T) {N : Nat} {h : zH} {Q : zR → Prop} {P : PT} (x y : Int) (j : Nat) (ex : x = (j : Int)) (hj : j < 3) (q : Nat) (ey : y = (q : Int)) (hq : q < 48) (hb : fB P) (a1 : ∀ i, i < 48 → h 40 i = (0, P 1 i)) (a2 : ∀ i, i < 48 → h 41 i = (0, P 2 i)) (a3 : ∀ i, i < 144 → h 42 i = (0, P 3 i)) (k : Q (h, some (0, gSh P j q))) : vP D T N 53 0 h [some (2, 39), some (0, x), some (0, y)] [] Q := by
  subst ex ey
  refine vP_hv (fun hv => qk_sh_39 hT hO hv hj hq hb a1 a2 a3 (hb.2.1 q hq).2 ?_ ?_ ?_)
  · intro c
    exact cb_eq k (if_pos c)
  · intro c1 c2 _ _
    exact cb_eq k ((if_neg c1).trans (if_pos c2))
  · intro c1 c2
    exact cb_eq k ((if_neg c1).trans (if_neg c2))
end
