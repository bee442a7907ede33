/-! printed by wip/l/gent2.py: single steps of the readers -/
theorem q_must {D : zD} {T : zT} (hT : hTab T) (hO : vOK T) {N : Nat} {h : zH} {Q : zR → Prop} (b : Int) (hv0 : zHv h)
    (k0 : (0 < (h 121 12).2) → Q (h, none))
    (k1 : ((h 121 12).2 ≤ 0) → (b = 0) → ((h 121 14).2 = 4) → Q (zset (zset h 121 12 (0, 1)) 121 13 (0, (h 121 15).2), none))
    (k2 : ((h 121 12).2 ≤ 0) → (b = 0) → ((h 121 14).2 ≠ 4) → Q (zset (zset h 121 12 (0, 2)) 121 13 (0, (h 121 15).2), none))
    (k3 : ((h 121 12).2 ≤ 0) → (b ≠ 0) → vP D T N 284 0 h [some (2, 121), none] [] (fun r1 => vP D T N 282 16 r1.1 [some (2, 121), some (0, b)] (zpush r1.2 []) Q)) :
    vP D T N 282 0 h [some (2, 121), some (0, b)] [] Q := by
  refine v_load (v := (2, 121)) (hz_X12_must hT _ _ rfl) rfl rfl ?_
  refine v_getI (t := 0) (r := 121) (hz_X12_must hT _ _ rfl) rfl rfl rfl ?_
  refine v_if (hz_X12_must hT _ _ rfl) (fun hc1 => ?_) (fun hc1 => ?_)
  · have hc1 : 0 < (h 121 12).2 := hc1
    refine v_ret0 (hz_X12_must hT _ _ rfl) ?_
    exact k0 hc1
  · have hc1 : (h 121 12).2 ≤ 0 := Int.not_lt.mp hc1
    refine v_load (v := (0, b)) (hz_X12_must hT _ _ rfl) rfl rfl ?_
    refine v_if (hz_X12_must hT _ _ rfl) (fun hc2 => ?_) (fun hc2 => ?_)
    · have hc2 : b = 0 := hc2
      refine v_load (v := (2, 121)) (hz_X12_must hT _ _ rfl) rfl rfl ?_
      refine v_call (w := 1) [some (2, 121)] hO (hz_X12_must hT _ _ rfl) rfl rfl ?_
      refine v_load (v := (2, 121)) (hz_X12_wrong hT _ _ rfl) rfl rfl ?_
      refine v_load (v := (2, 121)) (hz_X12_wrong hT _ _ rfl) rfl rfl ?_
      refine v_getI (t := 0) (r := 121) (hz_X12_wrong hT _ _ rfl) rfl rfl rfl ?_
      refine v_push (4) (hz_X12_wrong hT _ _ rfl) rfl ?_
      refine v_ic (hz_X12_wrong hT _ _ rfl) (fun hc3 => ?_) (fun hc3 => ?_)
      · have hc3 : (h 121 14).2 = 4 := hc3
        refine v_push (1) (hz_X12_wrong hT _ _ rfl) rfl ?_
        refine v_goto (hz_X12_wrong hT _ _ rfl) ?_
        refine v_load (v := (2, 121)) (hz_X12_wrong hT _ _ rfl) rfl rfl ?_
        refine v_getI (t := 0) (r := 121) (hz_X12_wrong hT _ _ rfl) rfl rfl rfl ?_
        refine v_call (w := 3) [some (2, 121), some (0, 1), some (0, (h 121 15).2)] hO (hz_X12_wrong hT _ _ rfl) rfl rfl ?_
        refine v_load (v := (2, 121)) (hz_X12_fail hT _ _ rfl) rfl rfl ?_
        refine v_getI (t := 0) (r := 121) (hz_X12_fail hT _ _ rfl) rfl rfl rfl ?_
        refine v_if (hz_X12_fail hT _ _ rfl) (fun hc4 => absurd (show 0 < (h 121 12).2 from hc4) (by omega)) (fun _ => ?_)
        refine v_load (v := (2, 121)) (hz_X12_fail hT _ _ rfl) rfl rfl ?_
        refine v_load (v := (0, 1)) (hz_X12_fail hT _ _ rfl) rfl rfl ?_
        refine v_putf (r := 121) hO (hz_X12_fail hT _ _ rfl) rfl (fun hf5 => ?_)
        refine v_load (v := (2, 121)) (hz_X12_fail hT _ _ rfl) rfl rfl ?_
        refine v_load (v := (0, (h 121 15).2)) (hz_X12_fail hT _ _ rfl) rfl rfl ?_
        refine v_putf (r := 121) hO (hz_X12_fail hT _ _ rfl) rfl (fun hf6 => ?_)
        refine v_ret0 (hz_X12_fail hT _ _ rfl) ?_
        show vP D T N 340 21 (zset (zset h 121 12 (0, 1)) 121 13 (0, (h 121 15).2)) [some (2, 121)] [] _
        refine v_ret0 (hz_X12_wrong hT _ _ rfl) ?_
        show vP D T N 282 23 (zset (zset h 121 12 (0, 1)) 121 13 (0, (h 121 15).2)) [some (2, 121), some (0, b)] [] _
        refine v_ret0 (hz_X12_must hT _ _ rfl) ?_
        exact k1 hc1 hc2 hc3
      · have hc3 : (h 121 14).2 ≠ 4 := hc3
        refine v_push (2) (hz_X12_wrong hT _ _ rfl) rfl ?_
        refine v_load (v := (2, 121)) (hz_X12_wrong hT _ _ rfl) rfl rfl ?_
        refine v_getI (t := 0) (r := 121) (hz_X12_wrong hT _ _ rfl) rfl rfl rfl ?_
        refine v_call (w := 3) [some (2, 121), some (0, 2), some (0, (h 121 15).2)] hO (hz_X12_wrong hT _ _ rfl) rfl rfl ?_
        refine v_load (v := (2, 121)) (hz_X12_fail hT _ _ rfl) rfl rfl ?_
        refine v_getI (t := 0) (r := 121) (hz_X12_fail hT _ _ rfl) rfl rfl rfl ?_
        refine v_if (hz_X12_fail hT _ _ rfl) (fun hc7 => absurd (show 0 < (h 121 12).2 from hc7) (by omega)) (fun _ => ?_)
        refine v_load (v := (2, 121)) (hz_X12_fail hT _ _ rfl) rfl rfl ?_
        refine v_load (v := (0, 2)) (hz_X12_fail hT _ _ rfl) rfl rfl ?_
        refine v_putf (r := 121) hO (hz_X12_fail hT _ _ rfl) rfl (fun hf8 => ?_)
        refine v_load (v := (2, 121)) (hz_X12_fail hT _ _ rfl) rfl rfl ?_
        refine v_load (v := (0, (h 121 15).2)) (hz_X12_fail hT _ _ rfl) rfl rfl ?_
        refine v_putf (r := 121) hO (hz_X12_fail hT _ _ rfl) rfl (fun hf9 => ?_)
        refine v_ret0 (hz_X12_fail hT _ _ rfl) ?_
        show vP D T N 340 21 (zset (zset h 121 12 (0, 2)) 121 13 (0, (h 121 15).2)) [some (2, 121)] [] _
        refine v_ret0 (hz_X12_wrong hT _ _ rfl) ?_
        show vP D T N 282 23 (zset (zset h 121 12 (0, 2)) 121 13 (0, (h 121 15).2)) [some (2, 121), some (0, b)] [] _
        refine v_ret0 (hz_X12_must hT _ _ rfl) ?_
        exact k2 hc1 hc2 hc3
    · have hc2 : b ≠ 0 := hc2
      refine v_load (v := (2, 121)) (hz_X12_must hT _ _ rfl) rfl rfl ?_
      refine v_call (w := 2) [some (2, 121), none] hO (hz_X12_must hT _ _ rfl) rfl rfl ?_
      exact k3 hc1 hc2
theorem q_must16 {D : zD} {T : zT} (hT : hTab T) (hO : vOK T) {N : Nat} {h : zH} {Q : zR → Prop} (b : Int) (hv0 : zHv h)
    (k0 : Q (h, none)) :
    vP D T N 282 16 h [some (2, 121), some (0, b)] [] Q := by
  refine v_goto (hz_X12_must hT _ _ rfl) ?_
  refine v_ret0 (hz_X12_must hT _ _ rfl) ?_
  exact k0 
theorem q_rnum {D : zD} {T : zT} (hT : hTab T) (hO : vOK T) {N : Nat} {h : zH} {Q : zR → Prop} (u v : Int) (hv0 : zHv h)
    (k0 : ((h 121 12).2 = 0) → ((h 121 14).2 = 2) → ((h 121 17).2 < u) → (0 < (h 121 12).2) → Q (h, some (0, 0)))
    (k1 : ((h 121 12).2 = 0) → ((h 121 14).2 = 2) → ((h 121 17).2 < u) → ((h 121 12).2 ≤ 0) → Q (zset (zset h 121 12 (0, 4)) 121 13 (0, (h 121 15).2), some (0, 0)))
    (k2 : ((h 121 12).2 = 0) → ((h 121 14).2 = 2) → (u ≤ (h 121 17).2) → (v < (h 121 17).2) → (0 < (h 121 12).2) → Q (h, some (0, 0)))
    (k3 : ((h 121 12).2 = 0) → ((h 121 14).2 = 2) → (u ≤ (h 121 17).2) → (v < (h 121 17).2) → ((h 121 12).2 ≤ 0) → Q (zset (zset h 121 12 (0, 4)) 121 13 (0, (h 121 15).2), some (0, 0)))
    (k4 : ((h 121 12).2 = 0) → ((h 121 14).2 = 2) → (u ≤ (h 121 17).2) → ((h 121 17).2 ≤ v) → (0 < (h 121 12).2) → Q (h, some (0, 0)))
    (k5 : ((h 121 12).2 = 0) → ((h 121 14).2 = 2) → (u ≤ (h 121 17).2) → ((h 121 17).2 ≤ v) → ((h 121 12).2 ≤ 0) → vP D T N 284 0 h [some (2, 121), none] [] (fun r1 => vP D T N 300 68 r1.1 [some (2, 121), some (0, u), some (0, v), some (0, (h 121 17).2)] (zpush r1.2 []) Q))
    (k6 : ((h 121 12).2 = 0) → ((h 121 14).2 ≠ 2) → ((h 121 14).2 = 4) → (0 < (h 121 12).2) → ((h 121 17).2 < u) → Q (h, some (0, 0)))
    (k7 : ((h 121 12).2 = 0) → ((h 121 14).2 ≠ 2) → ((h 121 14).2 = 4) → (0 < (h 121 12).2) → (u ≤ (h 121 17).2) → (v < (h 121 17).2) → Q (h, some (0, 0)))
    (k8 : ((h 121 12).2 = 0) → ((h 121 14).2 ≠ 2) → ((h 121 14).2 = 4) → (0 < (h 121 12).2) → (u ≤ (h 121 17).2) → ((h 121 17).2 ≤ v) → Q (h, some (0, 0)))
    (k9 : ((h 121 12).2 = 0) → ((h 121 14).2 ≠ 2) → ((h 121 14).2 = 4) → ((h 121 12).2 ≤ 0) → Q (zset (zset h 121 12 (0, 1)) 121 13 (0, (h 121 15).2), some (0, 0)))
    (k10 : ((h 121 12).2 = 0) → ((h 121 14).2 ≠ 2) → ((h 121 14).2 ≠ 4) → (0 < (h 121 12).2) → ((h 121 17).2 < u) → Q (h, some (0, 0)))
    (k11 : ((h 121 12).2 = 0) → ((h 121 14).2 ≠ 2) → ((h 121 14).2 ≠ 4) → (0 < (h 121 12).2) → (u ≤ (h 121 17).2) → (v < (h 121 17).2) → Q (h, some (0, 0)))
    (k12 : ((h 121 12).2 = 0) → ((h 121 14).2 ≠ 2) → ((h 121 14).2 ≠ 4) → (0 < (h 121 12).2) → (u ≤ (h 121 17).2) → ((h 121 17).2 ≤ v) → Q (h, some (0, 0)))
    (k13 : ((h 121 12).2 = 0) → ((h 121 14).2 ≠ 2) → ((h 121 14).2 ≠ 4) → ((h 121 12).2 ≤ 0) → Q (zset (zset h 121 12 (0, 2)) 121 13 (0, (h 121 15).2), some (0, 0)))
    (k14 : ((h 121 12).2 ≠ 0) → (0 < (h 121 12).2) → Q (h, some (0, 0)))
    (k15 : ((h 121 12).2 ≠ 0) → ((h 121 12).2 ≤ 0) → vP D T N 284 0 h [some (2, 121), none] [] (fun r1 => vP D T N 300 68 r1.1 [some (2, 121), some (0, u), some (0, v), some (0, (h 121 17).2)] (zpush r1.2 []) Q)) :
    vP D T N 300 0 h [some (2, 121), some (0, u), some (0, v), none] [] Q := by
  refine v_load (v := (2, 121)) (hz_X12_readNumber hT _ _ rfl) rfl rfl ?_
  refine v_getI (t := 0) (r := 121) (hz_X12_readNumber hT _ _ rfl) rfl rfl rfl ?_
  refine v_if (hz_X12_readNumber hT _ _ rfl) (fun hc1 => ?_) (fun hc1 => ?_)
  · have hc1 : (h 121 12).2 = 0 := hc1
    refine v_load (v := (2, 121)) (hz_X12_readNumber hT _ _ rfl) rfl rfl ?_
    refine v_getI (t := 0) (r := 121) (hz_X12_readNumber hT _ _ rfl) rfl rfl rfl ?_
    refine v_push (2) (hz_X12_readNumber hT _ _ rfl) rfl ?_
    refine v_ic (hz_X12_readNumber hT _ _ rfl) (fun hc2 => ?_) (fun hc2 => ?_)
    · have hc2 : (h 121 14).2 = 2 := hc2
      refine v_load (v := (2, 121)) (hz_X12_readNumber hT _ _ rfl) rfl rfl ?_
      refine v_getI (t := 0) (r := 121) (hz_X12_readNumber hT _ _ rfl) rfl rfl rfl ?_
      refine v_if (hz_X12_readNumber hT _ _ rfl) (fun _ => ?_) (fun hc3 => absurd (show (h 121 12).2 = 0 from hc1) hc3)
      refine v_load (v := (2, 121)) (hz_X12_readNumber hT _ _ rfl) rfl rfl ?_
      refine v_getI (t := 0) (r := 121) (hz_X12_readNumber hT _ _ rfl) rfl rfl rfl ?_
      refine v_i2l (hz_X12_readNumber hT _ _ rfl) ?_
      refine v_load (v := (0, u)) (hz_X12_readNumber hT _ _ rfl) rfl rfl ?_
      refine v_i2l (hz_X12_readNumber hT _ _ rfl) ?_
      refine v_load (v := (0, v)) (hz_X12_readNumber hT _ _ rfl) rfl rfl ?_
      refine v_i2l (hz_X12_readNumber hT _ _ rfl) ?_
      refine v_call (w := 6) [some (1, (h 121 17).2), none, some (1, u), none, some (1, v), none] hO (hz_X12_readNumber hT _ _ rfl) rfl rfl ?_
      refine v_load (v := (1, (h 121 17).2)) (hz_X12_isIn hT _ _ rfl) rfl rfl ?_
      refine v_load (v := (1, u)) (hz_X12_isIn hT _ _ rfl) rfl rfl ?_
      refine v_lif (hz_X12_isIn hT _ _ rfl) (hz_X12_isIn hT _ _ rfl) (fun hc4 => ?_) (fun hc4 => ?_)
      · have hc4 : (h 121 17).2 < u := hc4
        refine v_push (0) (hz_X12_isIn hT _ _ rfl) rfl ?_
        refine v_ret (hz_X12_isIn hT _ _ rfl) (Or.inl rfl) ?_
        show vP D T N 300 38 h [some (2, 121), some (0, u), some (0, v), none] [(0, 0)] _
        refine v_if (hz_X12_readNumber hT _ _ rfl) (fun _ => ?_) (fun hc5 => absurd (show (0 : Int) = 0 from (by decide)) hc5)
        refine v_load (v := (2, 121)) (hz_X12_readNumber hT _ _ rfl) rfl rfl ?_
        refine v_push (4) (hz_X12_readNumber hT _ _ rfl) rfl ?_
        refine v_load (v := (2, 121)) (hz_X12_readNumber hT _ _ rfl) rfl rfl ?_
        refine v_getI (t := 0) (r := 121) (hz_X12_readNumber hT _ _ rfl) rfl rfl rfl ?_
        refine v_call (w := 3) [some (2, 121), some (0, 4), some (0, (h 121 15).2)] hO (hz_X12_readNumber hT _ _ rfl) rfl rfl ?_
        refine v_load (v := (2, 121)) (hz_X12_fail hT _ _ rfl) rfl rfl ?_
        refine v_getI (t := 0) (r := 121) (hz_X12_fail hT _ _ rfl) rfl rfl rfl ?_
        refine v_if (hz_X12_fail hT _ _ rfl) (fun hc6 => ?_) (fun hc6 => ?_)
        · have hc6 : 0 < (h 121 12).2 := hc6
          refine v_ret0 (hz_X12_fail hT _ _ rfl) ?_
          show vP D T N 300 50 h [some (2, 121), some (0, u), some (0, v), none] [] _
          refine v_load (v := (2, 121)) (hz_X12_readNumber hT _ _ rfl) rfl rfl ?_
          refine v_getI (t := 0) (r := 121) (hz_X12_readNumber hT _ _ rfl) rfl rfl rfl ?_
          refine v_if (hz_X12_readNumber hT _ _ rfl) (fun _ => ?_) (fun hc7 => absurd (show 0 < (h 121 12).2 from hc6) hc7)
          refine v_push (0) (hz_X12_readNumber hT _ _ rfl) rfl ?_
          refine v_ret (hz_X12_readNumber hT _ _ rfl) (Or.inl rfl) ?_
          exact k0 hc1 hc2 hc4 hc6
        · have hc6 : (h 121 12).2 ≤ 0 := Int.not_lt.mp hc6
          refine v_load (v := (2, 121)) (hz_X12_fail hT _ _ rfl) rfl rfl ?_
          refine v_load (v := (0, 4)) (hz_X12_fail hT _ _ rfl) rfl rfl ?_
          refine v_putf (r := 121) hO (hz_X12_fail hT _ _ rfl) rfl (fun hf8 => ?_)
          refine v_load (v := (2, 121)) (hz_X12_fail hT _ _ rfl) rfl rfl ?_
          refine v_load (v := (0, (h 121 15).2)) (hz_X12_fail hT _ _ rfl) rfl rfl ?_
          refine v_putf (r := 121) hO (hz_X12_fail hT _ _ rfl) rfl (fun hf9 => ?_)
          refine v_ret0 (hz_X12_fail hT _ _ rfl) ?_
          show vP D T N 300 50 (zset (zset h 121 12 (0, 4)) 121 13 (0, (h 121 15).2)) [some (2, 121), some (0, u), some (0, v), none] [] _
          refine v_load (v := (2, 121)) (hz_X12_readNumber hT _ _ rfl) rfl rfl ?_
          refine v_getf (v := (0, 4)) (r := 121) (hz_X12_readNumber hT _ _ rfl) rfl rfl (fun _ => Eq.trans (zset_ne (fun c => absurd c.2 (by decide))) zset_same) ?_
          refine v_if (hz_X12_readNumber hT _ _ rfl) (fun _ => ?_) (fun hc10 => absurd (show 0 < (4 : Int) from (by decide)) hc10)
          refine v_push (0) (hz_X12_readNumber hT _ _ rfl) rfl ?_
          refine v_ret (hz_X12_readNumber hT _ _ rfl) (Or.inl rfl) ?_
          exact k1 hc1 hc2 hc4 hc6
      · have hc4 : u ≤ (h 121 17).2 := Int.not_lt.mp hc4
        refine v_load (v := (1, (h 121 17).2)) (hz_X12_isIn hT _ _ rfl) rfl rfl ?_
        refine v_load (v := (1, v)) (hz_X12_isIn hT _ _ rfl) rfl rfl ?_
        refine v_lif (hz_X12_isIn hT _ _ rfl) (hz_X12_isIn hT _ _ rfl) (fun hc11 => ?_) (fun hc11 => ?_)
        · have hc11 : v < (h 121 17).2 := hc11
          refine v_push (0) (hz_X12_isIn hT _ _ rfl) rfl ?_
          refine v_ret (hz_X12_isIn hT _ _ rfl) (Or.inl rfl) ?_
          show vP D T N 300 38 h [some (2, 121), some (0, u), some (0, v), none] [(0, 0)] _
          refine v_if (hz_X12_readNumber hT _ _ rfl) (fun _ => ?_) (fun hc12 => absurd (show (0 : Int) = 0 from (by decide)) hc12)
          refine v_load (v := (2, 121)) (hz_X12_readNumber hT _ _ rfl) rfl rfl ?_
          refine v_push (4) (hz_X12_readNumber hT _ _ rfl) rfl ?_
          refine v_load (v := (2, 121)) (hz_X12_readNumber hT _ _ rfl) rfl rfl ?_
          refine v_getI (t := 0) (r := 121) (hz_X12_readNumber hT _ _ rfl) rfl rfl rfl ?_
          refine v_call (w := 3) [some (2, 121), some (0, 4), some (0, (h 121 15).2)] hO (hz_X12_readNumber hT _ _ rfl) rfl rfl ?_
          refine v_load (v := (2, 121)) (hz_X12_fail hT _ _ rfl) rfl rfl ?_
          refine v_getI (t := 0) (r := 121) (hz_X12_fail hT _ _ rfl) rfl rfl rfl ?_
          refine v_if (hz_X12_fail hT _ _ rfl) (fun hc13 => ?_) (fun hc13 => ?_)
          · have hc13 : 0 < (h 121 12).2 := hc13
            refine v_ret0 (hz_X12_fail hT _ _ rfl) ?_
            show vP D T N 300 50 h [some (2, 121), some (0, u), some (0, v), none] [] _
            refine v_load (v := (2, 121)) (hz_X12_readNumber hT _ _ rfl) rfl rfl ?_
            refine v_getI (t := 0) (r := 121) (hz_X12_readNumber hT _ _ rfl) rfl rfl rfl ?_
            refine v_if (hz_X12_readNumber hT _ _ rfl) (fun _ => ?_) (fun hc14 => absurd (show 0 < (h 121 12).2 from hc13) hc14)
            refine v_push (0) (hz_X12_readNumber hT _ _ rfl) rfl ?_
            refine v_ret (hz_X12_readNumber hT _ _ rfl) (Or.inl rfl) ?_
            exact k2 hc1 hc2 hc4 hc11 hc13
          · have hc13 : (h 121 12).2 ≤ 0 := Int.not_lt.mp hc13
            refine v_load (v := (2, 121)) (hz_X12_fail hT _ _ rfl) rfl rfl ?_
            refine v_load (v := (0, 4)) (hz_X12_fail hT _ _ rfl) rfl rfl ?_
            refine v_putf (r := 121) hO (hz_X12_fail hT _ _ rfl) rfl (fun hf15 => ?_)
            refine v_load (v := (2, 121)) (hz_X12_fail hT _ _ rfl) rfl rfl ?_
            refine v_load (v := (0, (h 121 15).2)) (hz_X12_fail hT _ _ rfl) rfl rfl ?_
            refine v_putf (r := 121) hO (hz_X12_fail hT _ _ rfl) rfl (fun hf16 => ?_)
            refine v_ret0 (hz_X12_fail hT _ _ rfl) ?_
            show vP D T N 300 50 (zset (zset h 121 12 (0, 4)) 121 13 (0, (h 121 15).2)) [some (2, 121), some (0, u), some (0, v), none] [] _
            refine v_load (v := (2, 121)) (hz_X12_readNumber hT _ _ rfl) rfl rfl ?_
            refine v_getf (v := (0, 4)) (r := 121) (hz_X12_readNumber hT _ _ rfl) rfl rfl (fun _ => Eq.trans (zset_ne (fun c => absurd c.2 (by decide))) zset_same) ?_
            refine v_if (hz_X12_readNumber hT _ _ rfl) (fun _ => ?_) (fun hc17 => absurd (show 0 < (4 : Int) from (by decide)) hc17)
            refine v_push (0) (hz_X12_readNumber hT _ _ rfl) rfl ?_
            refine v_ret (hz_X12_readNumber hT _ _ rfl) (Or.inl rfl) ?_
            exact k3 hc1 hc2 hc4 hc11 hc13
        · have hc11 : (h 121 17).2 ≤ v := Int.not_lt.mp hc11
          refine v_push (1) (hz_X12_isIn hT _ _ rfl) rfl ?_
          refine v_goto (hz_X12_isIn hT _ _ rfl) ?_
          refine v_ret (hz_X12_isIn hT _ _ rfl) (Or.inl rfl) ?_
          show vP D T N 300 38 h [some (2, 121), some (0, u), some (0, v), none] [(0, 1)] _
          refine v_if (hz_X12_readNumber hT _ _ rfl) (fun hc18 => absurd (show (1 : Int) = 0 from hc18) (by decide)) (fun _ => ?_)
          refine v_load (v := (2, 121)) (hz_X12_readNumber hT _ _ rfl) rfl rfl ?_
          refine v_getI (t := 0) (r := 121) (hz_X12_readNumber hT _ _ rfl) rfl rfl rfl ?_
          refine v_if (hz_X12_readNumber hT _ _ rfl) (fun hc19 => ?_) (fun hc19 => ?_)
          · have hc19 : 0 < (h 121 12).2 := hc19
            refine v_push (0) (hz_X12_readNumber hT _ _ rfl) rfl ?_
            refine v_ret (hz_X12_readNumber hT _ _ rfl) (Or.inl rfl) ?_
            exact k4 hc1 hc2 hc4 hc11 hc19
          · have hc19 : (h 121 12).2 ≤ 0 := Int.not_lt.mp hc19
            refine v_load (v := (2, 121)) (hz_X12_readNumber hT _ _ rfl) rfl rfl ?_
            refine v_getI (t := 0) (r := 121) (hz_X12_readNumber hT _ _ rfl) rfl rfl rfl ?_
            refine v_store1 [some (2, 121), some (0, u), some (0, v), some (0, (h 121 17).2)] (hz_X12_readNumber hT _ _ rfl) ⟨rfl, Nat.ne_of_beq_eq_false rfl⟩ (Nat.le_of_ble_eq_true rfl) rfl ?_
            refine v_load (v := (2, 121)) (hz_X12_readNumber hT _ _ rfl) rfl rfl ?_
            refine v_call (w := 2) [some (2, 121), none] hO (hz_X12_readNumber hT _ _ rfl) rfl rfl ?_
            exact k5 hc1 hc2 hc4 hc11 hc19
    · have hc2 : (h 121 14).2 ≠ 2 := hc2
      refine v_load (v := (2, 121)) (hz_X12_readNumber hT _ _ rfl) rfl rfl ?_
      refine v_call (w := 1) [some (2, 121)] hO (hz_X12_readNumber hT _ _ rfl) rfl rfl ?_
      refine v_load (v := (2, 121)) (hz_X12_wrong hT _ _ rfl) rfl rfl ?_
      refine v_load (v := (2, 121)) (hz_X12_wrong hT _ _ rfl) rfl rfl ?_
      refine v_getI (t := 0) (r := 121) (hz_X12_wrong hT _ _ rfl) rfl rfl rfl ?_
      refine v_push (4) (hz_X12_wrong hT _ _ rfl) rfl ?_
      refine v_ic (hz_X12_wrong hT _ _ rfl) (fun hc20 => ?_) (fun hc20 => ?_)
      · have hc20 : (h 121 14).2 = 4 := hc20
        refine v_push (1) (hz_X12_wrong hT _ _ rfl) rfl ?_
        refine v_goto (hz_X12_wrong hT _ _ rfl) ?_
        refine v_load (v := (2, 121)) (hz_X12_wrong hT _ _ rfl) rfl rfl ?_
        refine v_getI (t := 0) (r := 121) (hz_X12_wrong hT _ _ rfl) rfl rfl rfl ?_
        refine v_call (w := 3) [some (2, 121), some (0, 1), some (0, (h 121 15).2)] hO (hz_X12_wrong hT _ _ rfl) rfl rfl ?_
        refine v_load (v := (2, 121)) (hz_X12_fail hT _ _ rfl) rfl rfl ?_
        refine v_getI (t := 0) (r := 121) (hz_X12_fail hT _ _ rfl) rfl rfl rfl ?_
        refine v_if (hz_X12_fail hT _ _ rfl) (fun hc21 => ?_) (fun hc21 => ?_)
        · have hc21 : 0 < (h 121 12).2 := hc21
          refine v_ret0 (hz_X12_fail hT _ _ rfl) ?_
          show vP D T N 340 21 h [some (2, 121)] [] _
          refine v_ret0 (hz_X12_wrong hT _ _ rfl) ?_
          show vP D T N 300 19 h [some (2, 121), some (0, u), some (0, v), none] [] _
          refine v_load (v := (2, 121)) (hz_X12_readNumber hT _ _ rfl) rfl rfl ?_
          refine v_getI (t := 0) (r := 121) (hz_X12_readNumber hT _ _ rfl) rfl rfl rfl ?_
          refine v_if (hz_X12_readNumber hT _ _ rfl) (fun _ => ?_) (fun hc22 => absurd (show (h 121 12).2 = 0 from hc1) hc22)
          refine v_load (v := (2, 121)) (hz_X12_readNumber hT _ _ rfl) rfl rfl ?_
          refine v_getI (t := 0) (r := 121) (hz_X12_readNumber hT _ _ rfl) rfl rfl rfl ?_
          refine v_i2l (hz_X12_readNumber hT _ _ rfl) ?_
          refine v_load (v := (0, u)) (hz_X12_readNumber hT _ _ rfl) rfl rfl ?_
          refine v_i2l (hz_X12_readNumber hT _ _ rfl) ?_
          refine v_load (v := (0, v)) (hz_X12_readNumber hT _ _ rfl) rfl rfl ?_
          refine v_i2l (hz_X12_readNumber hT _ _ rfl) ?_
          refine v_call (w := 6) [some (1, (h 121 17).2), none, some (1, u), none, some (1, v), none] hO (hz_X12_readNumber hT _ _ rfl) rfl rfl ?_
          refine v_load (v := (1, (h 121 17).2)) (hz_X12_isIn hT _ _ rfl) rfl rfl ?_
          refine v_load (v := (1, u)) (hz_X12_isIn hT _ _ rfl) rfl rfl ?_
          refine v_lif (hz_X12_isIn hT _ _ rfl) (hz_X12_isIn hT _ _ rfl) (fun hc23 => ?_) (fun hc23 => ?_)
          · have hc23 : (h 121 17).2 < u := hc23
            refine v_push (0) (hz_X12_isIn hT _ _ rfl) rfl ?_
            refine v_ret (hz_X12_isIn hT _ _ rfl) (Or.inl rfl) ?_
            show vP D T N 300 38 h [some (2, 121), some (0, u), some (0, v), none] [(0, 0)] _
            refine v_if (hz_X12_readNumber hT _ _ rfl) (fun _ => ?_) (fun hc24 => absurd (show (0 : Int) = 0 from (by decide)) hc24)
            refine v_load (v := (2, 121)) (hz_X12_readNumber hT _ _ rfl) rfl rfl ?_
            refine v_push (4) (hz_X12_readNumber hT _ _ rfl) rfl ?_
            refine v_load (v := (2, 121)) (hz_X12_readNumber hT _ _ rfl) rfl rfl ?_
            refine v_getI (t := 0) (r := 121) (hz_X12_readNumber hT _ _ rfl) rfl rfl rfl ?_
            refine v_call (w := 3) [some (2, 121), some (0, 4), some (0, (h 121 15).2)] hO (hz_X12_readNumber hT _ _ rfl) rfl rfl ?_
            refine v_load (v := (2, 121)) (hz_X12_fail hT _ _ rfl) rfl rfl ?_
            refine v_getI (t := 0) (r := 121) (hz_X12_fail hT _ _ rfl) rfl rfl rfl ?_
            refine v_if (hz_X12_fail hT _ _ rfl) (fun _ => ?_) (fun hc25 => absurd (show 0 < (h 121 12).2 from hc21) hc25)
            refine v_ret0 (hz_X12_fail hT _ _ rfl) ?_
            show vP D T N 300 50 h [some (2, 121), some (0, u), some (0, v), none] [] _
            refine v_load (v := (2, 121)) (hz_X12_readNumber hT _ _ rfl) rfl rfl ?_
            refine v_getI (t := 0) (r := 121) (hz_X12_readNumber hT _ _ rfl) rfl rfl rfl ?_
            refine v_if (hz_X12_readNumber hT _ _ rfl) (fun _ => ?_) (fun hc26 => absurd (show 0 < (h 121 12).2 from hc21) hc26)
            refine v_push (0) (hz_X12_readNumber hT _ _ rfl) rfl ?_
            refine v_ret (hz_X12_readNumber hT _ _ rfl) (Or.inl rfl) ?_
            exact k6 hc1 hc2 hc20 hc21 hc23
          · have hc23 : u ≤ (h 121 17).2 := Int.not_lt.mp hc23
            refine v_load (v := (1, (h 121 17).2)) (hz_X12_isIn hT _ _ rfl) rfl rfl ?_
            refine v_load (v := (1, v)) (hz_X12_isIn hT _ _ rfl) rfl rfl ?_
            refine v_lif (hz_X12_isIn hT _ _ rfl) (hz_X12_isIn hT _ _ rfl) (fun hc27 => ?_) (fun hc27 => ?_)
            · have hc27 : v < (h 121 17).2 := hc27
              refine v_push (0) (hz_X12_isIn hT _ _ rfl) rfl ?_
              refine v_ret (hz_X12_isIn hT _ _ rfl) (Or.inl rfl) ?_
              show vP D T N 300 38 h [some (2, 121), some (0, u), some (0, v), none] [(0, 0)] _
              refine v_if (hz_X12_readNumber hT _ _ rfl) (fun _ => ?_) (fun hc28 => absurd (show (0 : Int) = 0 from (by decide)) hc28)
              refine v_load (v := (2, 121)) (hz_X12_readNumber hT _ _ rfl) rfl rfl ?_
              refine v_push (4) (hz_X12_readNumber hT _ _ rfl) rfl ?_
              refine v_load (v := (2, 121)) (hz_X12_readNumber hT _ _ rfl) rfl rfl ?_
              refine v_getI (t := 0) (r := 121) (hz_X12_readNumber hT _ _ rfl) rfl rfl rfl ?_
              refine v_call (w := 3) [some (2, 121), some (0, 4), some (0, (h 121 15).2)] hO (hz_X12_readNumber hT _ _ rfl) rfl rfl ?_
              refine v_load (v := (2, 121)) (hz_X12_fail hT _ _ rfl) rfl rfl ?_
              refine v_getI (t := 0) (r := 121) (hz_X12_fail hT _ _ rfl) rfl rfl rfl ?_
              refine v_if (hz_X12_fail hT _ _ rfl) (fun _ => ?_) (fun hc29 => absurd (show 0 < (h 121 12).2 from hc21) hc29)
              refine v_ret0 (hz_X12_fail hT _ _ rfl) ?_
              show vP D T N 300 50 h [some (2, 121), some (0, u), some (0, v), none] [] _
              refine v_load (v := (2, 121)) (hz_X12_readNumber hT _ _ rfl) rfl rfl ?_
              refine v_getI (t := 0) (r := 121) (hz_X12_readNumber hT _ _ rfl) rfl rfl rfl ?_
              refine v_if (hz_X12_readNumber hT _ _ rfl) (fun _ => ?_) (fun hc30 => absurd (show 0 < (h 121 12).2 from hc21) hc30)
              refine v_push (0) (hz_X12_readNumber hT _ _ rfl) rfl ?_
              refine v_ret (hz_X12_readNumber hT _ _ rfl) (Or.inl rfl) ?_
              exact k7 hc1 hc2 hc20 hc21 hc23 hc27
            · have hc27 : (h 121 17).2 ≤ v := Int.not_lt.mp hc27
              refine v_push (1) (hz_X12_isIn hT _ _ rfl) rfl ?_
              refine v_goto (hz_X12_isIn hT _ _ rfl) ?_
              refine v_ret (hz_X12_isIn hT _ _ rfl) (Or.inl rfl) ?_
              show vP D T N 300 38 h [some (2, 121), some (0, u), some (0, v), none] [(0, 1)] _
              refine v_if (hz_X12_readNumber hT _ _ rfl) (fun hc31 => absurd (show (1 : Int) = 0 from hc31) (by decide)) (fun _ => ?_)
              refine v_load (v := (2, 121)) (hz_X12_readNumber hT _ _ rfl) rfl rfl ?_
              refine v_getI (t := 0) (r := 121) (hz_X12_readNumber hT _ _ rfl) rfl rfl rfl ?_
              refine v_if (hz_X12_readNumber hT _ _ rfl) (fun _ => ?_) (fun hc32 => absurd (show 0 < (h 121 12).2 from hc21) hc32)
              refine v_push (0) (hz_X12_readNumber hT _ _ rfl) rfl ?_
              refine v_ret (hz_X12_readNumber hT _ _ rfl) (Or.inl rfl) ?_
              exact k8 hc1 hc2 hc20 hc21 hc23 hc27
        · have hc21 : (h 121 12).2 ≤ 0 := Int.not_lt.mp hc21
          refine v_load (v := (2, 121)) (hz_X12_fail hT _ _ rfl) rfl rfl ?_
          refine v_load (v := (0, 1)) (hz_X12_fail hT _ _ rfl) rfl rfl ?_
          refine v_putf (r := 121) hO (hz_X12_fail hT _ _ rfl) rfl (fun hf33 => ?_)
          refine v_load (v := (2, 121)) (hz_X12_fail hT _ _ rfl) rfl rfl ?_
          refine v_load (v := (0, (h 121 15).2)) (hz_X12_fail hT _ _ rfl) rfl rfl ?_
          refine v_putf (r := 121) hO (hz_X12_fail hT _ _ rfl) rfl (fun hf34 => ?_)
          refine v_ret0 (hz_X12_fail hT _ _ rfl) ?_
          show vP D T N 340 21 (zset (zset h 121 12 (0, 1)) 121 13 (0, (h 121 15).2)) [some (2, 121)] [] _
          refine v_ret0 (hz_X12_wrong hT _ _ rfl) ?_
          show vP D T N 300 19 (zset (zset h 121 12 (0, 1)) 121 13 (0, (h 121 15).2)) [some (2, 121), some (0, u), some (0, v), none] [] _
          refine v_load (v := (2, 121)) (hz_X12_readNumber hT _ _ rfl) rfl rfl ?_
          refine v_getf (v := (0, 1)) (r := 121) (hz_X12_readNumber hT _ _ rfl) rfl rfl (fun _ => Eq.trans (zset_ne (fun c => absurd c.2 (by decide))) zset_same) ?_
          refine v_if (hz_X12_readNumber hT _ _ rfl) (fun hc35 => absurd (show (1 : Int) = 0 from hc35) (by decide)) (fun _ => ?_)
          refine v_load (v := (2, 121)) (hz_X12_readNumber hT _ _ rfl) rfl rfl ?_
          refine v_getf (v := (0, 1)) (r := 121) (hz_X12_readNumber hT _ _ rfl) rfl rfl (fun _ => Eq.trans (zset_ne (fun c => absurd c.2 (by decide))) zset_same) ?_
          refine v_if (hz_X12_readNumber hT _ _ rfl) (fun _ => ?_) (fun hc36 => absurd (show 0 < (1 : Int) from (by decide)) hc36)
          refine v_push (0) (hz_X12_readNumber hT _ _ rfl) rfl ?_
          refine v_ret (hz_X12_readNumber hT _ _ rfl) (Or.inl rfl) ?_
          exact k9 hc1 hc2 hc20 hc21
      · have hc20 : (h 121 14).2 ≠ 4 := hc20
        refine v_push (2) (hz_X12_wrong hT _ _ rfl) rfl ?_
        refine v_load (v := (2, 121)) (hz_X12_wrong hT _ _ rfl) rfl rfl ?_
        refine v_getI (t := 0) (r := 121) (hz_X12_wrong hT _ _ rfl) rfl rfl rfl ?_
        refine v_call (w := 3) [some (2, 121), some (0, 2), some (0, (h 121 15).2)] hO (hz_X12_wrong hT _ _ rfl) rfl rfl ?_
        refine v_load (v := (2, 121)) (hz_X12_fail hT _ _ rfl) rfl rfl ?_
        refine v_getI (t := 0) (r := 121) (hz_X12_fail hT _ _ rfl) rfl rfl rfl ?_
        refine v_if (hz_X12_fail hT _ _ rfl) (fun hc37 => ?_) (fun hc37 => ?_)
        · have hc37 : 0 < (h 121 12).2 := hc37
          refine v_ret0 (hz_X12_fail hT _ _ rfl) ?_
          show vP D T N 340 21 h [some (2, 121)] [] _
          refine v_ret0 (hz_X12_wrong hT _ _ rfl) ?_
          show vP D T N 300 19 h [some (2, 121), some (0, u), some (0, v), none] [] _
          refine v_load (v := (2, 121)) (hz_X12_readNumber hT _ _ rfl) rfl rfl ?_
          refine v_getI (t := 0) (r := 121) (hz_X12_readNumber hT _ _ rfl) rfl rfl rfl ?_
          refine v_if (hz_X12_readNumber hT _ _ rfl) (fun _ => ?_) (fun hc38 => absurd (show (h 121 12).2 = 0 from hc1) hc38)
          refine v_load (v := (2, 121)) (hz_X12_readNumber hT _ _ rfl) rfl rfl ?_
          refine v_getI (t := 0) (r := 121) (hz_X12_readNumber hT _ _ rfl) rfl rfl rfl ?_
          refine v_i2l (hz_X12_readNumber hT _ _ rfl) ?_
          refine v_load (v := (0, u)) (hz_X12_readNumber hT _ _ rfl) rfl rfl ?_
          refine v_i2l (hz_X12_readNumber hT _ _ rfl) ?_
          refine v_load (v := (0, v)) (hz_X12_readNumber hT _ _ rfl) rfl rfl ?_
          refine v_i2l (hz_X12_readNumber hT _ _ rfl) ?_
          refine v_call (w := 6) [some (1, (h 121 17).2), none, some (1, u), none, some (1, v), none] hO (hz_X12_readNumber hT _ _ rfl) rfl rfl ?_
          refine v_load (v := (1, (h 121 17).2)) (hz_X12_isIn hT _ _ rfl) rfl rfl ?_
          refine v_load (v := (1, u)) (hz_X12_isIn hT _ _ rfl) rfl rfl ?_
          refine v_lif (hz_X12_isIn hT _ _ rfl) (hz_X12_isIn hT _ _ rfl) (fun hc39 => ?_) (fun hc39 => ?_)
          · have hc39 : (h 121 17).2 < u := hc39
            refine v_push (0) (hz_X12_isIn hT _ _ rfl) rfl ?_
            refine v_ret (hz_X12_isIn hT _ _ rfl) (Or.inl rfl) ?_
            show vP D T N 300 38 h [some (2, 121), some (0, u), some (0, v), none] [(0, 0)] _
            refine v_if (hz_X12_readNumber hT _ _ rfl) (fun _ => ?_) (fun hc40 => absurd (show (0 : Int) = 0 from (by decide)) hc40)
            refine v_load (v := (2, 121)) (hz_X12_readNumber hT _ _ rfl) rfl rfl ?_
            refine v_push (4) (hz_X12_readNumber hT _ _ rfl) rfl ?_
            refine v_load (v := (2, 121)) (hz_X12_readNumber hT _ _ rfl) rfl rfl ?_
            refine v_getI (t := 0) (r := 121) (hz_X12_readNumber hT _ _ rfl) rfl rfl rfl ?_
            refine v_call (w := 3) [some (2, 121), some (0, 4), some (0, (h 121 15).2)] hO (hz_X12_readNumber hT _ _ rfl) rfl rfl ?_
            refine v_load (v := (2, 121)) (hz_X12_fail hT _ _ rfl) rfl rfl ?_
            refine v_getI (t := 0) (r := 121) (hz_X12_fail hT _ _ rfl) rfl rfl rfl ?_
            refine v_if (hz_X12_fail hT _ _ rfl) (fun _ => ?_) (fun hc41 => absurd (show 0 < (h 121 12).2 from hc37) hc41)
            refine v_ret0 (hz_X12_fail hT _ _ rfl) ?_
            show vP D T N 300 50 h [some (2, 121), some (0, u), some (0, v), none] [] _
            refine v_load (v := (2, 121)) (hz_X12_readNumber hT _ _ rfl) rfl rfl ?_
            refine v_getI (t := 0) (r := 121) (hz_X12_readNumber hT _ _ rfl) rfl rfl rfl ?_
            refine v_if (hz_X12_readNumber hT _ _ rfl) (fun _ => ?_) (fun hc42 => absurd (show 0 < (h 121 12).2 from hc37) hc42)
            refine v_push (0) (hz_X12_readNumber hT _ _ rfl) rfl ?_
            refine v_ret (hz_X12_readNumber hT _ _ rfl) (Or.inl rfl) ?_
            exact k10 hc1 hc2 hc20 hc37 hc39
          · have hc39 : u ≤ (h 121 17).2 := Int.not_lt.mp hc39
            refine v_load (v := (1, (h 121 17).2)) (hz_X12_isIn hT _ _ rfl) rfl rfl ?_
            refine v_load (v := (1, v)) (hz_X12_isIn hT _ _ rfl) rfl rfl ?_
            refine v_lif (hz_X12_isIn hT _ _ rfl) (hz_X12_isIn hT _ _ rfl) (fun hc43 => ?_) (fun hc43 => ?_)
            · have hc43 : v < (h 121 17).2 := hc43
              refine v_push (0) (hz_X12_isIn hT _ _ rfl) rfl ?_
              refine v_ret (hz_X12_isIn hT _ _ rfl) (Or.inl rfl) ?_
              show vP D T N 300 38 h [some (2, 121), some (0, u), some (0, v), none] [(0, 0)] _
              refine v_if (hz_X12_readNumber hT _ _ rfl) (fun _ => ?_) (fun hc44 => absurd (show (0 : Int) = 0 from (by decide)) hc44)
              refine v_load (v := (2, 121)) (hz_X12_readNumber hT _ _ rfl) rfl rfl ?_
              refine v_push (4) (hz_X12_readNumber hT _ _ rfl) rfl ?_
              refine v_load (v := (2, 121)) (hz_X12_readNumber hT _ _ rfl) rfl rfl ?_
              refine v_getI (t := 0) (r := 121) (hz_X12_readNumber hT _ _ rfl) rfl rfl rfl ?_
              refine v_call (w := 3) [some (2, 121), some (0, 4), some (0, (h 121 15).2)] hO (hz_X12_readNumber hT _ _ rfl) rfl rfl ?_
              refine v_load (v := (2, 121)) (hz_X12_fail hT _ _ rfl) rfl rfl ?_
              refine v_getI (t := 0) (r := 121) (hz_X12_fail hT _ _ rfl) rfl rfl rfl ?_
              refine v_if (hz_X12_fail hT _ _ rfl) (fun _ => ?_) (fun hc45 => absurd (show 0 < (h 121 12).2 from hc37) hc45)
              refine v_ret0 (hz_X12_fail hT _ _ rfl) ?_
              show vP D T N 300 50 h [some (2, 121), some (0, u), some (0, v), none] [] _
              refine v_load (v := (2, 121)) (hz_X12_readNumber hT _ _ rfl) rfl rfl ?_
              refine v_getI (t := 0) (r := 121) (hz_X12_readNumber hT _ _ rfl) rfl rfl rfl ?_
              refine v_if (hz_X12_readNumber hT _ _ rfl) (fun _ => ?_) (fun hc46 => absurd (show 0 < (h 121 12).2 from hc37) hc46)
              refine v_push (0) (hz_X12_readNumber hT _ _ rfl) rfl ?_
              refine v_ret (hz_X12_readNumber hT _ _ rfl) (Or.inl rfl) ?_
              exact k11 hc1 hc2 hc20 hc37 hc39 hc43
            · have hc43 : (h 121 17).2 ≤ v := Int.not_lt.mp hc43
              refine v_push (1) (hz_X12_isIn hT _ _ rfl) rfl ?_
              refine v_goto (hz_X12_isIn hT _ _ rfl) ?_
              refine v_ret (hz_X12_isIn hT _ _ rfl) (Or.inl rfl) ?_
              show vP D T N 300 38 h [some (2, 121), some (0, u), some (0, v), none] [(0, 1)] _
              refine v_if (hz_X12_readNumber hT _ _ rfl) (fun hc47 => absurd (show (1 : Int) = 0 from hc47) (by decide)) (fun _ => ?_)
              refine v_load (v := (2, 121)) (hz_X12_readNumber hT _ _ rfl) rfl rfl ?_
              refine v_getI (t := 0) (r := 121) (hz_X12_readNumber hT _ _ rfl) rfl rfl rfl ?_
              refine v_if (hz_X12_readNumber hT _ _ rfl) (fun _ => ?_) (fun hc48 => absurd (show 0 < (h 121 12).2 from hc37) hc48)
              refine v_push (0) (hz_X12_readNumber hT _ _ rfl) rfl ?_
              refine v_ret (hz_X12_readNumber hT _ _ rfl) (Or.inl rfl) ?_
              exact k12 hc1 hc2 hc20 hc37 hc39 hc43
        · have hc37 : (h 121 12).2 ≤ 0 := Int.not_lt.mp hc37
          refine v_load (v := (2, 121)) (hz_X12_fail hT _ _ rfl) rfl rfl ?_
          refine v_load (v := (0, 2)) (hz_X12_fail hT _ _ rfl) rfl rfl ?_
          refine v_putf (r := 121) hO (hz_X12_fail hT _ _ rfl) rfl (fun hf49 => ?_)
          refine v_load (v := (2, 121)) (hz_X12_fail hT _ _ rfl) rfl rfl ?_
          refine v_load (v := (0, (h 121 15).2)) (hz_X12_fail hT _ _ rfl) rfl rfl ?_
          refine v_putf (r := 121) hO (hz_X12_fail hT _ _ rfl) rfl (fun hf50 => ?_)
          refine v_ret0 (hz_X12_fail hT _ _ rfl) ?_
          show vP D T N 340 21 (zset (zset h 121 12 (0, 2)) 121 13 (0, (h 121 15).2)) [some (2, 121)] [] _
          refine v_ret0 (hz_X12_wrong hT _ _ rfl) ?_
          show vP D T N 300 19 (zset (zset h 121 12 (0, 2)) 121 13 (0, (h 121 15).2)) [some (2, 121), some (0, u), some (0, v), none] [] _
          refine v_load (v := (2, 121)) (hz_X12_readNumber hT _ _ rfl) rfl rfl ?_
          refine v_getf (v := (0, 2)) (r := 121) (hz_X12_readNumber hT _ _ rfl) rfl rfl (fun _ => Eq.trans (zset_ne (fun c => absurd c.2 (by decide))) zset_same) ?_
          refine v_if (hz_X12_readNumber hT _ _ rfl) (fun hc51 => absurd (show (2 : Int) = 0 from hc51) (by decide)) (fun _ => ?_)
          refine v_load (v := (2, 121)) (hz_X12_readNumber hT _ _ rfl) rfl rfl ?_
          refine v_getf (v := (0, 2)) (r := 121) (hz_X12_readNumber hT _ _ rfl) rfl rfl (fun _ => Eq.trans (zset_ne (fun c => absurd c.2 (by decide))) zset_same) ?_
          refine v_if (hz_X12_readNumber hT _ _ rfl) (fun _ => ?_) (fun hc52 => absurd (show 0 < (2 : Int) from (by decide)) hc52)
          refine v_push (0) (hz_X12_readNumber hT _ _ rfl) rfl ?_
          refine v_ret (hz_X12_readNumber hT _ _ rfl) (Or.inl rfl) ?_
          exact k13 hc1 hc2 hc20 hc37
  · have hc1 : (h 121 12).2 ≠ 0 := hc1
    refine v_load (v := (2, 121)) (hz_X12_readNumber hT _ _ rfl) rfl rfl ?_
    refine v_getI (t := 0) (r := 121) (hz_X12_readNumber hT _ _ rfl) rfl rfl rfl ?_
    refine v_if (hz_X12_readNumber hT _ _ rfl) (fun hc53 => absurd (show (h 121 12).2 = 0 from hc53) (by omega)) (fun _ => ?_)
    refine v_load (v := (2, 121)) (hz_X12_readNumber hT _ _ rfl) rfl rfl ?_
    refine v_getI (t := 0) (r := 121) (hz_X12_readNumber hT _ _ rfl) rfl rfl rfl ?_
    refine v_if (hz_X12_readNumber hT _ _ rfl) (fun hc54 => ?_) (fun hc54 => ?_)
    · have hc54 : 0 < (h 121 12).2 := hc54
      refine v_push (0) (hz_X12_readNumber hT _ _ rfl) rfl ?_
      refine v_ret (hz_X12_readNumber hT _ _ rfl) (Or.inl rfl) ?_
      exact k14 hc1 hc54
    · have hc54 : (h 121 12).2 ≤ 0 := Int.not_lt.mp hc54
      refine v_load (v := (2, 121)) (hz_X12_readNumber hT _ _ rfl) rfl rfl ?_
      refine v_getI (t := 0) (r := 121) (hz_X12_readNumber hT _ _ rfl) rfl rfl rfl ?_
      refine v_store1 [some (2, 121), some (0, u), some (0, v), some (0, (h 121 17).2)] (hz_X12_readNumber hT _ _ rfl) ⟨rfl, Nat.ne_of_beq_eq_false rfl⟩ (Nat.le_of_ble_eq_true rfl) rfl ?_
      refine v_load (v := (2, 121)) (hz_X12_readNumber hT _ _ rfl) rfl rfl ?_
      refine v_call (w := 2) [some (2, 121), none] hO (hz_X12_readNumber hT _ _ rfl) rfl rfl ?_
      exact k15 hc1 hc54
theorem q_rnum68 {D : zD} {T : zT} (hT : hTab T) (hO : vOK T) {N : Nat} {h : zH} {Q : zR → Prop} (u v w : Int) (hv0 : zHv h)
    (k0 : Q (h, some (0, w))) :
    vP D T N 300 68 h [some (2, 121), some (0, u), some (0, v), some (0, w)] [] Q := by
  refine v_load (v := (0, w)) (hz_X12_readNumber hT _ _ rfl) rfl rfl ?_
  refine v_ret (hz_X12_readNumber hT _ _ rfl) (Or.inl rfl) ?_
  exact k0 
theorem q_tword {D : zD} {T : zT} (hT : hTab T) (hO : vOK T) {N : Nat} {h : zH} {Q : zR → Prop} (w : Int) (hv0 : zHv h)
    (k0 : (0 ≤ (h 10 6).2) → ((h 10 6).2 < 901) → ((h 12 ((h 10 6).2).toNat).2 = 1) → ((h 15 ((h 10 6).2).toNat).2 = w) → ((h 10 6).2 < 900) → ((h 12 ((h 10 6).2).toNat).2 = 0) → Q (h, some (0, 1)))
    (k1 : (0 ≤ (h 10 6).2) → ((h 10 6).2 < 901) → ((h 12 ((h 10 6).2).toNat).2 = 1) → ((h 15 ((h 10 6).2).toNat).2 = w) → ((h 10 6).2 < 900) → ((h 12 ((h 10 6).2).toNat).2 ≠ 0) → ((h 12 ((h 10 6).2).toNat).2 = 4) → Q (h, some (0, 1)))
    (k2 : (0 ≤ (h 10 6).2) → ((h 10 6).2 < 901) → ((h 12 ((h 10 6).2).toNat).2 = 1) → ((h 15 ((h 10 6).2).toNat).2 = w) → ((h 10 6).2 < 900) → ((h 12 ((h 10 6).2).toNat).2 ≠ 0) → ((h 12 ((h 10 6).2).toNat).2 ≠ 4) → Q (zset h 10 6 (0, ((h 10 6).2 + 1)), some (0, 1)))
    (k3 : (0 ≤ (h 10 6).2) → ((h 10 6).2 < 901) → ((h 12 ((h 10 6).2).toNat).2 = 1) → ((h 15 ((h 10 6).2).toNat).2 = w) → (900 ≤ (h 10 6).2) → Q (h, some (0, 1)))
    (k4 : (0 ≤ (h 10 6).2) → ((h 10 6).2 < 901) → ((h 12 ((h 10 6).2).toNat).2 = 1) → ((h 15 ((h 10 6).2).toNat).2 ≠ w) → ((h 12 ((h 10 6).2).toNat).2 = 4) → Q (zset (zset h 10 7 (0, 1)) 10 8 (0, (h 13 ((h 10 6).2).toNat).2), some (0, 0)))
    (k5 : (0 ≤ (h 10 6).2) → ((h 10 6).2 < 901) → ((h 12 ((h 10 6).2).toNat).2 = 1) → ((h 15 ((h 10 6).2).toNat).2 ≠ w) → ((h 12 ((h 10 6).2).toNat).2 ≠ 4) → Q (zset (zset h 10 7 (0, 2)) 10 8 (0, (h 13 ((h 10 6).2).toNat).2), some (0, 0)))
    (k6 : (0 ≤ (h 10 6).2) → ((h 10 6).2 < 901) → ((h 12 ((h 10 6).2).toNat).2 ≠ 1) → ((h 12 ((h 10 6).2).toNat).2 = 4) → Q (zset (zset h 10 7 (0, 1)) 10 8 (0, (h 13 ((h 10 6).2).toNat).2), some (0, 0)))
    (k7 : (0 ≤ (h 10 6).2) → ((h 10 6).2 < 901) → ((h 12 ((h 10 6).2).toNat).2 ≠ 1) → ((h 12 ((h 10 6).2).toNat).2 ≠ 4) → Q (zset (zset h 10 7 (0, 2)) 10 8 (0, (h 13 ((h 10 6).2).toNat).2), some (0, 0))) :
    vP D T N 125 0 h [some (2, 10), some (0, w)] [] Q := by
  refine v_load (v := (2, 10)) (hz_X8_takeWord hT _ _ rfl) rfl rfl ?_
  refine v_load (v := (0, w)) (hz_X8_takeWord hT _ _ rfl) rfl rfl ?_
  refine v_call (w := 2) [some (2, 10), some (0, w)] hO (hz_X8_takeWord hT _ _ rfl) rfl rfl ?_
  refine v_load (v := (2, 10)) (hz_X8_isWord hT _ _ rfl) rfl rfl ?_
  refine v_getR (c := 12) (r := 10) (hz_X8_isWord hT _ _ rfl) rfl rfl rfl ?_
  refine v_load (v := (2, 10)) (hz_X8_isWord hT _ _ rfl) rfl rfl ?_
  refine v_getI (t := 0) (r := 10) (hz_X8_isWord hT _ _ rfl) rfl rfl rfl ?_
  refine v_ald (t := 0) (r := 12) (hz_X8_isWord hT _ _ rfl) rfl rfl rfl (fun ha1 hb2 => ?_)
  refine v_push (1) (hz_X8_isWord hT _ _ rfl) rfl ?_
  refine v_ic (hz_X8_isWord hT _ _ rfl) (fun hc3 => ?_) (fun hc3 => ?_)
  · have hc3 : (h 12 ((h 10 6).2).toNat).2 = 1 := hc3
    refine v_load (v := (2, 10)) (hz_X8_isWord hT _ _ rfl) rfl rfl ?_
    refine v_getR (c := 15) (r := 10) (hz_X8_isWord hT _ _ rfl) rfl rfl rfl ?_
    refine v_load (v := (2, 10)) (hz_X8_isWord hT _ _ rfl) rfl rfl ?_
    refine v_getI (t := 0) (r := 10) (hz_X8_isWord hT _ _ rfl) rfl rfl rfl ?_
    refine v_ald (t := 0) (r := 15) (hz_X8_isWord hT _ _ rfl) rfl rfl rfl (fun ha4 hb5 => ?_)
    refine v_load (v := (0, w)) (hz_X8_isWord hT _ _ rfl) rfl rfl ?_
    refine v_ic (hz_X8_isWord hT _ _ rfl) (fun hc6 => ?_) (fun hc6 => ?_)
    · have hc6 : (h 15 ((h 10 6).2).toNat).2 = w := hc6
      refine v_push (1) (hz_X8_isWord hT _ _ rfl) rfl ?_
      refine v_goto (hz_X8_isWord hT _ _ rfl) ?_
      refine v_ret (hz_X8_isWord hT _ _ rfl) (Or.inl rfl) ?_
      show vP D T N 125 5 h [some (2, 10), some (0, w)] [(0, 1)] _
      refine v_if (hz_X8_takeWord hT _ _ rfl) (fun hc7 => absurd (show (1 : Int) = 0 from hc7) (by decide)) (fun _ => ?_)
      refine v_load (v := (2, 10)) (hz_X8_takeWord hT _ _ rfl) rfl rfl ?_
      refine v_call (w := 1) [some (2, 10)] hO (hz_X8_takeWord hT _ _ rfl) rfl rfl ?_
      refine v_load (v := (2, 10)) (hz_X8_advance hT _ _ rfl) rfl rfl ?_
      refine v_getI (t := 0) (r := 10) (hz_X8_advance hT _ _ rfl) rfl rfl rfl ?_
      refine v_push (900) (hz_X8_advance hT _ _ rfl) rfl ?_
      refine v_ic (hz_X8_advance hT _ _ rfl) (fun hc8 => ?_) (fun hc8 => ?_)
      · have hc8 : (h 10 6).2 < 900 := hc8
        refine v_load (v := (2, 10)) (hz_X8_advance hT _ _ rfl) rfl rfl ?_
        refine v_getR (c := 12) (r := 10) (hz_X8_advance hT _ _ rfl) rfl rfl rfl ?_
        refine v_load (v := (2, 10)) (hz_X8_advance hT _ _ rfl) rfl rfl ?_
        refine v_getI (t := 0) (r := 10) (hz_X8_advance hT _ _ rfl) rfl rfl rfl ?_
        refine v_ald (t := 0) (r := 12) (hz_X8_advance hT _ _ rfl) rfl rfl rfl (fun ha9 hb10 => ?_)
        refine v_if (hz_X8_advance hT _ _ rfl) (fun hc11 => ?_) (fun hc11 => ?_)
        · have hc11 : (h 12 ((h 10 6).2).toNat).2 = 0 := hc11
          refine v_ret0 (hz_X8_advance hT _ _ rfl) ?_
          show vP D T N 125 18 h [some (2, 10), some (0, w)] [] _
          refine v_push (1) (hz_X8_takeWord hT _ _ rfl) rfl ?_
          refine v_ret (hz_X8_takeWord hT _ _ rfl) (Or.inl rfl) ?_
          exact k0 ha1 hb2 hc3 hc6 hc8 hc11
        · have hc11 : (h 12 ((h 10 6).2).toNat).2 ≠ 0 := hc11
          refine v_load (v := (2, 10)) (hz_X8_advance hT _ _ rfl) rfl rfl ?_
          refine v_getR (c := 12) (r := 10) (hz_X8_advance hT _ _ rfl) rfl rfl rfl ?_
          refine v_load (v := (2, 10)) (hz_X8_advance hT _ _ rfl) rfl rfl ?_
          refine v_getI (t := 0) (r := 10) (hz_X8_advance hT _ _ rfl) rfl rfl rfl ?_
          refine v_ald (t := 0) (r := 12) (hz_X8_advance hT _ _ rfl) rfl rfl rfl (fun ha12 hb13 => ?_)
          refine v_push (4) (hz_X8_advance hT _ _ rfl) rfl ?_
          refine v_ic (hz_X8_advance hT _ _ rfl) (fun hc14 => ?_) (fun hc14 => ?_)
          · have hc14 : (h 12 ((h 10 6).2).toNat).2 = 4 := hc14
            refine v_ret0 (hz_X8_advance hT _ _ rfl) ?_
            show vP D T N 125 18 h [some (2, 10), some (0, w)] [] _
            refine v_push (1) (hz_X8_takeWord hT _ _ rfl) rfl ?_
            refine v_ret (hz_X8_takeWord hT _ _ rfl) (Or.inl rfl) ?_
            exact k1 ha1 hb2 hc3 hc6 hc8 hc11 hc14
          · have hc14 : (h 12 ((h 10 6).2).toNat).2 ≠ 4 := hc14
            refine v_load (v := (2, 10)) (hz_X8_advance hT _ _ rfl) rfl rfl ?_
            refine v_dup (hz_X8_advance hT _ _ rfl) (Nat.ne_of_beq_eq_false rfl) ?_
            refine v_getI (t := 0) (r := 10) (hz_X8_advance hT _ _ rfl) rfl rfl rfl ?_
            refine v_push (1) (hz_X8_advance hT _ _ rfl) rfl ?_
            refine v_bin (w := ((h 10 6).2 + 1)) (hz_X8_advance hT _ _ rfl) (hq_add (by omega) (by omega)) ?_
            refine v_putf (r := 10) hO (hz_X8_advance hT _ _ rfl) rfl (fun hf15 => ?_)
            refine v_ret0 (hz_X8_advance hT _ _ rfl) ?_
            show vP D T N 125 18 (zset h 10 6 (0, ((h 10 6).2 + 1))) [some (2, 10), some (0, w)] [] _
            refine v_push (1) (hz_X8_takeWord hT _ _ rfl) rfl ?_
            refine v_ret (hz_X8_takeWord hT _ _ rfl) (Or.inl rfl) ?_
            exact k2 ha1 hb2 hc3 hc6 hc8 hc11 hc14
      · have hc8 : 900 ≤ (h 10 6).2 := Int.not_lt.mp hc8
        refine v_ret0 (hz_X8_advance hT _ _ rfl) ?_
        show vP D T N 125 18 h [some (2, 10), some (0, w)] [] _
        refine v_push (1) (hz_X8_takeWord hT _ _ rfl) rfl ?_
        refine v_ret (hz_X8_takeWord hT _ _ rfl) (Or.inl rfl) ?_
        exact k3 ha1 hb2 hc3 hc6 hc8
    · have hc6 : (h 15 ((h 10 6).2).toNat).2 ≠ w := hc6
      refine v_push (0) (hz_X8_isWord hT _ _ rfl) rfl ?_
      refine v_ret (hz_X8_isWord hT _ _ rfl) (Or.inl rfl) ?_
      show vP D T N 125 5 h [some (2, 10), some (0, w)] [(0, 0)] _
      refine v_if (hz_X8_takeWord hT _ _ rfl) (fun _ => ?_) (fun hc16 => absurd (show (0 : Int) = 0 from (by decide)) hc16)
      refine v_load (v := (2, 10)) (hz_X8_takeWord hT _ _ rfl) rfl rfl ?_
      refine v_push (2) (hz_X8_takeWord hT _ _ rfl) rfl ?_
      refine v_call (w := 2) [some (2, 10), some (0, 2)] hO (hz_X8_takeWord hT _ _ rfl) rfl rfl ?_
      refine v_load (v := (2, 10)) (hz_X8_blame hT _ _ rfl) rfl rfl ?_
      refine v_load (v := (2, 10)) (hz_X8_blame hT _ _ rfl) rfl rfl ?_
      refine v_getR (c := 12) (r := 10) (hz_X8_blame hT _ _ rfl) rfl rfl rfl ?_
      refine v_load (v := (2, 10)) (hz_X8_blame hT _ _ rfl) rfl rfl ?_
      refine v_getI (t := 0) (r := 10) (hz_X8_blame hT _ _ rfl) rfl rfl rfl ?_
      refine v_ald (t := 0) (r := 12) (hz_X8_blame hT _ _ rfl) rfl rfl rfl (fun ha17 hb18 => ?_)
      refine v_push (4) (hz_X8_blame hT _ _ rfl) rfl ?_
      refine v_ic (hz_X8_blame hT _ _ rfl) (fun hc19 => ?_) (fun hc19 => ?_)
      · have hc19 : (h 12 ((h 10 6).2).toNat).2 = 4 := hc19
        refine v_push (1) (hz_X8_blame hT _ _ rfl) rfl ?_
        refine v_goto (hz_X8_blame hT _ _ rfl) ?_
        refine v_putf (r := 10) hO (hz_X8_blame hT _ _ rfl) rfl (fun hf20 => ?_)
        refine v_load (v := (2, 10)) (hz_X8_blame hT _ _ rfl) rfl rfl ?_
        refine v_load (v := (2, 10)) (hz_X8_blame hT _ _ rfl) rfl rfl ?_
        refine v_getR (c := 13) (r := 10) (hz_X8_blame hT _ _ rfl) rfl rfl rfl ?_
        refine v_load (v := (2, 10)) (hz_X8_blame hT _ _ rfl) rfl rfl ?_
        refine v_getf (v := (0, (h 10 6).2)) (r := 10) (hz_X8_blame hT _ _ rfl) rfl rfl (fun hv_ => Eq.trans (zset_ne (fun c => absurd c.2 (by decide))) (hv0.at rfl)) ?_
        refine v_aldE (t := 0) (r := 13) (w := (h 13 ((h 10 6).2).toNat).2) (hz_X8_blame hT _ _ rfl) rfl rfl rfl (congrArg Prod.snd (zset_ne (fun c => absurd c.1 (by decide)))) (fun ha21 hb22 => ?_)
        refine v_putf (r := 10) hO (hz_X8_blame hT _ _ rfl) rfl (fun hf23 => ?_)
        refine v_push (0) (hz_X8_blame hT _ _ rfl) rfl ?_
        refine v_ret (hz_X8_blame hT _ _ rfl) (Or.inl rfl) ?_
        show vP D T N 125 13 (zset (zset h 10 7 (0, 1)) 10 8 (0, (h 13 ((h 10 6).2).toNat).2)) [some (2, 10), some (0, w)] [(0, 0)] _
        refine v_ret (hz_X8_takeWord hT _ _ rfl) (Or.inl rfl) ?_
        exact k4 ha1 hb2 hc3 hc6 hc19
      · have hc19 : (h 12 ((h 10 6).2).toNat).2 ≠ 4 := hc19
        refine v_load (v := (0, 2)) (hz_X8_blame hT _ _ rfl) rfl rfl ?_
        refine v_putf (r := 10) hO (hz_X8_blame hT _ _ rfl) rfl (fun hf24 => ?_)
        refine v_load (v := (2, 10)) (hz_X8_blame hT _ _ rfl) rfl rfl ?_
        refine v_load (v := (2, 10)) (hz_X8_blame hT _ _ rfl) rfl rfl ?_
        refine v_getR (c := 13) (r := 10) (hz_X8_blame hT _ _ rfl) rfl rfl rfl ?_
        refine v_load (v := (2, 10)) (hz_X8_blame hT _ _ rfl) rfl rfl ?_
        refine v_getf (v := (0, (h 10 6).2)) (r := 10) (hz_X8_blame hT _ _ rfl) rfl rfl (fun hv_ => Eq.trans (zset_ne (fun c => absurd c.2 (by decide))) (hv0.at rfl)) ?_
        refine v_aldE (t := 0) (r := 13) (w := (h 13 ((h 10 6).2).toNat).2) (hz_X8_blame hT _ _ rfl) rfl rfl rfl (congrArg Prod.snd (zset_ne (fun c => absurd c.1 (by decide)))) (fun ha25 hb26 => ?_)
        refine v_putf (r := 10) hO (hz_X8_blame hT _ _ rfl) rfl (fun hf27 => ?_)
        refine v_push (0) (hz_X8_blame hT _ _ rfl) rfl ?_
        refine v_ret (hz_X8_blame hT _ _ rfl) (Or.inl rfl) ?_
        show vP D T N 125 13 (zset (zset h 10 7 (0, 2)) 10 8 (0, (h 13 ((h 10 6).2).toNat).2)) [some (2, 10), some (0, w)] [(0, 0)] _
        refine v_ret (hz_X8_takeWord hT _ _ rfl) (Or.inl rfl) ?_
        exact k5 ha1 hb2 hc3 hc6 hc19
  · have hc3 : (h 12 ((h 10 6).2).toNat).2 ≠ 1 := hc3
    refine v_push (0) (hz_X8_isWord hT _ _ rfl) rfl ?_
    refine v_ret (hz_X8_isWord hT _ _ rfl) (Or.inl rfl) ?_
    show vP D T N 125 5 h [some (2, 10), some (0, w)] [(0, 0)] _
    refine v_if (hz_X8_takeWord hT _ _ rfl) (fun _ => ?_) (fun hc28 => absurd (show (0 : Int) = 0 from (by decide)) hc28)
    refine v_load (v := (2, 10)) (hz_X8_takeWord hT _ _ rfl) rfl rfl ?_
    refine v_push (2) (hz_X8_takeWord hT _ _ rfl) rfl ?_
    refine v_call (w := 2) [some (2, 10), some (0, 2)] hO (hz_X8_takeWord hT _ _ rfl) rfl rfl ?_
    refine v_load (v := (2, 10)) (hz_X8_blame hT _ _ rfl) rfl rfl ?_
    refine v_load (v := (2, 10)) (hz_X8_blame hT _ _ rfl) rfl rfl ?_
    refine v_getR (c := 12) (r := 10) (hz_X8_blame hT _ _ rfl) rfl rfl rfl ?_
    refine v_load (v := (2, 10)) (hz_X8_blame hT _ _ rfl) rfl rfl ?_
    refine v_getI (t := 0) (r := 10) (hz_X8_blame hT _ _ rfl) rfl rfl rfl ?_
    refine v_ald (t := 0) (r := 12) (hz_X8_blame hT _ _ rfl) rfl rfl rfl (fun ha29 hb30 => ?_)
    refine v_push (4) (hz_X8_blame hT _ _ rfl) rfl ?_
    refine v_ic (hz_X8_blame hT _ _ rfl) (fun hc31 => ?_) (fun hc31 => ?_)
    · have hc31 : (h 12 ((h 10 6).2).toNat).2 = 4 := hc31
      refine v_push (1) (hz_X8_blame hT _ _ rfl) rfl ?_
      refine v_goto (hz_X8_blame hT _ _ rfl) ?_
      refine v_putf (r := 10) hO (hz_X8_blame hT _ _ rfl) rfl (fun hf32 => ?_)
      refine v_load (v := (2, 10)) (hz_X8_blame hT _ _ rfl) rfl rfl ?_
      refine v_load (v := (2, 10)) (hz_X8_blame hT _ _ rfl) rfl rfl ?_
      refine v_getR (c := 13) (r := 10) (hz_X8_blame hT _ _ rfl) rfl rfl rfl ?_
      refine v_load (v := (2, 10)) (hz_X8_blame hT _ _ rfl) rfl rfl ?_
      refine v_getf (v := (0, (h 10 6).2)) (r := 10) (hz_X8_blame hT _ _ rfl) rfl rfl (fun hv_ => Eq.trans (zset_ne (fun c => absurd c.2 (by decide))) (hv0.at rfl)) ?_
      refine v_aldE (t := 0) (r := 13) (w := (h 13 ((h 10 6).2).toNat).2) (hz_X8_blame hT _ _ rfl) rfl rfl rfl (congrArg Prod.snd (zset_ne (fun c => absurd c.1 (by decide)))) (fun ha33 hb34 => ?_)
      refine v_putf (r := 10) hO (hz_X8_blame hT _ _ rfl) rfl (fun hf35 => ?_)
      refine v_push (0) (hz_X8_blame hT _ _ rfl) rfl ?_
      refine v_ret (hz_X8_blame hT _ _ rfl) (Or.inl rfl) ?_
      show vP D T N 125 13 (zset (zset h 10 7 (0, 1)) 10 8 (0, (h 13 ((h 10 6).2).toNat).2)) [some (2, 10), some (0, w)] [(0, 0)] _
      refine v_ret (hz_X8_takeWord hT _ _ rfl) (Or.inl rfl) ?_
      exact k6 ha1 hb2 hc3 hc31
    · have hc31 : (h 12 ((h 10 6).2).toNat).2 ≠ 4 := hc31
      refine v_load (v := (0, 2)) (hz_X8_blame hT _ _ rfl) rfl rfl ?_
      refine v_putf (r := 10) hO (hz_X8_blame hT _ _ rfl) rfl (fun hf36 => ?_)
      refine v_load (v := (2, 10)) (hz_X8_blame hT _ _ rfl) rfl rfl ?_
      refine v_load (v := (2, 10)) (hz_X8_blame hT _ _ rfl) rfl rfl ?_
      refine v_getR (c := 13) (r := 10) (hz_X8_blame hT _ _ rfl) rfl rfl rfl ?_
      refine v_load (v := (2, 10)) (hz_X8_blame hT _ _ rfl) rfl rfl ?_
      refine v_getf (v := (0, (h 10 6).2)) (r := 10) (hz_X8_blame hT _ _ rfl) rfl rfl (fun hv_ => Eq.trans (zset_ne (fun c => absurd c.2 (by decide))) (hv0.at rfl)) ?_
      refine v_aldE (t := 0) (r := 13) (w := (h 13 ((h 10 6).2).toNat).2) (hz_X8_blame hT _ _ rfl) rfl rfl rfl (congrArg Prod.snd (zset_ne (fun c => absurd c.1 (by decide)))) (fun ha37 hb38 => ?_)
      refine v_putf (r := 10) hO (hz_X8_blame hT _ _ rfl) rfl (fun hf39 => ?_)
      refine v_push (0) (hz_X8_blame hT _ _ rfl) rfl ?_
      refine v_ret (hz_X8_blame hT _ _ rfl) (Or.inl rfl) ?_
      show vP D T N 125 13 (zset (zset h 10 7 (0, 2)) 10 8 (0, (h 13 ((h 10 6).2).toNat).2)) [some (2, 10), some (0, w)] [(0, 0)] _
      refine v_ret (hz_X8_takeWord hT _ _ rfl) (Or.inl rfl) ?_
      exact k7 ha1 hb2 hc3 hc31
theorem q_tstop {D : zD} {T : zT} (hT : hTab T) (hO : vOK T) {N : Nat} {h : zH} {Q : zR → Prop}  (hv0 : zHv h)
    (k0 : (0 ≤ (h 10 6).2) → ((h 10 6).2 < 901) → ((h 12 ((h 10 6).2).toNat).2 = 3) → ((h 15 ((h 10 6).2).toNat).2 = 59) → ((h 10 6).2 < 900) → ((h 12 ((h 10 6).2).toNat).2 = 0) → Q (h, some (0, 1)))
    (k1 : (0 ≤ (h 10 6).2) → ((h 10 6).2 < 901) → ((h 12 ((h 10 6).2).toNat).2 = 3) → ((h 15 ((h 10 6).2).toNat).2 = 59) → ((h 10 6).2 < 900) → ((h 12 ((h 10 6).2).toNat).2 ≠ 0) → ((h 12 ((h 10 6).2).toNat).2 = 4) → Q (h, some (0, 1)))
    (k2 : (0 ≤ (h 10 6).2) → ((h 10 6).2 < 901) → ((h 12 ((h 10 6).2).toNat).2 = 3) → ((h 15 ((h 10 6).2).toNat).2 = 59) → ((h 10 6).2 < 900) → ((h 12 ((h 10 6).2).toNat).2 ≠ 0) → ((h 12 ((h 10 6).2).toNat).2 ≠ 4) → Q (zset h 10 6 (0, ((h 10 6).2 + 1)), some (0, 1)))
    (k3 : (0 ≤ (h 10 6).2) → ((h 10 6).2 < 901) → ((h 12 ((h 10 6).2).toNat).2 = 3) → ((h 15 ((h 10 6).2).toNat).2 = 59) → (900 ≤ (h 10 6).2) → Q (h, some (0, 1)))
    (k4 : (0 ≤ (h 10 6).2) → ((h 10 6).2 < 901) → ((h 12 ((h 10 6).2).toNat).2 = 3) → ((h 15 ((h 10 6).2).toNat).2 ≠ 59) → ((h 12 ((h 10 6).2).toNat).2 = 4) → Q (zset (zset h 10 7 (0, 1)) 10 8 (0, (h 13 ((h 10 6).2).toNat).2), some (0, 0)))
    (k5 : (0 ≤ (h 10 6).2) → ((h 10 6).2 < 901) → ((h 12 ((h 10 6).2).toNat).2 = 3) → ((h 15 ((h 10 6).2).toNat).2 ≠ 59) → ((h 12 ((h 10 6).2).toNat).2 ≠ 4) → Q (zset (zset h 10 7 (0, 2)) 10 8 (0, (h 13 ((h 10 6).2).toNat).2), some (0, 0)))
    (k6 : (0 ≤ (h 10 6).2) → ((h 10 6).2 < 901) → ((h 12 ((h 10 6).2).toNat).2 ≠ 3) → ((h 12 ((h 10 6).2).toNat).2 = 4) → Q (zset (zset h 10 7 (0, 1)) 10 8 (0, (h 13 ((h 10 6).2).toNat).2), some (0, 0)))
    (k7 : (0 ≤ (h 10 6).2) → ((h 10 6).2 < 901) → ((h 12 ((h 10 6).2).toNat).2 ≠ 3) → ((h 12 ((h 10 6).2).toNat).2 ≠ 4) → Q (zset (zset h 10 7 (0, 2)) 10 8 (0, (h 13 ((h 10 6).2).toNat).2), some (0, 0))) :
    vP D T N 124 0 h [some (2, 10)] [] Q := by
  refine v_load (v := (2, 10)) (hz_X8_takeStop hT _ _ rfl) rfl rfl ?_
  refine v_getR (c := 12) (r := 10) (hz_X8_takeStop hT _ _ rfl) rfl rfl rfl ?_
  refine v_load (v := (2, 10)) (hz_X8_takeStop hT _ _ rfl) rfl rfl ?_
  refine v_getI (t := 0) (r := 10) (hz_X8_takeStop hT _ _ rfl) rfl rfl rfl ?_
  refine v_ald (t := 0) (r := 12) (hz_X8_takeStop hT _ _ rfl) rfl rfl rfl (fun ha1 hb2 => ?_)
  refine v_push (3) (hz_X8_takeStop hT _ _ rfl) rfl ?_
  refine v_ic (hz_X8_takeStop hT _ _ rfl) (fun hc3 => ?_) (fun hc3 => ?_)
  · have hc3 : (h 12 ((h 10 6).2).toNat).2 = 3 := hc3
    refine v_load (v := (2, 10)) (hz_X8_takeStop hT _ _ rfl) rfl rfl ?_
    refine v_getR (c := 15) (r := 10) (hz_X8_takeStop hT _ _ rfl) rfl rfl rfl ?_
    refine v_load (v := (2, 10)) (hz_X8_takeStop hT _ _ rfl) rfl rfl ?_
    refine v_getI (t := 0) (r := 10) (hz_X8_takeStop hT _ _ rfl) rfl rfl rfl ?_
    refine v_ald (t := 0) (r := 15) (hz_X8_takeStop hT _ _ rfl) rfl rfl rfl (fun ha4 hb5 => ?_)
    refine v_push (59) (hz_X8_takeStop hT _ _ rfl) rfl ?_
    refine v_ic (hz_X8_takeStop hT _ _ rfl) (fun hc6 => ?_) (fun hc6 => ?_)
    · have hc6 : (h 15 ((h 10 6).2).toNat).2 = 59 := hc6
      refine v_load (v := (2, 10)) (hz_X8_takeStop hT _ _ rfl) rfl rfl ?_
      refine v_call (w := 1) [some (2, 10)] hO (hz_X8_takeStop hT _ _ rfl) rfl rfl ?_
      refine v_load (v := (2, 10)) (hz_X8_advance hT _ _ rfl) rfl rfl ?_
      refine v_getI (t := 0) (r := 10) (hz_X8_advance hT _ _ rfl) rfl rfl rfl ?_
      refine v_push (900) (hz_X8_advance hT _ _ rfl) rfl ?_
      refine v_ic (hz_X8_advance hT _ _ rfl) (fun hc7 => ?_) (fun hc7 => ?_)
      · have hc7 : (h 10 6).2 < 900 := hc7
        refine v_load (v := (2, 10)) (hz_X8_advance hT _ _ rfl) rfl rfl ?_
        refine v_getR (c := 12) (r := 10) (hz_X8_advance hT _ _ rfl) rfl rfl rfl ?_
        refine v_load (v := (2, 10)) (hz_X8_advance hT _ _ rfl) rfl rfl ?_
        refine v_getI (t := 0) (r := 10) (hz_X8_advance hT _ _ rfl) rfl rfl rfl ?_
        refine v_ald (t := 0) (r := 12) (hz_X8_advance hT _ _ rfl) rfl rfl rfl (fun ha8 hb9 => ?_)
        refine v_if (hz_X8_advance hT _ _ rfl) (fun hc10 => ?_) (fun hc10 => ?_)
        · have hc10 : (h 12 ((h 10 6).2).toNat).2 = 0 := hc10
          refine v_ret0 (hz_X8_advance hT _ _ rfl) ?_
          show vP D T N 124 37 h [some (2, 10)] [] _
          refine v_push (1) (hz_X8_takeStop hT _ _ rfl) rfl ?_
          refine v_ret (hz_X8_takeStop hT _ _ rfl) (Or.inl rfl) ?_
          exact k0 ha1 hb2 hc3 hc6 hc7 hc10
        · have hc10 : (h 12 ((h 10 6).2).toNat).2 ≠ 0 := hc10
          refine v_load (v := (2, 10)) (hz_X8_advance hT _ _ rfl) rfl rfl ?_
          refine v_getR (c := 12) (r := 10) (hz_X8_advance hT _ _ rfl) rfl rfl rfl ?_
          refine v_load (v := (2, 10)) (hz_X8_advance hT _ _ rfl) rfl rfl ?_
          refine v_getI (t := 0) (r := 10) (hz_X8_advance hT _ _ rfl) rfl rfl rfl ?_
          refine v_ald (t := 0) (r := 12) (hz_X8_advance hT _ _ rfl) rfl rfl rfl (fun ha11 hb12 => ?_)
          refine v_push (4) (hz_X8_advance hT _ _ rfl) rfl ?_
          refine v_ic (hz_X8_advance hT _ _ rfl) (fun hc13 => ?_) (fun hc13 => ?_)
          · have hc13 : (h 12 ((h 10 6).2).toNat).2 = 4 := hc13
            refine v_ret0 (hz_X8_advance hT _ _ rfl) ?_
            show vP D T N 124 37 h [some (2, 10)] [] _
            refine v_push (1) (hz_X8_takeStop hT _ _ rfl) rfl ?_
            refine v_ret (hz_X8_takeStop hT _ _ rfl) (Or.inl rfl) ?_
            exact k1 ha1 hb2 hc3 hc6 hc7 hc10 hc13
          · have hc13 : (h 12 ((h 10 6).2).toNat).2 ≠ 4 := hc13
            refine v_load (v := (2, 10)) (hz_X8_advance hT _ _ rfl) rfl rfl ?_
            refine v_dup (hz_X8_advance hT _ _ rfl) (Nat.ne_of_beq_eq_false rfl) ?_
            refine v_getI (t := 0) (r := 10) (hz_X8_advance hT _ _ rfl) rfl rfl rfl ?_
            refine v_push (1) (hz_X8_advance hT _ _ rfl) rfl ?_
            refine v_bin (w := ((h 10 6).2 + 1)) (hz_X8_advance hT _ _ rfl) (hq_add (by omega) (by omega)) ?_
            refine v_putf (r := 10) hO (hz_X8_advance hT _ _ rfl) rfl (fun hf14 => ?_)
            refine v_ret0 (hz_X8_advance hT _ _ rfl) ?_
            show vP D T N 124 37 (zset h 10 6 (0, ((h 10 6).2 + 1))) [some (2, 10)] [] _
            refine v_push (1) (hz_X8_takeStop hT _ _ rfl) rfl ?_
            refine v_ret (hz_X8_takeStop hT _ _ rfl) (Or.inl rfl) ?_
            exact k2 ha1 hb2 hc3 hc6 hc7 hc10 hc13
      · have hc7 : 900 ≤ (h 10 6).2 := Int.not_lt.mp hc7
        refine v_ret0 (hz_X8_advance hT _ _ rfl) ?_
        show vP D T N 124 37 h [some (2, 10)] [] _
        refine v_push (1) (hz_X8_takeStop hT _ _ rfl) rfl ?_
        refine v_ret (hz_X8_takeStop hT _ _ rfl) (Or.inl rfl) ?_
        exact k3 ha1 hb2 hc3 hc6 hc7
    · have hc6 : (h 15 ((h 10 6).2).toNat).2 ≠ 59 := hc6
      refine v_load (v := (2, 10)) (hz_X8_takeStop hT _ _ rfl) rfl rfl ?_
      refine v_push (2) (hz_X8_takeStop hT _ _ rfl) rfl ?_
      refine v_call (w := 2) [some (2, 10), some (0, 2)] hO (hz_X8_takeStop hT _ _ rfl) rfl rfl ?_
      refine v_load (v := (2, 10)) (hz_X8_blame hT _ _ rfl) rfl rfl ?_
      refine v_load (v := (2, 10)) (hz_X8_blame hT _ _ rfl) rfl rfl ?_
      refine v_getR (c := 12) (r := 10) (hz_X8_blame hT _ _ rfl) rfl rfl rfl ?_
      refine v_load (v := (2, 10)) (hz_X8_blame hT _ _ rfl) rfl rfl ?_
      refine v_getI (t := 0) (r := 10) (hz_X8_blame hT _ _ rfl) rfl rfl rfl ?_
      refine v_ald (t := 0) (r := 12) (hz_X8_blame hT _ _ rfl) rfl rfl rfl (fun ha15 hb16 => ?_)
      refine v_push (4) (hz_X8_blame hT _ _ rfl) rfl ?_
      refine v_ic (hz_X8_blame hT _ _ rfl) (fun hc17 => ?_) (fun hc17 => ?_)
      · have hc17 : (h 12 ((h 10 6).2).toNat).2 = 4 := hc17
        refine v_push (1) (hz_X8_blame hT _ _ rfl) rfl ?_
        refine v_goto (hz_X8_blame hT _ _ rfl) ?_
        refine v_putf (r := 10) hO (hz_X8_blame hT _ _ rfl) rfl (fun hf18 => ?_)
        refine v_load (v := (2, 10)) (hz_X8_blame hT _ _ rfl) rfl rfl ?_
        refine v_load (v := (2, 10)) (hz_X8_blame hT _ _ rfl) rfl rfl ?_
        refine v_getR (c := 13) (r := 10) (hz_X8_blame hT _ _ rfl) rfl rfl rfl ?_
        refine v_load (v := (2, 10)) (hz_X8_blame hT _ _ rfl) rfl rfl ?_
        refine v_getf (v := (0, (h 10 6).2)) (r := 10) (hz_X8_blame hT _ _ rfl) rfl rfl (fun hv_ => Eq.trans (zset_ne (fun c => absurd c.2 (by decide))) (hv0.at rfl)) ?_
        refine v_aldE (t := 0) (r := 13) (w := (h 13 ((h 10 6).2).toNat).2) (hz_X8_blame hT _ _ rfl) rfl rfl rfl (congrArg Prod.snd (zset_ne (fun c => absurd c.1 (by decide)))) (fun ha19 hb20 => ?_)
        refine v_putf (r := 10) hO (hz_X8_blame hT _ _ rfl) rfl (fun hf21 => ?_)
        refine v_push (0) (hz_X8_blame hT _ _ rfl) rfl ?_
        refine v_ret (hz_X8_blame hT _ _ rfl) (Or.inl rfl) ?_
        show vP D T N 124 32 (zset (zset h 10 7 (0, 1)) 10 8 (0, (h 13 ((h 10 6).2).toNat).2)) [some (2, 10)] [(0, 0)] _
        refine v_ret (hz_X8_takeStop hT _ _ rfl) (Or.inl rfl) ?_
        exact k4 ha1 hb2 hc3 hc6 hc17
      · have hc17 : (h 12 ((h 10 6).2).toNat).2 ≠ 4 := hc17
        refine v_load (v := (0, 2)) (hz_X8_blame hT _ _ rfl) rfl rfl ?_
        refine v_putf (r := 10) hO (hz_X8_blame hT _ _ rfl) rfl (fun hf22 => ?_)
        refine v_load (v := (2, 10)) (hz_X8_blame hT _ _ rfl) rfl rfl ?_
        refine v_load (v := (2, 10)) (hz_X8_blame hT _ _ rfl) rfl rfl ?_
        refine v_getR (c := 13) (r := 10) (hz_X8_blame hT _ _ rfl) rfl rfl rfl ?_
        refine v_load (v := (2, 10)) (hz_X8_blame hT _ _ rfl) rfl rfl ?_
        refine v_getf (v := (0, (h 10 6).2)) (r := 10) (hz_X8_blame hT _ _ rfl) rfl rfl (fun hv_ => Eq.trans (zset_ne (fun c => absurd c.2 (by decide))) (hv0.at rfl)) ?_
        refine v_aldE (t := 0) (r := 13) (w := (h 13 ((h 10 6).2).toNat).2) (hz_X8_blame hT _ _ rfl) rfl rfl rfl (congrArg Prod.snd (zset_ne (fun c => absurd c.1 (by decide)))) (fun ha23 hb24 => ?_)
        refine v_putf (r := 10) hO (hz_X8_blame hT _ _ rfl) rfl (fun hf25 => ?_)
        refine v_push (0) (hz_X8_blame hT _ _ rfl) rfl ?_
        refine v_ret (hz_X8_blame hT _ _ rfl) (Or.inl rfl) ?_
        show vP D T N 124 32 (zset (zset h 10 7 (0, 2)) 10 8 (0, (h 13 ((h 10 6).2).toNat).2)) [some (2, 10)] [(0, 0)] _
        refine v_ret (hz_X8_takeStop hT _ _ rfl) (Or.inl rfl) ?_
        exact k5 ha1 hb2 hc3 hc6 hc17
  · have hc3 : (h 12 ((h 10 6).2).toNat).2 ≠ 3 := hc3
    refine v_load (v := (2, 10)) (hz_X8_takeStop hT _ _ rfl) rfl rfl ?_
    refine v_push (2) (hz_X8_takeStop hT _ _ rfl) rfl ?_
    refine v_call (w := 2) [some (2, 10), some (0, 2)] hO (hz_X8_takeStop hT _ _ rfl) rfl rfl ?_
    refine v_load (v := (2, 10)) (hz_X8_blame hT _ _ rfl) rfl rfl ?_
    refine v_load (v := (2, 10)) (hz_X8_blame hT _ _ rfl) rfl rfl ?_
    refine v_getR (c := 12) (r := 10) (hz_X8_blame hT _ _ rfl) rfl rfl rfl ?_
    refine v_load (v := (2, 10)) (hz_X8_blame hT _ _ rfl) rfl rfl ?_
    refine v_getI (t := 0) (r := 10) (hz_X8_blame hT _ _ rfl) rfl rfl rfl ?_
    refine v_ald (t := 0) (r := 12) (hz_X8_blame hT _ _ rfl) rfl rfl rfl (fun ha26 hb27 => ?_)
    refine v_push (4) (hz_X8_blame hT _ _ rfl) rfl ?_
    refine v_ic (hz_X8_blame hT _ _ rfl) (fun hc28 => ?_) (fun hc28 => ?_)
    · have hc28 : (h 12 ((h 10 6).2).toNat).2 = 4 := hc28
      refine v_push (1) (hz_X8_blame hT _ _ rfl) rfl ?_
      refine v_goto (hz_X8_blame hT _ _ rfl) ?_
      refine v_putf (r := 10) hO (hz_X8_blame hT _ _ rfl) rfl (fun hf29 => ?_)
      refine v_load (v := (2, 10)) (hz_X8_blame hT _ _ rfl) rfl rfl ?_
      refine v_load (v := (2, 10)) (hz_X8_blame hT _ _ rfl) rfl rfl ?_
      refine v_getR (c := 13) (r := 10) (hz_X8_blame hT _ _ rfl) rfl rfl rfl ?_
      refine v_load (v := (2, 10)) (hz_X8_blame hT _ _ rfl) rfl rfl ?_
      refine v_getf (v := (0, (h 10 6).2)) (r := 10) (hz_X8_blame hT _ _ rfl) rfl rfl (fun hv_ => Eq.trans (zset_ne (fun c => absurd c.2 (by decide))) (hv0.at rfl)) ?_
      refine v_aldE (t := 0) (r := 13) (w := (h 13 ((h 10 6).2).toNat).2) (hz_X8_blame hT _ _ rfl) rfl rfl rfl (congrArg Prod.snd (zset_ne (fun c => absurd c.1 (by decide)))) (fun ha30 hb31 => ?_)
      refine v_putf (r := 10) hO (hz_X8_blame hT _ _ rfl) rfl (fun hf32 => ?_)
      refine v_push (0) (hz_X8_blame hT _ _ rfl) rfl ?_
      refine v_ret (hz_X8_blame hT _ _ rfl) (Or.inl rfl) ?_
      show vP D T N 124 32 (zset (zset h 10 7 (0, 1)) 10 8 (0, (h 13 ((h 10 6).2).toNat).2)) [some (2, 10)] [(0, 0)] _
      refine v_ret (hz_X8_takeStop hT _ _ rfl) (Or.inl rfl) ?_
      exact k6 ha1 hb2 hc3 hc28
    · have hc28 : (h 12 ((h 10 6).2).toNat).2 ≠ 4 := hc28
      refine v_load (v := (0, 2)) (hz_X8_blame hT _ _ rfl) rfl rfl ?_
      refine v_putf (r := 10) hO (hz_X8_blame hT _ _ rfl) rfl (fun hf33 => ?_)
      refine v_load (v := (2, 10)) (hz_X8_blame hT _ _ rfl) rfl rfl ?_
      refine v_load (v := (2, 10)) (hz_X8_blame hT _ _ rfl) rfl rfl ?_
      refine v_getR (c := 13) (r := 10) (hz_X8_blame hT _ _ rfl) rfl rfl rfl ?_
      refine v_load (v := (2, 10)) (hz_X8_blame hT _ _ rfl) rfl rfl ?_
      refine v_getf (v := (0, (h 10 6).2)) (r := 10) (hz_X8_blame hT _ _ rfl) rfl rfl (fun hv_ => Eq.trans (zset_ne (fun c => absurd c.2 (by decide))) (hv0.at rfl)) ?_
      refine v_aldE (t := 0) (r := 13) (w := (h 13 ((h 10 6).2).toNat).2) (hz_X8_blame hT _ _ rfl) rfl rfl rfl (congrArg Prod.snd (zset_ne (fun c => absurd c.1 (by decide)))) (fun ha34 hb35 => ?_)
      refine v_putf (r := 10) hO (hz_X8_blame hT _ _ rfl) rfl (fun hf36 => ?_)
      refine v_push (0) (hz_X8_blame hT _ _ rfl) rfl ?_
      refine v_ret (hz_X8_blame hT _ _ rfl) (Or.inl rfl) ?_
      show vP D T N 124 32 (zset (zset h 10 7 (0, 2)) 10 8 (0, (h 13 ((h 10 6).2).toNat).2)) [some (2, 10)] [(0, 0)] _
      refine v_ret (hz_X8_takeStop hT _ _ rfl) (Or.inl rfl) ?_
      exact k7 ha1 hb2 hc3 hc28
theorem q_tnum {D : zD} {T : zT} (hT : hTab T) (hO : vOK T) {N : Nat} {h : zH} {Q : zR → Prop} (u v : Int) (hv0 : zHv h)
    (k0 : (0 ≤ (h 10 6).2) → ((h 10 6).2 < 901) → ((h 12 ((h 10 6).2).toNat).2 = 2) → ((h 15 ((h 10 6).2).toNat).2 < u) → ((h 12 ((h 10 6).2).toNat).2 = 4) → Q (zset (zset h 10 7 (0, 1)) 10 8 (0, (h 13 ((h 10 6).2).toNat).2), some (0, -1)))
    (k1 : (0 ≤ (h 10 6).2) → ((h 10 6).2 < 901) → ((h 12 ((h 10 6).2).toNat).2 = 2) → ((h 15 ((h 10 6).2).toNat).2 < u) → ((h 12 ((h 10 6).2).toNat).2 ≠ 4) → Q (zset (zset h 10 7 (0, 4)) 10 8 (0, (h 13 ((h 10 6).2).toNat).2), some (0, -1)))
    (k2 : (0 ≤ (h 10 6).2) → ((h 10 6).2 < 901) → ((h 12 ((h 10 6).2).toNat).2 = 2) → (u ≤ (h 15 ((h 10 6).2).toNat).2) → (v < (h 15 ((h 10 6).2).toNat).2) → ((h 12 ((h 10 6).2).toNat).2 = 4) → Q (zset (zset h 10 7 (0, 1)) 10 8 (0, (h 13 ((h 10 6).2).toNat).2), some (0, -1)))
    (k3 : (0 ≤ (h 10 6).2) → ((h 10 6).2 < 901) → ((h 12 ((h 10 6).2).toNat).2 = 2) → (u ≤ (h 15 ((h 10 6).2).toNat).2) → (v < (h 15 ((h 10 6).2).toNat).2) → ((h 12 ((h 10 6).2).toNat).2 ≠ 4) → Q (zset (zset h 10 7 (0, 4)) 10 8 (0, (h 13 ((h 10 6).2).toNat).2), some (0, -1)))
    (k4 : (0 ≤ (h 10 6).2) → ((h 10 6).2 < 901) → ((h 12 ((h 10 6).2).toNat).2 = 2) → (u ≤ (h 15 ((h 10 6).2).toNat).2) → ((h 15 ((h 10 6).2).toNat).2 ≤ v) → ((h 10 6).2 < 900) → ((h 12 ((h 10 6).2).toNat).2 = 0) → Q (h, some (0, (h 15 ((h 10 6).2).toNat).2)))
    (k5 : (0 ≤ (h 10 6).2) → ((h 10 6).2 < 901) → ((h 12 ((h 10 6).2).toNat).2 = 2) → (u ≤ (h 15 ((h 10 6).2).toNat).2) → ((h 15 ((h 10 6).2).toNat).2 ≤ v) → ((h 10 6).2 < 900) → ((h 12 ((h 10 6).2).toNat).2 ≠ 0) → ((h 12 ((h 10 6).2).toNat).2 = 4) → Q (h, some (0, (h 15 ((h 10 6).2).toNat).2)))
    (k6 : (0 ≤ (h 10 6).2) → ((h 10 6).2 < 901) → ((h 12 ((h 10 6).2).toNat).2 = 2) → (u ≤ (h 15 ((h 10 6).2).toNat).2) → ((h 15 ((h 10 6).2).toNat).2 ≤ v) → ((h 10 6).2 < 900) → ((h 12 ((h 10 6).2).toNat).2 ≠ 0) → ((h 12 ((h 10 6).2).toNat).2 ≠ 4) → Q (zset h 10 6 (0, ((h 10 6).2 + 1)), some (0, (h 15 ((h 10 6).2).toNat).2)))
    (k7 : (0 ≤ (h 10 6).2) → ((h 10 6).2 < 901) → ((h 12 ((h 10 6).2).toNat).2 = 2) → (u ≤ (h 15 ((h 10 6).2).toNat).2) → ((h 15 ((h 10 6).2).toNat).2 ≤ v) → (900 ≤ (h 10 6).2) → Q (h, some (0, (h 15 ((h 10 6).2).toNat).2)))
    (k8 : (0 ≤ (h 10 6).2) → ((h 10 6).2 < 901) → ((h 12 ((h 10 6).2).toNat).2 ≠ 2) → ((h 12 ((h 10 6).2).toNat).2 = 4) → Q (zset (zset h 10 7 (0, 1)) 10 8 (0, (h 13 ((h 10 6).2).toNat).2), some (0, -1)))
    (k9 : (0 ≤ (h 10 6).2) → ((h 10 6).2 < 901) → ((h 12 ((h 10 6).2).toNat).2 ≠ 2) → ((h 12 ((h 10 6).2).toNat).2 ≠ 4) → Q (zset (zset h 10 7 (0, 2)) 10 8 (0, (h 13 ((h 10 6).2).toNat).2), some (0, -1))) :
    vP D T N 123 0 h [some (2, 10), some (0, u), some (0, v), none] [] Q := by
  refine v_load (v := (2, 10)) (hz_X8_takeNumber hT _ _ rfl) rfl rfl ?_
  refine v_getR (c := 15) (r := 10) (hz_X8_takeNumber hT _ _ rfl) rfl rfl rfl ?_
  refine v_load (v := (2, 10)) (hz_X8_takeNumber hT _ _ rfl) rfl rfl ?_
  refine v_getI (t := 0) (r := 10) (hz_X8_takeNumber hT _ _ rfl) rfl rfl rfl ?_
  refine v_ald (t := 0) (r := 15) (hz_X8_takeNumber hT _ _ rfl) rfl rfl rfl (fun ha1 hb2 => ?_)
  refine v_store1 [some (2, 10), some (0, u), some (0, v), some (0, (h 15 ((h 10 6).2).toNat).2)] (hz_X8_takeNumber hT _ _ rfl) ⟨rfl, Nat.ne_of_beq_eq_false rfl⟩ (Nat.le_of_ble_eq_true rfl) rfl ?_
  refine v_load (v := (2, 10)) (hz_X8_takeNumber hT _ _ rfl) rfl rfl ?_
  refine v_getR (c := 12) (r := 10) (hz_X8_takeNumber hT _ _ rfl) rfl rfl rfl ?_
  refine v_load (v := (2, 10)) (hz_X8_takeNumber hT _ _ rfl) rfl rfl ?_
  refine v_getI (t := 0) (r := 10) (hz_X8_takeNumber hT _ _ rfl) rfl rfl rfl ?_
  refine v_ald (t := 0) (r := 12) (hz_X8_takeNumber hT _ _ rfl) rfl rfl rfl (fun ha3 hb4 => ?_)
  refine v_push (2) (hz_X8_takeNumber hT _ _ rfl) rfl ?_
  refine v_ic (hz_X8_takeNumber hT _ _ rfl) (fun hc5 => ?_) (fun hc5 => ?_)
  · have hc5 : (h 12 ((h 10 6).2).toNat).2 = 2 := hc5
    refine v_load (v := (0, (h 15 ((h 10 6).2).toNat).2)) (hz_X8_takeNumber hT _ _ rfl) rfl rfl ?_
    refine v_load (v := (0, u)) (hz_X8_takeNumber hT _ _ rfl) rfl rfl ?_
    refine v_ic (hz_X8_takeNumber hT _ _ rfl) (fun hc6 => ?_) (fun hc6 => ?_)
    · have hc6 : (h 15 ((h 10 6).2).toNat).2 < u := hc6
      refine v_load (v := (2, 10)) (hz_X8_takeNumber hT _ _ rfl) rfl rfl ?_
      refine v_push (4) (hz_X8_takeNumber hT _ _ rfl) rfl ?_
      refine v_call (w := 2) [some (2, 10), some (0, 4)] hO (hz_X8_takeNumber hT _ _ rfl) rfl rfl ?_
      refine v_load (v := (2, 10)) (hz_X8_blame hT _ _ rfl) rfl rfl ?_
      refine v_load (v := (2, 10)) (hz_X8_blame hT _ _ rfl) rfl rfl ?_
      refine v_getR (c := 12) (r := 10) (hz_X8_blame hT _ _ rfl) rfl rfl rfl ?_
      refine v_load (v := (2, 10)) (hz_X8_blame hT _ _ rfl) rfl rfl ?_
      refine v_getI (t := 0) (r := 10) (hz_X8_blame hT _ _ rfl) rfl rfl rfl ?_
      refine v_ald (t := 0) (r := 12) (hz_X8_blame hT _ _ rfl) rfl rfl rfl (fun ha7 hb8 => ?_)
      refine v_push (4) (hz_X8_blame hT _ _ rfl) rfl ?_
      refine v_ic (hz_X8_blame hT _ _ rfl) (fun hc9 => ?_) (fun hc9 => ?_)
      · have hc9 : (h 12 ((h 10 6).2).toNat).2 = 4 := hc9
        refine v_push (1) (hz_X8_blame hT _ _ rfl) rfl ?_
        refine v_goto (hz_X8_blame hT _ _ rfl) ?_
        refine v_putf (r := 10) hO (hz_X8_blame hT _ _ rfl) rfl (fun hf10 => ?_)
        refine v_load (v := (2, 10)) (hz_X8_blame hT _ _ rfl) rfl rfl ?_
        refine v_load (v := (2, 10)) (hz_X8_blame hT _ _ rfl) rfl rfl ?_
        refine v_getR (c := 13) (r := 10) (hz_X8_blame hT _ _ rfl) rfl rfl rfl ?_
        refine v_load (v := (2, 10)) (hz_X8_blame hT _ _ rfl) rfl rfl ?_
        refine v_getf (v := (0, (h 10 6).2)) (r := 10) (hz_X8_blame hT _ _ rfl) rfl rfl (fun hv_ => Eq.trans (zset_ne (fun c => absurd c.2 (by decide))) (hv0.at rfl)) ?_
        refine v_aldE (t := 0) (r := 13) (w := (h 13 ((h 10 6).2).toNat).2) (hz_X8_blame hT _ _ rfl) rfl rfl rfl (congrArg Prod.snd (zset_ne (fun c => absurd c.1 (by decide)))) (fun ha11 hb12 => ?_)
        refine v_putf (r := 10) hO (hz_X8_blame hT _ _ rfl) rfl (fun hf13 => ?_)
        refine v_push (0) (hz_X8_blame hT _ _ rfl) rfl ?_
        refine v_ret (hz_X8_blame hT _ _ rfl) (Or.inl rfl) ?_
        show vP D T N 123 46 (zset (zset h 10 7 (0, 1)) 10 8 (0, (h 13 ((h 10 6).2).toNat).2)) [some (2, 10), some (0, u), some (0, v), some (0, (h 15 ((h 10 6).2).toNat).2)] [(0, 0)] _
        refine v_pop (hz_X8_takeNumber hT _ _ rfl) (Nat.ne_of_beq_eq_false rfl) ?_
        refine v_push (-1) (hz_X8_takeNumber hT _ _ rfl) rfl ?_
        refine v_ret (hz_X8_takeNumber hT _ _ rfl) (Or.inl rfl) ?_
        exact k0 ha1 hb2 hc5 hc6 hc9
      · have hc9 : (h 12 ((h 10 6).2).toNat).2 ≠ 4 := hc9
        refine v_load (v := (0, 4)) (hz_X8_blame hT _ _ rfl) rfl rfl ?_
        refine v_putf (r := 10) hO (hz_X8_blame hT _ _ rfl) rfl (fun hf14 => ?_)
        refine v_load (v := (2, 10)) (hz_X8_blame hT _ _ rfl) rfl rfl ?_
        refine v_load (v := (2, 10)) (hz_X8_blame hT _ _ rfl) rfl rfl ?_
        refine v_getR (c := 13) (r := 10) (hz_X8_blame hT _ _ rfl) rfl rfl rfl ?_
        refine v_load (v := (2, 10)) (hz_X8_blame hT _ _ rfl) rfl rfl ?_
        refine v_getf (v := (0, (h 10 6).2)) (r := 10) (hz_X8_blame hT _ _ rfl) rfl rfl (fun hv_ => Eq.trans (zset_ne (fun c => absurd c.2 (by decide))) (hv0.at rfl)) ?_
        refine v_aldE (t := 0) (r := 13) (w := (h 13 ((h 10 6).2).toNat).2) (hz_X8_blame hT _ _ rfl) rfl rfl rfl (congrArg Prod.snd (zset_ne (fun c => absurd c.1 (by decide)))) (fun ha15 hb16 => ?_)
        refine v_putf (r := 10) hO (hz_X8_blame hT _ _ rfl) rfl (fun hf17 => ?_)
        refine v_push (0) (hz_X8_blame hT _ _ rfl) rfl ?_
        refine v_ret (hz_X8_blame hT _ _ rfl) (Or.inl rfl) ?_
        show vP D T N 123 46 (zset (zset h 10 7 (0, 4)) 10 8 (0, (h 13 ((h 10 6).2).toNat).2)) [some (2, 10), some (0, u), some (0, v), some (0, (h 15 ((h 10 6).2).toNat).2)] [(0, 0)] _
        refine v_pop (hz_X8_takeNumber hT _ _ rfl) (Nat.ne_of_beq_eq_false rfl) ?_
        refine v_push (-1) (hz_X8_takeNumber hT _ _ rfl) rfl ?_
        refine v_ret (hz_X8_takeNumber hT _ _ rfl) (Or.inl rfl) ?_
        exact k1 ha1 hb2 hc5 hc6 hc9
    · have hc6 : u ≤ (h 15 ((h 10 6).2).toNat).2 := Int.not_lt.mp hc6
      refine v_load (v := (0, (h 15 ((h 10 6).2).toNat).2)) (hz_X8_takeNumber hT _ _ rfl) rfl rfl ?_
      refine v_load (v := (0, v)) (hz_X8_takeNumber hT _ _ rfl) rfl rfl ?_
      refine v_ic (hz_X8_takeNumber hT _ _ rfl) (fun hc18 => ?_) (fun hc18 => ?_)
      · have hc18 : v < (h 15 ((h 10 6).2).toNat).2 := hc18
        refine v_load (v := (2, 10)) (hz_X8_takeNumber hT _ _ rfl) rfl rfl ?_
        refine v_push (4) (hz_X8_takeNumber hT _ _ rfl) rfl ?_
        refine v_call (w := 2) [some (2, 10), some (0, 4)] hO (hz_X8_takeNumber hT _ _ rfl) rfl rfl ?_
        refine v_load (v := (2, 10)) (hz_X8_blame hT _ _ rfl) rfl rfl ?_
        refine v_load (v := (2, 10)) (hz_X8_blame hT _ _ rfl) rfl rfl ?_
        refine v_getR (c := 12) (r := 10) (hz_X8_blame hT _ _ rfl) rfl rfl rfl ?_
        refine v_load (v := (2, 10)) (hz_X8_blame hT _ _ rfl) rfl rfl ?_
        refine v_getI (t := 0) (r := 10) (hz_X8_blame hT _ _ rfl) rfl rfl rfl ?_
        refine v_ald (t := 0) (r := 12) (hz_X8_blame hT _ _ rfl) rfl rfl rfl (fun ha19 hb20 => ?_)
        refine v_push (4) (hz_X8_blame hT _ _ rfl) rfl ?_
        refine v_ic (hz_X8_blame hT _ _ rfl) (fun hc21 => ?_) (fun hc21 => ?_)
        · have hc21 : (h 12 ((h 10 6).2).toNat).2 = 4 := hc21
          refine v_push (1) (hz_X8_blame hT _ _ rfl) rfl ?_
          refine v_goto (hz_X8_blame hT _ _ rfl) ?_
          refine v_putf (r := 10) hO (hz_X8_blame hT _ _ rfl) rfl (fun hf22 => ?_)
          refine v_load (v := (2, 10)) (hz_X8_blame hT _ _ rfl) rfl rfl ?_
          refine v_load (v := (2, 10)) (hz_X8_blame hT _ _ rfl) rfl rfl ?_
          refine v_getR (c := 13) (r := 10) (hz_X8_blame hT _ _ rfl) rfl rfl rfl ?_
          refine v_load (v := (2, 10)) (hz_X8_blame hT _ _ rfl) rfl rfl ?_
          refine v_getf (v := (0, (h 10 6).2)) (r := 10) (hz_X8_blame hT _ _ rfl) rfl rfl (fun hv_ => Eq.trans (zset_ne (fun c => absurd c.2 (by decide))) (hv0.at rfl)) ?_
          refine v_aldE (t := 0) (r := 13) (w := (h 13 ((h 10 6).2).toNat).2) (hz_X8_blame hT _ _ rfl) rfl rfl rfl (congrArg Prod.snd (zset_ne (fun c => absurd c.1 (by decide)))) (fun ha23 hb24 => ?_)
          refine v_putf (r := 10) hO (hz_X8_blame hT _ _ rfl) rfl (fun hf25 => ?_)
          refine v_push (0) (hz_X8_blame hT _ _ rfl) rfl ?_
          refine v_ret (hz_X8_blame hT _ _ rfl) (Or.inl rfl) ?_
          show vP D T N 123 46 (zset (zset h 10 7 (0, 1)) 10 8 (0, (h 13 ((h 10 6).2).toNat).2)) [some (2, 10), some (0, u), some (0, v), some (0, (h 15 ((h 10 6).2).toNat).2)] [(0, 0)] _
          refine v_pop (hz_X8_takeNumber hT _ _ rfl) (Nat.ne_of_beq_eq_false rfl) ?_
          refine v_push (-1) (hz_X8_takeNumber hT _ _ rfl) rfl ?_
          refine v_ret (hz_X8_takeNumber hT _ _ rfl) (Or.inl rfl) ?_
          exact k2 ha1 hb2 hc5 hc6 hc18 hc21
        · have hc21 : (h 12 ((h 10 6).2).toNat).2 ≠ 4 := hc21
          refine v_load (v := (0, 4)) (hz_X8_blame hT _ _ rfl) rfl rfl ?_
          refine v_putf (r := 10) hO (hz_X8_blame hT _ _ rfl) rfl (fun hf26 => ?_)
          refine v_load (v := (2, 10)) (hz_X8_blame hT _ _ rfl) rfl rfl ?_
          refine v_load (v := (2, 10)) (hz_X8_blame hT _ _ rfl) rfl rfl ?_
          refine v_getR (c := 13) (r := 10) (hz_X8_blame hT _ _ rfl) rfl rfl rfl ?_
          refine v_load (v := (2, 10)) (hz_X8_blame hT _ _ rfl) rfl rfl ?_
          refine v_getf (v := (0, (h 10 6).2)) (r := 10) (hz_X8_blame hT _ _ rfl) rfl rfl (fun hv_ => Eq.trans (zset_ne (fun c => absurd c.2 (by decide))) (hv0.at rfl)) ?_
          refine v_aldE (t := 0) (r := 13) (w := (h 13 ((h 10 6).2).toNat).2) (hz_X8_blame hT _ _ rfl) rfl rfl rfl (congrArg Prod.snd (zset_ne (fun c => absurd c.1 (by decide)))) (fun ha27 hb28 => ?_)
          refine v_putf (r := 10) hO (hz_X8_blame hT _ _ rfl) rfl (fun hf29 => ?_)
          refine v_push (0) (hz_X8_blame hT _ _ rfl) rfl ?_
          refine v_ret (hz_X8_blame hT _ _ rfl) (Or.inl rfl) ?_
          show vP D T N 123 46 (zset (zset h 10 7 (0, 4)) 10 8 (0, (h 13 ((h 10 6).2).toNat).2)) [some (2, 10), some (0, u), some (0, v), some (0, (h 15 ((h 10 6).2).toNat).2)] [(0, 0)] _
          refine v_pop (hz_X8_takeNumber hT _ _ rfl) (Nat.ne_of_beq_eq_false rfl) ?_
          refine v_push (-1) (hz_X8_takeNumber hT _ _ rfl) rfl ?_
          refine v_ret (hz_X8_takeNumber hT _ _ rfl) (Or.inl rfl) ?_
          exact k3 ha1 hb2 hc5 hc6 hc18 hc21
      · have hc18 : (h 15 ((h 10 6).2).toNat).2 ≤ v := Int.not_lt.mp hc18
        refine v_load (v := (2, 10)) (hz_X8_takeNumber hT _ _ rfl) rfl rfl ?_
        refine v_call (w := 1) [some (2, 10)] hO (hz_X8_takeNumber hT _ _ rfl) rfl rfl ?_
        refine v_load (v := (2, 10)) (hz_X8_advance hT _ _ rfl) rfl rfl ?_
        refine v_getI (t := 0) (r := 10) (hz_X8_advance hT _ _ rfl) rfl rfl rfl ?_
        refine v_push (900) (hz_X8_advance hT _ _ rfl) rfl ?_
        refine v_ic (hz_X8_advance hT _ _ rfl) (fun hc30 => ?_) (fun hc30 => ?_)
        · have hc30 : (h 10 6).2 < 900 := hc30
          refine v_load (v := (2, 10)) (hz_X8_advance hT _ _ rfl) rfl rfl ?_
          refine v_getR (c := 12) (r := 10) (hz_X8_advance hT _ _ rfl) rfl rfl rfl ?_
          refine v_load (v := (2, 10)) (hz_X8_advance hT _ _ rfl) rfl rfl ?_
          refine v_getI (t := 0) (r := 10) (hz_X8_advance hT _ _ rfl) rfl rfl rfl ?_
          refine v_ald (t := 0) (r := 12) (hz_X8_advance hT _ _ rfl) rfl rfl rfl (fun ha31 hb32 => ?_)
          refine v_if (hz_X8_advance hT _ _ rfl) (fun hc33 => ?_) (fun hc33 => ?_)
          · have hc33 : (h 12 ((h 10 6).2).toNat).2 = 0 := hc33
            refine v_ret0 (hz_X8_advance hT _ _ rfl) ?_
            show vP D T N 123 53 h [some (2, 10), some (0, u), some (0, v), some (0, (h 15 ((h 10 6).2).toNat).2)] [] _
            refine v_load (v := (0, (h 15 ((h 10 6).2).toNat).2)) (hz_X8_takeNumber hT _ _ rfl) rfl rfl ?_
            refine v_ret (hz_X8_takeNumber hT _ _ rfl) (Or.inl rfl) ?_
            exact k4 ha1 hb2 hc5 hc6 hc18 hc30 hc33
          · have hc33 : (h 12 ((h 10 6).2).toNat).2 ≠ 0 := hc33
            refine v_load (v := (2, 10)) (hz_X8_advance hT _ _ rfl) rfl rfl ?_
            refine v_getR (c := 12) (r := 10) (hz_X8_advance hT _ _ rfl) rfl rfl rfl ?_
            refine v_load (v := (2, 10)) (hz_X8_advance hT _ _ rfl) rfl rfl ?_
            refine v_getI (t := 0) (r := 10) (hz_X8_advance hT _ _ rfl) rfl rfl rfl ?_
            refine v_ald (t := 0) (r := 12) (hz_X8_advance hT _ _ rfl) rfl rfl rfl (fun ha34 hb35 => ?_)
            refine v_push (4) (hz_X8_advance hT _ _ rfl) rfl ?_
            refine v_ic (hz_X8_advance hT _ _ rfl) (fun hc36 => ?_) (fun hc36 => ?_)
            · have hc36 : (h 12 ((h 10 6).2).toNat).2 = 4 := hc36
              refine v_ret0 (hz_X8_advance hT _ _ rfl) ?_
              show vP D T N 123 53 h [some (2, 10), some (0, u), some (0, v), some (0, (h 15 ((h 10 6).2).toNat).2)] [] _
              refine v_load (v := (0, (h 15 ((h 10 6).2).toNat).2)) (hz_X8_takeNumber hT _ _ rfl) rfl rfl ?_
              refine v_ret (hz_X8_takeNumber hT _ _ rfl) (Or.inl rfl) ?_
              exact k5 ha1 hb2 hc5 hc6 hc18 hc30 hc33 hc36
            · have hc36 : (h 12 ((h 10 6).2).toNat).2 ≠ 4 := hc36
              refine v_load (v := (2, 10)) (hz_X8_advance hT _ _ rfl) rfl rfl ?_
              refine v_dup (hz_X8_advance hT _ _ rfl) (Nat.ne_of_beq_eq_false rfl) ?_
              refine v_getI (t := 0) (r := 10) (hz_X8_advance hT _ _ rfl) rfl rfl rfl ?_
              refine v_push (1) (hz_X8_advance hT _ _ rfl) rfl ?_
              refine v_bin (w := ((h 10 6).2 + 1)) (hz_X8_advance hT _ _ rfl) (hq_add (by omega) (by omega)) ?_
              refine v_putf (r := 10) hO (hz_X8_advance hT _ _ rfl) rfl (fun hf37 => ?_)
              refine v_ret0 (hz_X8_advance hT _ _ rfl) ?_
              show vP D T N 123 53 (zset h 10 6 (0, ((h 10 6).2 + 1))) [some (2, 10), some (0, u), some (0, v), some (0, (h 15 ((h 10 6).2).toNat).2)] [] _
              refine v_load (v := (0, (h 15 ((h 10 6).2).toNat).2)) (hz_X8_takeNumber hT _ _ rfl) rfl rfl ?_
              refine v_ret (hz_X8_takeNumber hT _ _ rfl) (Or.inl rfl) ?_
              exact k6 ha1 hb2 hc5 hc6 hc18 hc30 hc33 hc36
        · have hc30 : 900 ≤ (h 10 6).2 := Int.not_lt.mp hc30
          refine v_ret0 (hz_X8_advance hT _ _ rfl) ?_
          show vP D T N 123 53 h [some (2, 10), some (0, u), some (0, v), some (0, (h 15 ((h 10 6).2).toNat).2)] [] _
          refine v_load (v := (0, (h 15 ((h 10 6).2).toNat).2)) (hz_X8_takeNumber hT _ _ rfl) rfl rfl ?_
          refine v_ret (hz_X8_takeNumber hT _ _ rfl) (Or.inl rfl) ?_
          exact k7 ha1 hb2 hc5 hc6 hc18 hc30
  · have hc5 : (h 12 ((h 10 6).2).toNat).2 ≠ 2 := hc5
    refine v_load (v := (2, 10)) (hz_X8_takeNumber hT _ _ rfl) rfl rfl ?_
    refine v_push (2) (hz_X8_takeNumber hT _ _ rfl) rfl ?_
    refine v_call (w := 2) [some (2, 10), some (0, 2)] hO (hz_X8_takeNumber hT _ _ rfl) rfl rfl ?_
    refine v_load (v := (2, 10)) (hz_X8_blame hT _ _ rfl) rfl rfl ?_
    refine v_load (v := (2, 10)) (hz_X8_blame hT _ _ rfl) rfl rfl ?_
    refine v_getR (c := 12) (r := 10) (hz_X8_blame hT _ _ rfl) rfl rfl rfl ?_
    refine v_load (v := (2, 10)) (hz_X8_blame hT _ _ rfl) rfl rfl ?_
    refine v_getI (t := 0) (r := 10) (hz_X8_blame hT _ _ rfl) rfl rfl rfl ?_
    refine v_ald (t := 0) (r := 12) (hz_X8_blame hT _ _ rfl) rfl rfl rfl (fun ha38 hb39 => ?_)
    refine v_push (4) (hz_X8_blame hT _ _ rfl) rfl ?_
    refine v_ic (hz_X8_blame hT _ _ rfl) (fun hc40 => ?_) (fun hc40 => ?_)
    · have hc40 : (h 12 ((h 10 6).2).toNat).2 = 4 := hc40
      refine v_push (1) (hz_X8_blame hT _ _ rfl) rfl ?_
      refine v_goto (hz_X8_blame hT _ _ rfl) ?_
      refine v_putf (r := 10) hO (hz_X8_blame hT _ _ rfl) rfl (fun hf41 => ?_)
      refine v_load (v := (2, 10)) (hz_X8_blame hT _ _ rfl) rfl rfl ?_
      refine v_load (v := (2, 10)) (hz_X8_blame hT _ _ rfl) rfl rfl ?_
      refine v_getR (c := 13) (r := 10) (hz_X8_blame hT _ _ rfl) rfl rfl rfl ?_
      refine v_load (v := (2, 10)) (hz_X8_blame hT _ _ rfl) rfl rfl ?_
      refine v_getf (v := (0, (h 10 6).2)) (r := 10) (hz_X8_blame hT _ _ rfl) rfl rfl (fun hv_ => Eq.trans (zset_ne (fun c => absurd c.2 (by decide))) (hv0.at rfl)) ?_
      refine v_aldE (t := 0) (r := 13) (w := (h 13 ((h 10 6).2).toNat).2) (hz_X8_blame hT _ _ rfl) rfl rfl rfl (congrArg Prod.snd (zset_ne (fun c => absurd c.1 (by decide)))) (fun ha42 hb43 => ?_)
      refine v_putf (r := 10) hO (hz_X8_blame hT _ _ rfl) rfl (fun hf44 => ?_)
      refine v_push (0) (hz_X8_blame hT _ _ rfl) rfl ?_
      refine v_ret (hz_X8_blame hT _ _ rfl) (Or.inl rfl) ?_
      show vP D T N 123 28 (zset (zset h 10 7 (0, 1)) 10 8 (0, (h 13 ((h 10 6).2).toNat).2)) [some (2, 10), some (0, u), some (0, v), some (0, (h 15 ((h 10 6).2).toNat).2)] [(0, 0)] _
      refine v_pop (hz_X8_takeNumber hT _ _ rfl) (Nat.ne_of_beq_eq_false rfl) ?_
      refine v_push (-1) (hz_X8_takeNumber hT _ _ rfl) rfl ?_
      refine v_ret (hz_X8_takeNumber hT _ _ rfl) (Or.inl rfl) ?_
      exact k8 ha1 hb2 hc5 hc40
    · have hc40 : (h 12 ((h 10 6).2).toNat).2 ≠ 4 := hc40
      refine v_load (v := (0, 2)) (hz_X8_blame hT _ _ rfl) rfl rfl ?_
      refine v_putf (r := 10) hO (hz_X8_blame hT _ _ rfl) rfl (fun hf45 => ?_)
      refine v_load (v := (2, 10)) (hz_X8_blame hT _ _ rfl) rfl rfl ?_
      refine v_load (v := (2, 10)) (hz_X8_blame hT _ _ rfl) rfl rfl ?_
      refine v_getR (c := 13) (r := 10) (hz_X8_blame hT _ _ rfl) rfl rfl rfl ?_
      refine v_load (v := (2, 10)) (hz_X8_blame hT _ _ rfl) rfl rfl ?_
      refine v_getf (v := (0, (h 10 6).2)) (r := 10) (hz_X8_blame hT _ _ rfl) rfl rfl (fun hv_ => Eq.trans (zset_ne (fun c => absurd c.2 (by decide))) (hv0.at rfl)) ?_
      refine v_aldE (t := 0) (r := 13) (w := (h 13 ((h 10 6).2).toNat).2) (hz_X8_blame hT _ _ rfl) rfl rfl rfl (congrArg Prod.snd (zset_ne (fun c => absurd c.1 (by decide)))) (fun ha46 hb47 => ?_)
      refine v_putf (r := 10) hO (hz_X8_blame hT _ _ rfl) rfl (fun hf48 => ?_)
      refine v_push (0) (hz_X8_blame hT _ _ rfl) rfl ?_
      refine v_ret (hz_X8_blame hT _ _ rfl) (Or.inl rfl) ?_
      show vP D T N 123 28 (zset (zset h 10 7 (0, 2)) 10 8 (0, (h 13 ((h 10 6).2).toNat).2)) [some (2, 10), some (0, u), some (0, v), some (0, (h 15 ((h 10 6).2).toNat).2)] [(0, 0)] _
      refine v_pop (hz_X8_takeNumber hT _ _ rfl) (Nat.ne_of_beq_eq_false rfl) ?_
      refine v_push (-1) (hz_X8_takeNumber hT _ _ rfl) rfl ?_
      refine v_ret (hz_X8_takeNumber hT _ _ rfl) (Or.inl rfl) ?_
      exact k9 ha1 hb2 hc5 hc40
