section
theorem qt_bite0_39 {D : zD} {T : zT} (hT : hTab T) (hO : vOK T) {N : Nat} {h : zH} {Q : zR → Prop} {P : PT} (x y z : Int) (hv0 : zHv h) (e7 : h 0 7 = (2, 39)) (p0 : h 39 0 = (0, P 0 0)) (p1 : h 39 1 = (0, P 0 1)) (p2 : h 39 2 = (0, P 0 2)) (p3 : h 39 3 = (0, P 0 3)) (lb : (0 ≤ P 0 0 ∧ P 0 0 ≤ 8) ∧ (0 ≤ P 0 1 ∧ P 0 1 ≤ 6) ∧ (0 ≤ P 0 2 ∧ P 0 2 ≤ 3) ∧ (0 ≤ P 0 3 ∧ P 0 3 ≤ 6))
    (k0 : (x < 0) → Q (zset h 0 0 (0, 2), some (0, -1)))
    (k1 : (0 ≤ x) → (x < (P 0 2)) → (y < 0) → Q (zset h 0 0 (0, 2), some (0, -1)))
    (k2 : (0 ≤ x) → (x < (P 0 2)) → (0 ≤ y) → (y < (P 0 0)) → (z < 0) → Q (zset h 0 0 (0, 2), some (0, -1)))
    (k3 : (0 ≤ x) → (x < (P 0 2)) → (0 ≤ y) → (y < (P 0 0)) → (0 ≤ z) → (z < (P 0 1)) → vP D T N 146 19 h [some (2, 0), some (0, x), some (0, y), some (0, z), none] [] Q)
    (k4 : (0 ≤ x) → (x < (P 0 2)) → (0 ≤ y) → (y < (P 0 0)) → (0 ≤ z) → ((P 0 1) ≤ z) → Q (zset h 0 0 (0, 2), some (0, -1)))
    (k5 : (0 ≤ x) → (x < (P 0 2)) → (0 ≤ y) → ((P 0 0) ≤ y) → Q (zset h 0 0 (0, 2), some (0, -1)))
    (k6 : (0 ≤ x) → ((P 0 2) ≤ x) → Q (zset h 0 0 (0, 2), some (0, -1))) :
    vP D T N 146 0 h [some (2, 0), some (0, x), some (0, y), some (0, z), none] [] Q := by
  refine v_load (v := (2, 0)) (hz_X11_bite hT _ _ rfl) rfl rfl ?_
  refine v_getf (v := (2, 39)) (r := 0) (hz_X11_bite hT _ _ rfl) rfl rfl (fun _ => e7) ?_
  refine v_load (v := (0, x)) (hz_X11_bite hT _ _ rfl) rfl rfl ?_
  refine v_load (v := (0, y)) (hz_X11_bite hT _ _ rfl) rfl rfl ?_
  refine v_load (v := (0, z)) (hz_X11_bite hT _ _ rfl) rfl rfl ?_
  refine v_call (w := 4) [some (2, 39), some (0, x), some (0, y), some (0, z)] hO (hz_X11_bite hT _ _ rfl) rfl rfl ?_
  refine v_load (v := (2, 39)) (hi_X2_hasCopyCell_0 hT) rfl rfl ?_
  refine v_load (v := (0, x)) (hi_X2_hasCopyCell_1 hT) rfl rfl ?_
  refine v_call (w := 2) [some (2, 39), some (0, x)] hO (hi_X2_hasCopyCell_2 hT) rfl rfl ?_
  refine v_load (v := (0, x)) (hi_X2_hasCopy_0 hT) rfl rfl ?_
  refine v_if (hi_X2_hasCopy_1 hT) (fun hc1 => ?_) (fun hc1 => ?_)
  · have hc1 : x < 0 := hc1
    refine v_push (0) (hi_X2_hasCopy_16 hT) rfl ?_
    refine v_ret (hi_X2_hasCopy_17 hT) (Or.inl rfl) ?_
    show vP D T N 44 5 h [some (2, 39), some (0, x), some (0, y), some (0, z)] [(0, 0)] _
    refine v_if (hi_X2_hasCopyCell_5 hT) (fun _ => ?_) (fun hc2 => absurd (show (0 : Int) = 0 from (by decide)) hc2)
    refine v_push (0) (hi_X2_hasCopyCell_21 hT) rfl ?_
    refine v_ret (hi_X2_hasCopyCell_22 hT) (Or.inl rfl) ?_
    show vP D T N 146 10 h [some (2, 0), some (0, x), some (0, y), some (0, z), none] [(0, 0)] _
    refine v_if (hi_X11_bite_10 hT) (fun _ => ?_) (fun hc3 => absurd (show (0 : Int) = 0 from (by decide)) hc3)
    refine v_load (v := (2, 0)) (hi_X11_bite_13 hT) rfl rfl ?_
    refine v_push (2) (hi_X11_bite_14 hT) rfl ?_
    refine v_call (w := 2) [some (2, 0), some (0, 2)] hO (hi_X11_bite_15 hT) rfl rfl ?_
    refine v_load (v := (2, 0)) (hi_X11_refused_0 hT) rfl rfl ?_
    refine v_load (v := (0, 2)) (hi_X11_refused_1 hT) rfl rfl ?_
    refine v_putf (r := 0) hO (hi_X11_refused_2 hT) rfl (fun hf4 => ?_)
    refine v_push (-1) (hi_X11_refused_5 hT) rfl ?_
    refine v_ret (hi_X11_refused_6 hT) (Or.inl rfl) ?_
    show vP D T N 146 18 (zset h 0 0 (0, 2)) [some (2, 0), some (0, x), some (0, y), some (0, z), none] [(0, -1)] _
    refine v_ret (hi_X11_bite_18 hT) (Or.inl rfl) ?_
    exact k0 hc1
  · have hc1 : 0 ≤ x := Int.not_lt.mp hc1
    refine v_load (v := (0, x)) (hi_X2_hasCopy_4 hT) rfl rfl ?_
    refine v_load (v := (2, 39)) (hi_X2_hasCopy_5 hT) rfl rfl ?_
    refine v_getf (v := (0, (P 0 2))) (r := 39) (hi_X2_hasCopy_6 hT) rfl rfl (fun _ => p2) ?_
    refine v_ic (hi_X2_hasCopy_9 hT) (fun hc5 => ?_) (fun hc5 => ?_)
    · have hc5 : x < (P 0 2) := hc5
      refine v_push (1) (hi_X2_hasCopy_12 hT) rfl ?_
      refine v_goto (hi_X2_hasCopy_13 hT) ?_
      refine v_ret (hi_X2_hasCopy_17 hT) (Or.inl rfl) ?_
      show vP D T N 44 5 h [some (2, 39), some (0, x), some (0, y), some (0, z)] [(0, 1)] _
      refine v_if (hi_X2_hasCopyCell_5 hT) (fun hc6 => absurd (show (1 : Int) = 0 from hc6) (by decide)) (fun _ => ?_)
      refine v_load (v := (2, 39)) (hi_X2_hasCopyCell_8 hT) rfl rfl ?_
      refine v_load (v := (0, y)) (hi_X2_hasCopyCell_9 hT) rfl rfl ?_
      refine v_load (v := (0, z)) (hi_X2_hasCopyCell_10 hT) rfl rfl ?_
      refine v_call (w := 3) [some (2, 39), some (0, y), some (0, z)] hO (hi_X2_hasCopyCell_11 hT) rfl rfl ?_
      refine v_load (v := (0, y)) (hi_X2_hasCell_0 hT) rfl rfl ?_
      refine v_if (hi_X2_hasCell_1 hT) (fun hc7 => ?_) (fun hc7 => ?_)
      · have hc7 : y < 0 := hc7
        refine v_push (0) (hi_X2_hasCell_28 hT) rfl ?_
        refine v_ret (hi_X2_hasCell_29 hT) (Or.inl rfl) ?_
        show vP D T N 44 14 h [some (2, 39), some (0, x), some (0, y), some (0, z)] [(0, 0)] _
        refine v_if (hi_X2_hasCopyCell_14 hT) (fun _ => ?_) (fun hc8 => absurd (show (0 : Int) = 0 from (by decide)) hc8)
        refine v_push (0) (hi_X2_hasCopyCell_21 hT) rfl ?_
        refine v_ret (hi_X2_hasCopyCell_22 hT) (Or.inl rfl) ?_
        show vP D T N 146 10 h [some (2, 0), some (0, x), some (0, y), some (0, z), none] [(0, 0)] _
        refine v_if (hi_X11_bite_10 hT) (fun _ => ?_) (fun hc9 => absurd (show (0 : Int) = 0 from (by decide)) hc9)
        refine v_load (v := (2, 0)) (hi_X11_bite_13 hT) rfl rfl ?_
        refine v_push (2) (hi_X11_bite_14 hT) rfl ?_
        refine v_call (w := 2) [some (2, 0), some (0, 2)] hO (hi_X11_bite_15 hT) rfl rfl ?_
        refine v_load (v := (2, 0)) (hi_X11_refused_0 hT) rfl rfl ?_
        refine v_load (v := (0, 2)) (hi_X11_refused_1 hT) rfl rfl ?_
        refine v_putf (r := 0) hO (hi_X11_refused_2 hT) rfl (fun hf10 => ?_)
        refine v_push (-1) (hi_X11_refused_5 hT) rfl ?_
        refine v_ret (hi_X11_refused_6 hT) (Or.inl rfl) ?_
        show vP D T N 146 18 (zset h 0 0 (0, 2)) [some (2, 0), some (0, x), some (0, y), some (0, z), none] [(0, -1)] _
        refine v_ret (hi_X11_bite_18 hT) (Or.inl rfl) ?_
        exact k1 hc1 hc5 hc7
      · have hc7 : 0 ≤ y := Int.not_lt.mp hc7
        refine v_load (v := (0, y)) (hi_X2_hasCell_4 hT) rfl rfl ?_
        refine v_load (v := (2, 39)) (hi_X2_hasCell_5 hT) rfl rfl ?_
        refine v_getf (v := (0, (P 0 0))) (r := 39) (hi_X2_hasCell_6 hT) rfl rfl (fun _ => p0) ?_
        refine v_ic (hi_X2_hasCell_9 hT) (fun hc11 => ?_) (fun hc11 => ?_)
        · have hc11 : y < (P 0 0) := hc11
          refine v_load (v := (0, z)) (hi_X2_hasCell_12 hT) rfl rfl ?_
          refine v_if (hi_X2_hasCell_13 hT) (fun hc12 => ?_) (fun hc12 => ?_)
          · have hc12 : z < 0 := hc12
            refine v_push (0) (hi_X2_hasCell_28 hT) rfl ?_
            refine v_ret (hi_X2_hasCell_29 hT) (Or.inl rfl) ?_
            show vP D T N 44 14 h [some (2, 39), some (0, x), some (0, y), some (0, z)] [(0, 0)] _
            refine v_if (hi_X2_hasCopyCell_14 hT) (fun _ => ?_) (fun hc13 => absurd (show (0 : Int) = 0 from (by decide)) hc13)
            refine v_push (0) (hi_X2_hasCopyCell_21 hT) rfl ?_
            refine v_ret (hi_X2_hasCopyCell_22 hT) (Or.inl rfl) ?_
            show vP D T N 146 10 h [some (2, 0), some (0, x), some (0, y), some (0, z), none] [(0, 0)] _
            refine v_if (hi_X11_bite_10 hT) (fun _ => ?_) (fun hc14 => absurd (show (0 : Int) = 0 from (by decide)) hc14)
            refine v_load (v := (2, 0)) (hi_X11_bite_13 hT) rfl rfl ?_
            refine v_push (2) (hi_X11_bite_14 hT) rfl ?_
            refine v_call (w := 2) [some (2, 0), some (0, 2)] hO (hi_X11_bite_15 hT) rfl rfl ?_
            refine v_load (v := (2, 0)) (hi_X11_refused_0 hT) rfl rfl ?_
            refine v_load (v := (0, 2)) (hi_X11_refused_1 hT) rfl rfl ?_
            refine v_putf (r := 0) hO (hi_X11_refused_2 hT) rfl (fun hf15 => ?_)
            refine v_push (-1) (hi_X11_refused_5 hT) rfl ?_
            refine v_ret (hi_X11_refused_6 hT) (Or.inl rfl) ?_
            show vP D T N 146 18 (zset h 0 0 (0, 2)) [some (2, 0), some (0, x), some (0, y), some (0, z), none] [(0, -1)] _
            refine v_ret (hi_X11_bite_18 hT) (Or.inl rfl) ?_
            exact k2 hc1 hc5 hc7 hc11 hc12
          · have hc12 : 0 ≤ z := Int.not_lt.mp hc12
            refine v_load (v := (0, z)) (hi_X2_hasCell_16 hT) rfl rfl ?_
            refine v_load (v := (2, 39)) (hi_X2_hasCell_17 hT) rfl rfl ?_
            refine v_getf (v := (0, (P 0 1))) (r := 39) (hi_X2_hasCell_18 hT) rfl rfl (fun _ => p1) ?_
            refine v_ic (hi_X2_hasCell_21 hT) (fun hc16 => ?_) (fun hc16 => ?_)
            · have hc16 : z < (P 0 1) := hc16
              refine v_push (1) (hi_X2_hasCell_24 hT) rfl ?_
              refine v_goto (hi_X2_hasCell_25 hT) ?_
              refine v_ret (hi_X2_hasCell_29 hT) (Or.inl rfl) ?_
              show vP D T N 44 14 h [some (2, 39), some (0, x), some (0, y), some (0, z)] [(0, 1)] _
              refine v_if (hi_X2_hasCopyCell_14 hT) (fun hc17 => absurd (show (1 : Int) = 0 from hc17) (by decide)) (fun _ => ?_)
              refine v_push (1) (hi_X2_hasCopyCell_17 hT) rfl ?_
              refine v_goto (hi_X2_hasCopyCell_18 hT) ?_
              refine v_ret (hi_X2_hasCopyCell_22 hT) (Or.inl rfl) ?_
              show vP D T N 146 10 h [some (2, 0), some (0, x), some (0, y), some (0, z), none] [(0, 1)] _
              refine v_if (hi_X11_bite_10 hT) (fun hc18 => absurd (show (1 : Int) = 0 from hc18) (by decide)) (fun _ => ?_)
              exact k3 hc1 hc5 hc7 hc11 hc12 hc16
            · have hc16 : (P 0 1) ≤ z := Int.not_lt.mp hc16
              refine v_push (0) (hi_X2_hasCell_28 hT) rfl ?_
              refine v_ret (hi_X2_hasCell_29 hT) (Or.inl rfl) ?_
              show vP D T N 44 14 h [some (2, 39), some (0, x), some (0, y), some (0, z)] [(0, 0)] _
              refine v_if (hi_X2_hasCopyCell_14 hT) (fun _ => ?_) (fun hc19 => absurd (show (0 : Int) = 0 from (by decide)) hc19)
              refine v_push (0) (hi_X2_hasCopyCell_21 hT) rfl ?_
              refine v_ret (hi_X2_hasCopyCell_22 hT) (Or.inl rfl) ?_
              show vP D T N 146 10 h [some (2, 0), some (0, x), some (0, y), some (0, z), none] [(0, 0)] _
              refine v_if (hi_X11_bite_10 hT) (fun _ => ?_) (fun hc20 => absurd (show (0 : Int) = 0 from (by decide)) hc20)
              refine v_load (v := (2, 0)) (hi_X11_bite_13 hT) rfl rfl ?_
              refine v_push (2) (hi_X11_bite_14 hT) rfl ?_
              refine v_call (w := 2) [some (2, 0), some (0, 2)] hO (hi_X11_bite_15 hT) rfl rfl ?_
              refine v_load (v := (2, 0)) (hi_X11_refused_0 hT) rfl rfl ?_
              refine v_load (v := (0, 2)) (hi_X11_refused_1 hT) rfl rfl ?_
              refine v_putf (r := 0) hO (hi_X11_refused_2 hT) rfl (fun hf21 => ?_)
              refine v_push (-1) (hi_X11_refused_5 hT) rfl ?_
              refine v_ret (hi_X11_refused_6 hT) (Or.inl rfl) ?_
              show vP D T N 146 18 (zset h 0 0 (0, 2)) [some (2, 0), some (0, x), some (0, y), some (0, z), none] [(0, -1)] _
              refine v_ret (hi_X11_bite_18 hT) (Or.inl rfl) ?_
              exact k4 hc1 hc5 hc7 hc11 hc12 hc16
        · have hc11 : (P 0 0) ≤ y := Int.not_lt.mp hc11
          refine v_push (0) (hi_X2_hasCell_28 hT) rfl ?_
          refine v_ret (hi_X2_hasCell_29 hT) (Or.inl rfl) ?_
          show vP D T N 44 14 h [some (2, 39), some (0, x), some (0, y), some (0, z)] [(0, 0)] _
          refine v_if (hi_X2_hasCopyCell_14 hT) (fun _ => ?_) (fun hc22 => absurd (show (0 : Int) = 0 from (by decide)) hc22)
          refine v_push (0) (hi_X2_hasCopyCell_21 hT) rfl ?_
          refine v_ret (hi_X2_hasCopyCell_22 hT) (Or.inl rfl) ?_
          show vP D T N 146 10 h [some (2, 0), some (0, x), some (0, y), some (0, z), none] [(0, 0)] _
          refine v_if (hi_X11_bite_10 hT) (fun _ => ?_) (fun hc23 => absurd (show (0 : Int) = 0 from (by decide)) hc23)
          refine v_load (v := (2, 0)) (hi_X11_bite_13 hT) rfl rfl ?_
          refine v_push (2) (hi_X11_bite_14 hT) rfl ?_
          refine v_call (w := 2) [some (2, 0), some (0, 2)] hO (hi_X11_bite_15 hT) rfl rfl ?_
          refine v_load (v := (2, 0)) (hi_X11_refused_0 hT) rfl rfl ?_
          refine v_load (v := (0, 2)) (hi_X11_refused_1 hT) rfl rfl ?_
          refine v_putf (r := 0) hO (hi_X11_refused_2 hT) rfl (fun hf24 => ?_)
          refine v_push (-1) (hi_X11_refused_5 hT) rfl ?_
          refine v_ret (hi_X11_refused_6 hT) (Or.inl rfl) ?_
          show vP D T N 146 18 (zset h 0 0 (0, 2)) [some (2, 0), some (0, x), some (0, y), some (0, z), none] [(0, -1)] _
          refine v_ret (hi_X11_bite_18 hT) (Or.inl rfl) ?_
          exact k5 hc1 hc5 hc7 hc11
    · have hc5 : (P 0 2) ≤ x := Int.not_lt.mp hc5
      refine v_push (0) (hi_X2_hasCopy_16 hT) rfl ?_
      refine v_ret (hi_X2_hasCopy_17 hT) (Or.inl rfl) ?_
      show vP D T N 44 5 h [some (2, 39), some (0, x), some (0, y), some (0, z)] [(0, 0)] _
      refine v_if (hi_X2_hasCopyCell_5 hT) (fun _ => ?_) (fun hc25 => absurd (show (0 : Int) = 0 from (by decide)) hc25)
      refine v_push (0) (hi_X2_hasCopyCell_21 hT) rfl ?_
      refine v_ret (hi_X2_hasCopyCell_22 hT) (Or.inl rfl) ?_
      show vP D T N 146 10 h [some (2, 0), some (0, x), some (0, y), some (0, z), none] [(0, 0)] _
      refine v_if (hi_X11_bite_10 hT) (fun _ => ?_) (fun hc26 => absurd (show (0 : Int) = 0 from (by decide)) hc26)
      refine v_load (v := (2, 0)) (hi_X11_bite_13 hT) rfl rfl ?_
      refine v_push (2) (hi_X11_bite_14 hT) rfl ?_
      refine v_call (w := 2) [some (2, 0), some (0, 2)] hO (hi_X11_bite_15 hT) rfl rfl ?_
      refine v_load (v := (2, 0)) (hi_X11_refused_0 hT) rfl rfl ?_
      refine v_load (v := (0, 2)) (hi_X11_refused_1 hT) rfl rfl ?_
      refine v_putf (r := 0) hO (hi_X11_refused_2 hT) rfl (fun hf27 => ?_)
      refine v_push (-1) (hi_X11_refused_5 hT) rfl ?_
      refine v_ret (hi_X11_refused_6 hT) (Or.inl rfl) ?_
      show vP D T N 146 18 (zset h 0 0 (0, 2)) [some (2, 0), some (0, x), some (0, y), some (0, z), none] [(0, -1)] _
      refine v_ret (hi_X11_bite_18 hT) (Or.inl rfl) ?_
      exact k6 hc1 hc5
theorem qt_bite19_39 {D : zD} {T : zT} (hT : hTab T) (hO : vOK T) {N : Nat} {h : zH} {Q : zR → Prop} {j u v : Nat} (hv0 : zHv h) (e7 : h 0 7 = (2, 39)) (bu : u < 8) (bv : v < 6)
    (k0 : vP D T N 35 0 h [some (2, 39), some (0, (j : Int)), some (0, (((v : Int) * 8) + (u : Int)))] [] (fun r1 => vP D T N 146 36 r1.1 [some (2, 0), some (0, (j : Int)), some (0, (u : Int)), some (0, (v : Int)), some (0, (((v : Int) * 8) + (u : Int)))] (zpush r1.2 []) Q)) :
    vP D T N 146 19 h [some (2, 0), some (0, (j : Int)), some (0, (u : Int)), some (0, (v : Int)), none] [] Q := by
  refine v_load (v := (0, (u : Int))) (hz_X11_bite hT _ _ rfl) rfl rfl ?_
  refine v_load (v := (0, (v : Int))) (hz_X11_bite hT _ _ rfl) rfl rfl ?_
  refine v_call (w := 2) [some (0, (u : Int)), some (0, (v : Int))] hO (hz_X11_bite hT _ _ rfl) rfl rfl ?_
  refine v_load (v := (0, (v : Int))) (hi_X2_cellAt_0 hT) rfl rfl ?_
  refine v_push (8) (hi_X2_cellAt_1 hT) rfl ?_
  refine v_bin (w := ((v : Int) * 8)) (hi_X2_cellAt_3 hT) (hq_mul (by omega) (by omega)) ?_
  refine v_load (v := (0, (u : Int))) (hi_X2_cellAt_4 hT) rfl rfl ?_
  refine v_bin (w := (((v : Int) * 8) + (u : Int))) (hi_X2_cellAt_5 hT) (hq_add (by omega) (by omega)) ?_
  refine v_ret (hi_X2_cellAt_6 hT) (Or.inl rfl) ?_
  show vP D T N 146 24 h [some (2, 0), some (0, (j : Int)), some (0, (u : Int)), some (0, (v : Int)), none] [(0, (((v : Int) * 8) + (u : Int)))] _
  refine v_store1 [some (2, 0), some (0, (j : Int)), some (0, (u : Int)), some (0, (v : Int)), some (0, (((v : Int) * 8) + (u : Int)))] (hz_X11_bite hT _ _ rfl) ⟨rfl, Nat.ne_of_beq_eq_false rfl⟩ (Nat.le_of_ble_eq_true rfl) rfl ?_
  refine v_load (v := (2, 0)) (hz_X11_bite hT _ _ rfl) rfl rfl ?_
  refine v_getf (v := (2, 39)) (r := 0) (hz_X11_bite hT _ _ rfl) rfl rfl (fun _ => e7) ?_
  refine v_load (v := (0, (j : Int))) (hz_X11_bite hT _ _ rfl) rfl rfl ?_
  refine v_load (v := (0, (((v : Int) * 8) + (u : Int)))) (hz_X11_bite hT _ _ rfl) rfl rfl ?_
  refine v_call (w := 3) [some (2, 39), some (0, (j : Int)), some (0, (((v : Int) * 8) + (u : Int)))] hO (hz_X11_bite hT _ _ rfl) rfl rfl ?_
  exact k0 
theorem qt_mould0_39 {D : zD} {T : zT} (hT : hTab T) (hO : vOK T) {N : Nat} {h : zH} {Q : zR → Prop} {P : PT} (x y z : Int) (hv0 : zHv h) (e7 : h 0 7 = (2, 39)) (p0 : h 39 0 = (0, P 0 0)) (p1 : h 39 1 = (0, P 0 1)) (p2 : h 39 2 = (0, P 0 2)) (p3 : h 39 3 = (0, P 0 3)) (lb : (0 ≤ P 0 0 ∧ P 0 0 ≤ 8) ∧ (0 ≤ P 0 1 ∧ P 0 1 ≤ 6) ∧ (0 ≤ P 0 2 ∧ P 0 2 ≤ 3) ∧ (0 ≤ P 0 3 ∧ P 0 3 ≤ 6))
    (k0 : (x < 0) → Q (zset h 0 0 (0, 2), some (0, 0)))
    (k1 : (0 ≤ x) → (x < (P 0 2)) → (y < 0) → Q (zset h 0 0 (0, 2), some (0, 0)))
    (k2 : (0 ≤ x) → (x < (P 0 2)) → (0 ≤ y) → (y < (P 0 0)) → (z < 0) → Q (zset h 0 0 (0, 2), some (0, 0)))
    (k3 : (0 ≤ x) → (x < (P 0 2)) → (0 ≤ y) → (y < (P 0 0)) → (0 ≤ z) → (z < (P 0 1)) → vP D T N 168 19 h [some (2, 0), some (0, x), some (0, y), some (0, z)] [] Q)
    (k4 : (0 ≤ x) → (x < (P 0 2)) → (0 ≤ y) → (y < (P 0 0)) → (0 ≤ z) → ((P 0 1) ≤ z) → Q (zset h 0 0 (0, 2), some (0, 0)))
    (k5 : (0 ≤ x) → (x < (P 0 2)) → (0 ≤ y) → ((P 0 0) ≤ y) → Q (zset h 0 0 (0, 2), some (0, 0)))
    (k6 : (0 ≤ x) → ((P 0 2) ≤ x) → Q (zset h 0 0 (0, 2), some (0, 0))) :
    vP D T N 168 0 h [some (2, 0), some (0, x), some (0, y), some (0, z)] [] Q := by
  refine v_load (v := (2, 0)) (hz_X11_mould hT _ _ rfl) rfl rfl ?_
  refine v_getf (v := (2, 39)) (r := 0) (hz_X11_mould hT _ _ rfl) rfl rfl (fun _ => e7) ?_
  refine v_load (v := (0, x)) (hz_X11_mould hT _ _ rfl) rfl rfl ?_
  refine v_load (v := (0, y)) (hz_X11_mould hT _ _ rfl) rfl rfl ?_
  refine v_load (v := (0, z)) (hz_X11_mould hT _ _ rfl) rfl rfl ?_
  refine v_call (w := 4) [some (2, 39), some (0, x), some (0, y), some (0, z)] hO (hz_X11_mould hT _ _ rfl) rfl rfl ?_
  refine v_load (v := (2, 39)) (hi_X2_hasCopyCell_0 hT) rfl rfl ?_
  refine v_load (v := (0, x)) (hi_X2_hasCopyCell_1 hT) rfl rfl ?_
  refine v_call (w := 2) [some (2, 39), some (0, x)] hO (hi_X2_hasCopyCell_2 hT) rfl rfl ?_
  refine v_load (v := (0, x)) (hi_X2_hasCopy_0 hT) rfl rfl ?_
  refine v_if (hi_X2_hasCopy_1 hT) (fun hc1 => ?_) (fun hc1 => ?_)
  · have hc1 : x < 0 := hc1
    refine v_push (0) (hi_X2_hasCopy_16 hT) rfl ?_
    refine v_ret (hi_X2_hasCopy_17 hT) (Or.inl rfl) ?_
    show vP D T N 44 5 h [some (2, 39), some (0, x), some (0, y), some (0, z)] [(0, 0)] _
    refine v_if (hi_X2_hasCopyCell_5 hT) (fun _ => ?_) (fun hc2 => absurd (show (0 : Int) = 0 from (by decide)) hc2)
    refine v_push (0) (hi_X2_hasCopyCell_21 hT) rfl ?_
    refine v_ret (hi_X2_hasCopyCell_22 hT) (Or.inl rfl) ?_
    show vP D T N 168 10 h [some (2, 0), some (0, x), some (0, y), some (0, z)] [(0, 0)] _
    refine v_if (hi_X11_mould_10 hT) (fun _ => ?_) (fun hc3 => absurd (show (0 : Int) = 0 from (by decide)) hc3)
    refine v_load (v := (2, 0)) (hi_X11_mould_13 hT) rfl rfl ?_
    refine v_push (2) (hi_X11_mould_14 hT) rfl ?_
    refine v_call (w := 2) [some (2, 0), some (0, 2)] hO (hi_X11_mould_15 hT) rfl rfl ?_
    refine v_load (v := (2, 0)) (hi_X11_refuse_0 hT) rfl rfl ?_
    refine v_load (v := (0, 2)) (hi_X11_refuse_1 hT) rfl rfl ?_
    refine v_putf (r := 0) hO (hi_X11_refuse_2 hT) rfl (fun hf4 => ?_)
    refine v_push (0) (hi_X11_refuse_5 hT) rfl ?_
    refine v_ret (hi_X11_refuse_6 hT) (Or.inl rfl) ?_
    show vP D T N 168 18 (zset h 0 0 (0, 2)) [some (2, 0), some (0, x), some (0, y), some (0, z)] [(0, 0)] _
    refine v_ret (hi_X11_mould_18 hT) (Or.inl rfl) ?_
    exact k0 hc1
  · have hc1 : 0 ≤ x := Int.not_lt.mp hc1
    refine v_load (v := (0, x)) (hi_X2_hasCopy_4 hT) rfl rfl ?_
    refine v_load (v := (2, 39)) (hi_X2_hasCopy_5 hT) rfl rfl ?_
    refine v_getf (v := (0, (P 0 2))) (r := 39) (hi_X2_hasCopy_6 hT) rfl rfl (fun _ => p2) ?_
    refine v_ic (hi_X2_hasCopy_9 hT) (fun hc5 => ?_) (fun hc5 => ?_)
    · have hc5 : x < (P 0 2) := hc5
      refine v_push (1) (hi_X2_hasCopy_12 hT) rfl ?_
      refine v_goto (hi_X2_hasCopy_13 hT) ?_
      refine v_ret (hi_X2_hasCopy_17 hT) (Or.inl rfl) ?_
      show vP D T N 44 5 h [some (2, 39), some (0, x), some (0, y), some (0, z)] [(0, 1)] _
      refine v_if (hi_X2_hasCopyCell_5 hT) (fun hc6 => absurd (show (1 : Int) = 0 from hc6) (by decide)) (fun _ => ?_)
      refine v_load (v := (2, 39)) (hi_X2_hasCopyCell_8 hT) rfl rfl ?_
      refine v_load (v := (0, y)) (hi_X2_hasCopyCell_9 hT) rfl rfl ?_
      refine v_load (v := (0, z)) (hi_X2_hasCopyCell_10 hT) rfl rfl ?_
      refine v_call (w := 3) [some (2, 39), some (0, y), some (0, z)] hO (hi_X2_hasCopyCell_11 hT) rfl rfl ?_
      refine v_load (v := (0, y)) (hi_X2_hasCell_0 hT) rfl rfl ?_
      refine v_if (hi_X2_hasCell_1 hT) (fun hc7 => ?_) (fun hc7 => ?_)
      · have hc7 : y < 0 := hc7
        refine v_push (0) (hi_X2_hasCell_28 hT) rfl ?_
        refine v_ret (hi_X2_hasCell_29 hT) (Or.inl rfl) ?_
        show vP D T N 44 14 h [some (2, 39), some (0, x), some (0, y), some (0, z)] [(0, 0)] _
        refine v_if (hi_X2_hasCopyCell_14 hT) (fun _ => ?_) (fun hc8 => absurd (show (0 : Int) = 0 from (by decide)) hc8)
        refine v_push (0) (hi_X2_hasCopyCell_21 hT) rfl ?_
        refine v_ret (hi_X2_hasCopyCell_22 hT) (Or.inl rfl) ?_
        show vP D T N 168 10 h [some (2, 0), some (0, x), some (0, y), some (0, z)] [(0, 0)] _
        refine v_if (hi_X11_mould_10 hT) (fun _ => ?_) (fun hc9 => absurd (show (0 : Int) = 0 from (by decide)) hc9)
        refine v_load (v := (2, 0)) (hi_X11_mould_13 hT) rfl rfl ?_
        refine v_push (2) (hi_X11_mould_14 hT) rfl ?_
        refine v_call (w := 2) [some (2, 0), some (0, 2)] hO (hi_X11_mould_15 hT) rfl rfl ?_
        refine v_load (v := (2, 0)) (hi_X11_refuse_0 hT) rfl rfl ?_
        refine v_load (v := (0, 2)) (hi_X11_refuse_1 hT) rfl rfl ?_
        refine v_putf (r := 0) hO (hi_X11_refuse_2 hT) rfl (fun hf10 => ?_)
        refine v_push (0) (hi_X11_refuse_5 hT) rfl ?_
        refine v_ret (hi_X11_refuse_6 hT) (Or.inl rfl) ?_
        show vP D T N 168 18 (zset h 0 0 (0, 2)) [some (2, 0), some (0, x), some (0, y), some (0, z)] [(0, 0)] _
        refine v_ret (hi_X11_mould_18 hT) (Or.inl rfl) ?_
        exact k1 hc1 hc5 hc7
      · have hc7 : 0 ≤ y := Int.not_lt.mp hc7
        refine v_load (v := (0, y)) (hi_X2_hasCell_4 hT) rfl rfl ?_
        refine v_load (v := (2, 39)) (hi_X2_hasCell_5 hT) rfl rfl ?_
        refine v_getf (v := (0, (P 0 0))) (r := 39) (hi_X2_hasCell_6 hT) rfl rfl (fun _ => p0) ?_
        refine v_ic (hi_X2_hasCell_9 hT) (fun hc11 => ?_) (fun hc11 => ?_)
        · have hc11 : y < (P 0 0) := hc11
          refine v_load (v := (0, z)) (hi_X2_hasCell_12 hT) rfl rfl ?_
          refine v_if (hi_X2_hasCell_13 hT) (fun hc12 => ?_) (fun hc12 => ?_)
          · have hc12 : z < 0 := hc12
            refine v_push (0) (hi_X2_hasCell_28 hT) rfl ?_
            refine v_ret (hi_X2_hasCell_29 hT) (Or.inl rfl) ?_
            show vP D T N 44 14 h [some (2, 39), some (0, x), some (0, y), some (0, z)] [(0, 0)] _
            refine v_if (hi_X2_hasCopyCell_14 hT) (fun _ => ?_) (fun hc13 => absurd (show (0 : Int) = 0 from (by decide)) hc13)
            refine v_push (0) (hi_X2_hasCopyCell_21 hT) rfl ?_
            refine v_ret (hi_X2_hasCopyCell_22 hT) (Or.inl rfl) ?_
            show vP D T N 168 10 h [some (2, 0), some (0, x), some (0, y), some (0, z)] [(0, 0)] _
            refine v_if (hi_X11_mould_10 hT) (fun _ => ?_) (fun hc14 => absurd (show (0 : Int) = 0 from (by decide)) hc14)
            refine v_load (v := (2, 0)) (hi_X11_mould_13 hT) rfl rfl ?_
            refine v_push (2) (hi_X11_mould_14 hT) rfl ?_
            refine v_call (w := 2) [some (2, 0), some (0, 2)] hO (hi_X11_mould_15 hT) rfl rfl ?_
            refine v_load (v := (2, 0)) (hi_X11_refuse_0 hT) rfl rfl ?_
            refine v_load (v := (0, 2)) (hi_X11_refuse_1 hT) rfl rfl ?_
            refine v_putf (r := 0) hO (hi_X11_refuse_2 hT) rfl (fun hf15 => ?_)
            refine v_push (0) (hi_X11_refuse_5 hT) rfl ?_
            refine v_ret (hi_X11_refuse_6 hT) (Or.inl rfl) ?_
            show vP D T N 168 18 (zset h 0 0 (0, 2)) [some (2, 0), some (0, x), some (0, y), some (0, z)] [(0, 0)] _
            refine v_ret (hi_X11_mould_18 hT) (Or.inl rfl) ?_
            exact k2 hc1 hc5 hc7 hc11 hc12
          · have hc12 : 0 ≤ z := Int.not_lt.mp hc12
            refine v_load (v := (0, z)) (hi_X2_hasCell_16 hT) rfl rfl ?_
            refine v_load (v := (2, 39)) (hi_X2_hasCell_17 hT) rfl rfl ?_
            refine v_getf (v := (0, (P 0 1))) (r := 39) (hi_X2_hasCell_18 hT) rfl rfl (fun _ => p1) ?_
            refine v_ic (hi_X2_hasCell_21 hT) (fun hc16 => ?_) (fun hc16 => ?_)
            · have hc16 : z < (P 0 1) := hc16
              refine v_push (1) (hi_X2_hasCell_24 hT) rfl ?_
              refine v_goto (hi_X2_hasCell_25 hT) ?_
              refine v_ret (hi_X2_hasCell_29 hT) (Or.inl rfl) ?_
              show vP D T N 44 14 h [some (2, 39), some (0, x), some (0, y), some (0, z)] [(0, 1)] _
              refine v_if (hi_X2_hasCopyCell_14 hT) (fun hc17 => absurd (show (1 : Int) = 0 from hc17) (by decide)) (fun _ => ?_)
              refine v_push (1) (hi_X2_hasCopyCell_17 hT) rfl ?_
              refine v_goto (hi_X2_hasCopyCell_18 hT) ?_
              refine v_ret (hi_X2_hasCopyCell_22 hT) (Or.inl rfl) ?_
              show vP D T N 168 10 h [some (2, 0), some (0, x), some (0, y), some (0, z)] [(0, 1)] _
              refine v_if (hi_X11_mould_10 hT) (fun hc18 => absurd (show (1 : Int) = 0 from hc18) (by decide)) (fun _ => ?_)
              exact k3 hc1 hc5 hc7 hc11 hc12 hc16
            · have hc16 : (P 0 1) ≤ z := Int.not_lt.mp hc16
              refine v_push (0) (hi_X2_hasCell_28 hT) rfl ?_
              refine v_ret (hi_X2_hasCell_29 hT) (Or.inl rfl) ?_
              show vP D T N 44 14 h [some (2, 39), some (0, x), some (0, y), some (0, z)] [(0, 0)] _
              refine v_if (hi_X2_hasCopyCell_14 hT) (fun _ => ?_) (fun hc19 => absurd (show (0 : Int) = 0 from (by decide)) hc19)
              refine v_push (0) (hi_X2_hasCopyCell_21 hT) rfl ?_
              refine v_ret (hi_X2_hasCopyCell_22 hT) (Or.inl rfl) ?_
              show vP D T N 168 10 h [some (2, 0), some (0, x), some (0, y), some (0, z)] [(0, 0)] _
              refine v_if (hi_X11_mould_10 hT) (fun _ => ?_) (fun hc20 => absurd (show (0 : Int) = 0 from (by decide)) hc20)
              refine v_load (v := (2, 0)) (hi_X11_mould_13 hT) rfl rfl ?_
              refine v_push (2) (hi_X11_mould_14 hT) rfl ?_
              refine v_call (w := 2) [some (2, 0), some (0, 2)] hO (hi_X11_mould_15 hT) rfl rfl ?_
              refine v_load (v := (2, 0)) (hi_X11_refuse_0 hT) rfl rfl ?_
              refine v_load (v := (0, 2)) (hi_X11_refuse_1 hT) rfl rfl ?_
              refine v_putf (r := 0) hO (hi_X11_refuse_2 hT) rfl (fun hf21 => ?_)
              refine v_push (0) (hi_X11_refuse_5 hT) rfl ?_
              refine v_ret (hi_X11_refuse_6 hT) (Or.inl rfl) ?_
              show vP D T N 168 18 (zset h 0 0 (0, 2)) [some (2, 0), some (0, x), some (0, y), some (0, z)] [(0, 0)] _
              refine v_ret (hi_X11_mould_18 hT) (Or.inl rfl) ?_
              exact k4 hc1 hc5 hc7 hc11 hc12 hc16
        · have hc11 : (P 0 0) ≤ y := Int.not_lt.mp hc11
          refine v_push (0) (hi_X2_hasCell_28 hT) rfl ?_
          refine v_ret (hi_X2_hasCell_29 hT) (Or.inl rfl) ?_
          show vP D T N 44 14 h [some (2, 39), some (0, x), some (0, y), some (0, z)] [(0, 0)] _
          refine v_if (hi_X2_hasCopyCell_14 hT) (fun _ => ?_) (fun hc22 => absurd (show (0 : Int) = 0 from (by decide)) hc22)
          refine v_push (0) (hi_X2_hasCopyCell_21 hT) rfl ?_
          refine v_ret (hi_X2_hasCopyCell_22 hT) (Or.inl rfl) ?_
          show vP D T N 168 10 h [some (2, 0), some (0, x), some (0, y), some (0, z)] [(0, 0)] _
          refine v_if (hi_X11_mould_10 hT) (fun _ => ?_) (fun hc23 => absurd (show (0 : Int) = 0 from (by decide)) hc23)
          refine v_load (v := (2, 0)) (hi_X11_mould_13 hT) rfl rfl ?_
          refine v_push (2) (hi_X11_mould_14 hT) rfl ?_
          refine v_call (w := 2) [some (2, 0), some (0, 2)] hO (hi_X11_mould_15 hT) rfl rfl ?_
          refine v_load (v := (2, 0)) (hi_X11_refuse_0 hT) rfl rfl ?_
          refine v_load (v := (0, 2)) (hi_X11_refuse_1 hT) rfl rfl ?_
          refine v_putf (r := 0) hO (hi_X11_refuse_2 hT) rfl (fun hf24 => ?_)
          refine v_push (0) (hi_X11_refuse_5 hT) rfl ?_
          refine v_ret (hi_X11_refuse_6 hT) (Or.inl rfl) ?_
          show vP D T N 168 18 (zset h 0 0 (0, 2)) [some (2, 0), some (0, x), some (0, y), some (0, z)] [(0, 0)] _
          refine v_ret (hi_X11_mould_18 hT) (Or.inl rfl) ?_
          exact k5 hc1 hc5 hc7 hc11
    · have hc5 : (P 0 2) ≤ x := Int.not_lt.mp hc5
      refine v_push (0) (hi_X2_hasCopy_16 hT) rfl ?_
      refine v_ret (hi_X2_hasCopy_17 hT) (Or.inl rfl) ?_
      show vP D T N 44 5 h [some (2, 39), some (0, x), some (0, y), some (0, z)] [(0, 0)] _
      refine v_if (hi_X2_hasCopyCell_5 hT) (fun _ => ?_) (fun hc25 => absurd (show (0 : Int) = 0 from (by decide)) hc25)
      refine v_push (0) (hi_X2_hasCopyCell_21 hT) rfl ?_
      refine v_ret (hi_X2_hasCopyCell_22 hT) (Or.inl rfl) ?_
      show vP D T N 168 10 h [some (2, 0), some (0, x), some (0, y), some (0, z)] [(0, 0)] _
      refine v_if (hi_X11_mould_10 hT) (fun _ => ?_) (fun hc26 => absurd (show (0 : Int) = 0 from (by decide)) hc26)
      refine v_load (v := (2, 0)) (hi_X11_mould_13 hT) rfl rfl ?_
      refine v_push (2) (hi_X11_mould_14 hT) rfl ?_
      refine v_call (w := 2) [some (2, 0), some (0, 2)] hO (hi_X11_mould_15 hT) rfl rfl ?_
      refine v_load (v := (2, 0)) (hi_X11_refuse_0 hT) rfl rfl ?_
      refine v_load (v := (0, 2)) (hi_X11_refuse_1 hT) rfl rfl ?_
      refine v_putf (r := 0) hO (hi_X11_refuse_2 hT) rfl (fun hf27 => ?_)
      refine v_push (0) (hi_X11_refuse_5 hT) rfl ?_
      refine v_ret (hi_X11_refuse_6 hT) (Or.inl rfl) ?_
      show vP D T N 168 18 (zset h 0 0 (0, 2)) [some (2, 0), some (0, x), some (0, y), some (0, z)] [(0, 0)] _
      refine v_ret (hi_X11_mould_18 hT) (Or.inl rfl) ?_
      exact k6 hc1 hc5
theorem qt_mould19_39 {D : zD} {T : zT} (hT : hTab T) (hO : vOK T) {N : Nat} {h : zH} {Q : zR → Prop} {j u v : Nat} (hv0 : zHv h) (e7 : h 0 7 = (2, 39)) (bu : u < 8) (bv : v < 6)
    (k0 : vP D T N 39 0 h [some (2, 39), some (0, (j : Int)), some (0, (((v : Int) * 8) + (u : Int)))] [] (fun r1 => vP D T N 168 32 r1.1 [some (2, 0), some (0, (j : Int)), some (0, (u : Int)), some (0, (v : Int))] (zpush r1.2 []) Q)) :
    vP D T N 168 19 h [some (2, 0), some (0, (j : Int)), some (0, (u : Int)), some (0, (v : Int))] [] Q := by
  refine v_load (v := (2, 0)) (hz_X11_mould hT _ _ rfl) rfl rfl ?_
  refine v_getf (v := (2, 39)) (r := 0) (hz_X11_mould hT _ _ rfl) rfl rfl (fun _ => e7) ?_
  refine v_load (v := (0, (j : Int))) (hz_X11_mould hT _ _ rfl) rfl rfl ?_
  refine v_load (v := (0, (u : Int))) (hz_X11_mould hT _ _ rfl) rfl rfl ?_
  refine v_load (v := (0, (v : Int))) (hz_X11_mould hT _ _ rfl) rfl rfl ?_
  refine v_call (w := 2) [some (0, (u : Int)), some (0, (v : Int))] hO (hz_X11_mould hT _ _ rfl) rfl rfl ?_
  refine v_load (v := (0, (v : Int))) (hi_X2_cellAt_0 hT) rfl rfl ?_
  refine v_push (8) (hi_X2_cellAt_1 hT) rfl ?_
  refine v_bin (w := ((v : Int) * 8)) (hi_X2_cellAt_3 hT) (hq_mul (by omega) (by omega)) ?_
  refine v_load (v := (0, (u : Int))) (hi_X2_cellAt_4 hT) rfl rfl ?_
  refine v_bin (w := (((v : Int) * 8) + (u : Int))) (hi_X2_cellAt_5 hT) (hq_add (by omega) (by omega)) ?_
  refine v_ret (hi_X2_cellAt_6 hT) (Or.inl rfl) ?_
  show vP D T N 168 29 h [some (2, 0), some (0, (j : Int)), some (0, (u : Int)), some (0, (v : Int))] [(0, (((v : Int) * 8) + (u : Int))), (0, (j : Int)), (2, 39)] _
  refine v_call (w := 3) [some (2, 39), some (0, (j : Int)), some (0, (((v : Int) * 8) + (u : Int)))] hO (hz_X11_mould hT _ _ rfl) rfl rfl ?_
  exact k0 
theorem qt_honey0_39 {D : zD} {T : zT} (hT : hTab T) (hO : vOK T) {N : Nat} {h : zH} {Q : zR → Prop} {P : PT} (x y z : Int) (hv0 : zHv h) (e7 : h 0 7 = (2, 39)) (p0 : h 39 0 = (0, P 0 0)) (p1 : h 39 1 = (0, P 0 1)) (p2 : h 39 2 = (0, P 0 2)) (p3 : h 39 3 = (0, P 0 3)) (lb : (0 ≤ P 0 0 ∧ P 0 0 ≤ 8) ∧ (0 ≤ P 0 1 ∧ P 0 1 ≤ 6) ∧ (0 ≤ P 0 2 ∧ P 0 2 ≤ 3) ∧ (0 ≤ P 0 3 ∧ P 0 3 ≤ 6))
    (k0 : (x < 0) → Q (zset h 0 0 (0, 2), some (0, 0)))
    (k1 : (0 ≤ x) → (x < (P 0 2)) → (y < 0) → Q (zset h 0 0 (0, 2), some (0, 0)))
    (k2 : (0 ≤ x) → (x < (P 0 2)) → (0 ≤ y) → (y < (P 0 0)) → (z < 0) → Q (zset h 0 0 (0, 2), some (0, 0)))
    (k3 : (0 ≤ x) → (x < (P 0 2)) → (0 ≤ y) → (y < (P 0 0)) → (0 ≤ z) → (z < (P 0 1)) → vP D T N 160 19 h [some (2, 0), some (0, x), some (0, y), some (0, z)] [] Q)
    (k4 : (0 ≤ x) → (x < (P 0 2)) → (0 ≤ y) → (y < (P 0 0)) → (0 ≤ z) → ((P 0 1) ≤ z) → Q (zset h 0 0 (0, 2), some (0, 0)))
    (k5 : (0 ≤ x) → (x < (P 0 2)) → (0 ≤ y) → ((P 0 0) ≤ y) → Q (zset h 0 0 (0, 2), some (0, 0)))
    (k6 : (0 ≤ x) → ((P 0 2) ≤ x) → Q (zset h 0 0 (0, 2), some (0, 0))) :
    vP D T N 160 0 h [some (2, 0), some (0, x), some (0, y), some (0, z)] [] Q := by
  refine v_load (v := (2, 0)) (hz_X11_honey hT _ _ rfl) rfl rfl ?_
  refine v_getf (v := (2, 39)) (r := 0) (hz_X11_honey hT _ _ rfl) rfl rfl (fun _ => e7) ?_
  refine v_load (v := (0, x)) (hz_X11_honey hT _ _ rfl) rfl rfl ?_
  refine v_load (v := (0, y)) (hz_X11_honey hT _ _ rfl) rfl rfl ?_
  refine v_load (v := (0, z)) (hz_X11_honey hT _ _ rfl) rfl rfl ?_
  refine v_call (w := 4) [some (2, 39), some (0, x), some (0, y), some (0, z)] hO (hz_X11_honey hT _ _ rfl) rfl rfl ?_
  refine v_load (v := (2, 39)) (hi_X2_hasCopyCell_0 hT) rfl rfl ?_
  refine v_load (v := (0, x)) (hi_X2_hasCopyCell_1 hT) rfl rfl ?_
  refine v_call (w := 2) [some (2, 39), some (0, x)] hO (hi_X2_hasCopyCell_2 hT) rfl rfl ?_
  refine v_load (v := (0, x)) (hi_X2_hasCopy_0 hT) rfl rfl ?_
  refine v_if (hi_X2_hasCopy_1 hT) (fun hc1 => ?_) (fun hc1 => ?_)
  · have hc1 : x < 0 := hc1
    refine v_push (0) (hi_X2_hasCopy_16 hT) rfl ?_
    refine v_ret (hi_X2_hasCopy_17 hT) (Or.inl rfl) ?_
    show vP D T N 44 5 h [some (2, 39), some (0, x), some (0, y), some (0, z)] [(0, 0)] _
    refine v_if (hi_X2_hasCopyCell_5 hT) (fun _ => ?_) (fun hc2 => absurd (show (0 : Int) = 0 from (by decide)) hc2)
    refine v_push (0) (hi_X2_hasCopyCell_21 hT) rfl ?_
    refine v_ret (hi_X2_hasCopyCell_22 hT) (Or.inl rfl) ?_
    show vP D T N 160 10 h [some (2, 0), some (0, x), some (0, y), some (0, z)] [(0, 0)] _
    refine v_if (hi_X11_honey_10 hT) (fun _ => ?_) (fun hc3 => absurd (show (0 : Int) = 0 from (by decide)) hc3)
    refine v_load (v := (2, 0)) (hi_X11_honey_13 hT) rfl rfl ?_
    refine v_push (2) (hi_X11_honey_14 hT) rfl ?_
    refine v_call (w := 2) [some (2, 0), some (0, 2)] hO (hi_X11_honey_15 hT) rfl rfl ?_
    refine v_load (v := (2, 0)) (hi_X11_refuse_0 hT) rfl rfl ?_
    refine v_load (v := (0, 2)) (hi_X11_refuse_1 hT) rfl rfl ?_
    refine v_putf (r := 0) hO (hi_X11_refuse_2 hT) rfl (fun hf4 => ?_)
    refine v_push (0) (hi_X11_refuse_5 hT) rfl ?_
    refine v_ret (hi_X11_refuse_6 hT) (Or.inl rfl) ?_
    show vP D T N 160 18 (zset h 0 0 (0, 2)) [some (2, 0), some (0, x), some (0, y), some (0, z)] [(0, 0)] _
    refine v_ret (hi_X11_honey_18 hT) (Or.inl rfl) ?_
    exact k0 hc1
  · have hc1 : 0 ≤ x := Int.not_lt.mp hc1
    refine v_load (v := (0, x)) (hi_X2_hasCopy_4 hT) rfl rfl ?_
    refine v_load (v := (2, 39)) (hi_X2_hasCopy_5 hT) rfl rfl ?_
    refine v_getf (v := (0, (P 0 2))) (r := 39) (hi_X2_hasCopy_6 hT) rfl rfl (fun _ => p2) ?_
    refine v_ic (hi_X2_hasCopy_9 hT) (fun hc5 => ?_) (fun hc5 => ?_)
    · have hc5 : x < (P 0 2) := hc5
      refine v_push (1) (hi_X2_hasCopy_12 hT) rfl ?_
      refine v_goto (hi_X2_hasCopy_13 hT) ?_
      refine v_ret (hi_X2_hasCopy_17 hT) (Or.inl rfl) ?_
      show vP D T N 44 5 h [some (2, 39), some (0, x), some (0, y), some (0, z)] [(0, 1)] _
      refine v_if (hi_X2_hasCopyCell_5 hT) (fun hc6 => absurd (show (1 : Int) = 0 from hc6) (by decide)) (fun _ => ?_)
      refine v_load (v := (2, 39)) (hi_X2_hasCopyCell_8 hT) rfl rfl ?_
      refine v_load (v := (0, y)) (hi_X2_hasCopyCell_9 hT) rfl rfl ?_
      refine v_load (v := (0, z)) (hi_X2_hasCopyCell_10 hT) rfl rfl ?_
      refine v_call (w := 3) [some (2, 39), some (0, y), some (0, z)] hO (hi_X2_hasCopyCell_11 hT) rfl rfl ?_
      refine v_load (v := (0, y)) (hi_X2_hasCell_0 hT) rfl rfl ?_
      refine v_if (hi_X2_hasCell_1 hT) (fun hc7 => ?_) (fun hc7 => ?_)
      · have hc7 : y < 0 := hc7
        refine v_push (0) (hi_X2_hasCell_28 hT) rfl ?_
        refine v_ret (hi_X2_hasCell_29 hT) (Or.inl rfl) ?_
        show vP D T N 44 14 h [some (2, 39), some (0, x), some (0, y), some (0, z)] [(0, 0)] _
        refine v_if (hi_X2_hasCopyCell_14 hT) (fun _ => ?_) (fun hc8 => absurd (show (0 : Int) = 0 from (by decide)) hc8)
        refine v_push (0) (hi_X2_hasCopyCell_21 hT) rfl ?_
        refine v_ret (hi_X2_hasCopyCell_22 hT) (Or.inl rfl) ?_
        show vP D T N 160 10 h [some (2, 0), some (0, x), some (0, y), some (0, z)] [(0, 0)] _
        refine v_if (hi_X11_honey_10 hT) (fun _ => ?_) (fun hc9 => absurd (show (0 : Int) = 0 from (by decide)) hc9)
        refine v_load (v := (2, 0)) (hi_X11_honey_13 hT) rfl rfl ?_
        refine v_push (2) (hi_X11_honey_14 hT) rfl ?_
        refine v_call (w := 2) [some (2, 0), some (0, 2)] hO (hi_X11_honey_15 hT) rfl rfl ?_
        refine v_load (v := (2, 0)) (hi_X11_refuse_0 hT) rfl rfl ?_
        refine v_load (v := (0, 2)) (hi_X11_refuse_1 hT) rfl rfl ?_
        refine v_putf (r := 0) hO (hi_X11_refuse_2 hT) rfl (fun hf10 => ?_)
        refine v_push (0) (hi_X11_refuse_5 hT) rfl ?_
        refine v_ret (hi_X11_refuse_6 hT) (Or.inl rfl) ?_
        show vP D T N 160 18 (zset h 0 0 (0, 2)) [some (2, 0), some (0, x), some (0, y), some (0, z)] [(0, 0)] _
        refine v_ret (hi_X11_honey_18 hT) (Or.inl rfl) ?_
        exact k1 hc1 hc5 hc7
      · have hc7 : 0 ≤ y := Int.not_lt.mp hc7
        refine v_load (v := (0, y)) (hi_X2_hasCell_4 hT) rfl rfl ?_
        refine v_load (v := (2, 39)) (hi_X2_hasCell_5 hT) rfl rfl ?_
        refine v_getf (v := (0, (P 0 0))) (r := 39) (hi_X2_hasCell_6 hT) rfl rfl (fun _ => p0) ?_
        refine v_ic (hi_X2_hasCell_9 hT) (fun hc11 => ?_) (fun hc11 => ?_)
        · have hc11 : y < (P 0 0) := hc11
          refine v_load (v := (0, z)) (hi_X2_hasCell_12 hT) rfl rfl ?_
          refine v_if (hi_X2_hasCell_13 hT) (fun hc12 => ?_) (fun hc12 => ?_)
          · have hc12 : z < 0 := hc12
            refine v_push (0) (hi_X2_hasCell_28 hT) rfl ?_
            refine v_ret (hi_X2_hasCell_29 hT) (Or.inl rfl) ?_
            show vP D T N 44 14 h [some (2, 39), some (0, x), some (0, y), some (0, z)] [(0, 0)] _
            refine v_if (hi_X2_hasCopyCell_14 hT) (fun _ => ?_) (fun hc13 => absurd (show (0 : Int) = 0 from (by decide)) hc13)
            refine v_push (0) (hi_X2_hasCopyCell_21 hT) rfl ?_
            refine v_ret (hi_X2_hasCopyCell_22 hT) (Or.inl rfl) ?_
            show vP D T N 160 10 h [some (2, 0), some (0, x), some (0, y), some (0, z)] [(0, 0)] _
            refine v_if (hi_X11_honey_10 hT) (fun _ => ?_) (fun hc14 => absurd (show (0 : Int) = 0 from (by decide)) hc14)
            refine v_load (v := (2, 0)) (hi_X11_honey_13 hT) rfl rfl ?_
            refine v_push (2) (hi_X11_honey_14 hT) rfl ?_
            refine v_call (w := 2) [some (2, 0), some (0, 2)] hO (hi_X11_honey_15 hT) rfl rfl ?_
            refine v_load (v := (2, 0)) (hi_X11_refuse_0 hT) rfl rfl ?_
            refine v_load (v := (0, 2)) (hi_X11_refuse_1 hT) rfl rfl ?_
            refine v_putf (r := 0) hO (hi_X11_refuse_2 hT) rfl (fun hf15 => ?_)
            refine v_push (0) (hi_X11_refuse_5 hT) rfl ?_
            refine v_ret (hi_X11_refuse_6 hT) (Or.inl rfl) ?_
            show vP D T N 160 18 (zset h 0 0 (0, 2)) [some (2, 0), some (0, x), some (0, y), some (0, z)] [(0, 0)] _
            refine v_ret (hi_X11_honey_18 hT) (Or.inl rfl) ?_
            exact k2 hc1 hc5 hc7 hc11 hc12
          · have hc12 : 0 ≤ z := Int.not_lt.mp hc12
            refine v_load (v := (0, z)) (hi_X2_hasCell_16 hT) rfl rfl ?_
            refine v_load (v := (2, 39)) (hi_X2_hasCell_17 hT) rfl rfl ?_
            refine v_getf (v := (0, (P 0 1))) (r := 39) (hi_X2_hasCell_18 hT) rfl rfl (fun _ => p1) ?_
            refine v_ic (hi_X2_hasCell_21 hT) (fun hc16 => ?_) (fun hc16 => ?_)
            · have hc16 : z < (P 0 1) := hc16
              refine v_push (1) (hi_X2_hasCell_24 hT) rfl ?_
              refine v_goto (hi_X2_hasCell_25 hT) ?_
              refine v_ret (hi_X2_hasCell_29 hT) (Or.inl rfl) ?_
              show vP D T N 44 14 h [some (2, 39), some (0, x), some (0, y), some (0, z)] [(0, 1)] _
              refine v_if (hi_X2_hasCopyCell_14 hT) (fun hc17 => absurd (show (1 : Int) = 0 from hc17) (by decide)) (fun _ => ?_)
              refine v_push (1) (hi_X2_hasCopyCell_17 hT) rfl ?_
              refine v_goto (hi_X2_hasCopyCell_18 hT) ?_
              refine v_ret (hi_X2_hasCopyCell_22 hT) (Or.inl rfl) ?_
              show vP D T N 160 10 h [some (2, 0), some (0, x), some (0, y), some (0, z)] [(0, 1)] _
              refine v_if (hi_X11_honey_10 hT) (fun hc18 => absurd (show (1 : Int) = 0 from hc18) (by decide)) (fun _ => ?_)
              exact k3 hc1 hc5 hc7 hc11 hc12 hc16
            · have hc16 : (P 0 1) ≤ z := Int.not_lt.mp hc16
              refine v_push (0) (hi_X2_hasCell_28 hT) rfl ?_
              refine v_ret (hi_X2_hasCell_29 hT) (Or.inl rfl) ?_
              show vP D T N 44 14 h [some (2, 39), some (0, x), some (0, y), some (0, z)] [(0, 0)] _
              refine v_if (hi_X2_hasCopyCell_14 hT) (fun _ => ?_) (fun hc19 => absurd (show (0 : Int) = 0 from (by decide)) hc19)
              refine v_push (0) (hi_X2_hasCopyCell_21 hT) rfl ?_
              refine v_ret (hi_X2_hasCopyCell_22 hT) (Or.inl rfl) ?_
              show vP D T N 160 10 h [some (2, 0), some (0, x), some (0, y), some (0, z)] [(0, 0)] _
              refine v_if (hi_X11_honey_10 hT) (fun _ => ?_) (fun hc20 => absurd (show (0 : Int) = 0 from (by decide)) hc20)
              refine v_load (v := (2, 0)) (hi_X11_honey_13 hT) rfl rfl ?_
              refine v_push (2) (hi_X11_honey_14 hT) rfl ?_
              refine v_call (w := 2) [some (2, 0), some (0, 2)] hO (hi_X11_honey_15 hT) rfl rfl ?_
              refine v_load (v := (2, 0)) (hi_X11_refuse_0 hT) rfl rfl ?_
              refine v_load (v := (0, 2)) (hi_X11_refuse_1 hT) rfl rfl ?_
              refine v_putf (r := 0) hO (hi_X11_refuse_2 hT) rfl (fun hf21 => ?_)
              refine v_push (0) (hi_X11_refuse_5 hT) rfl ?_
              refine v_ret (hi_X11_refuse_6 hT) (Or.inl rfl) ?_
              show vP D T N 160 18 (zset h 0 0 (0, 2)) [some (2, 0), some (0, x), some (0, y), some (0, z)] [(0, 0)] _
              refine v_ret (hi_X11_honey_18 hT) (Or.inl rfl) ?_
              exact k4 hc1 hc5 hc7 hc11 hc12 hc16
        · have hc11 : (P 0 0) ≤ y := Int.not_lt.mp hc11
          refine v_push (0) (hi_X2_hasCell_28 hT) rfl ?_
          refine v_ret (hi_X2_hasCell_29 hT) (Or.inl rfl) ?_
          show vP D T N 44 14 h [some (2, 39), some (0, x), some (0, y), some (0, z)] [(0, 0)] _
          refine v_if (hi_X2_hasCopyCell_14 hT) (fun _ => ?_) (fun hc22 => absurd (show (0 : Int) = 0 from (by decide)) hc22)
          refine v_push (0) (hi_X2_hasCopyCell_21 hT) rfl ?_
          refine v_ret (hi_X2_hasCopyCell_22 hT) (Or.inl rfl) ?_
          show vP D T N 160 10 h [some (2, 0), some (0, x), some (0, y), some (0, z)] [(0, 0)] _
          refine v_if (hi_X11_honey_10 hT) (fun _ => ?_) (fun hc23 => absurd (show (0 : Int) = 0 from (by decide)) hc23)
          refine v_load (v := (2, 0)) (hi_X11_honey_13 hT) rfl rfl ?_
          refine v_push (2) (hi_X11_honey_14 hT) rfl ?_
          refine v_call (w := 2) [some (2, 0), some (0, 2)] hO (hi_X11_honey_15 hT) rfl rfl ?_
          refine v_load (v := (2, 0)) (hi_X11_refuse_0 hT) rfl rfl ?_
          refine v_load (v := (0, 2)) (hi_X11_refuse_1 hT) rfl rfl ?_
          refine v_putf (r := 0) hO (hi_X11_refuse_2 hT) rfl (fun hf24 => ?_)
          refine v_push (0) (hi_X11_refuse_5 hT) rfl ?_
          refine v_ret (hi_X11_refuse_6 hT) (Or.inl rfl) ?_
          show vP D T N 160 18 (zset h 0 0 (0, 2)) [some (2, 0), some (0, x), some (0, y), some (0, z)] [(0, 0)] _
          refine v_ret (hi_X11_honey_18 hT) (Or.inl rfl) ?_
          exact k5 hc1 hc5 hc7 hc11
    · have hc5 : (P 0 2) ≤ x := Int.not_lt.mp hc5
      refine v_push (0) (hi_X2_hasCopy_16 hT) rfl ?_
      refine v_ret (hi_X2_hasCopy_17 hT) (Or.inl rfl) ?_
      show vP D T N 44 5 h [some (2, 39), some (0, x), some (0, y), some (0, z)] [(0, 0)] _
      refine v_if (hi_X2_hasCopyCell_5 hT) (fun _ => ?_) (fun hc25 => absurd (show (0 : Int) = 0 from (by decide)) hc25)
      refine v_push (0) (hi_X2_hasCopyCell_21 hT) rfl ?_
      refine v_ret (hi_X2_hasCopyCell_22 hT) (Or.inl rfl) ?_
      show vP D T N 160 10 h [some (2, 0), some (0, x), some (0, y), some (0, z)] [(0, 0)] _
      refine v_if (hi_X11_honey_10 hT) (fun _ => ?_) (fun hc26 => absurd (show (0 : Int) = 0 from (by decide)) hc26)
      refine v_load (v := (2, 0)) (hi_X11_honey_13 hT) rfl rfl ?_
      refine v_push (2) (hi_X11_honey_14 hT) rfl ?_
      refine v_call (w := 2) [some (2, 0), some (0, 2)] hO (hi_X11_honey_15 hT) rfl rfl ?_
      refine v_load (v := (2, 0)) (hi_X11_refuse_0 hT) rfl rfl ?_
      refine v_load (v := (0, 2)) (hi_X11_refuse_1 hT) rfl rfl ?_
      refine v_putf (r := 0) hO (hi_X11_refuse_2 hT) rfl (fun hf27 => ?_)
      refine v_push (0) (hi_X11_refuse_5 hT) rfl ?_
      refine v_ret (hi_X11_refuse_6 hT) (Or.inl rfl) ?_
      show vP D T N 160 18 (zset h 0 0 (0, 2)) [some (2, 0), some (0, x), some (0, y), some (0, z)] [(0, 0)] _
      refine v_ret (hi_X11_honey_18 hT) (Or.inl rfl) ?_
      exact k6 hc1 hc5
theorem qt_honey19_39 {D : zD} {T : zT} (hT : hTab T) (hO : vOK T) {N : Nat} {h : zH} {Q : zR → Prop} {j u v : Nat} (hv0 : zHv h) (e7 : h 0 7 = (2, 39)) (bu : u < 8) (bv : v < 6)
    (k0 : vP D T N 55 0 h [some (2, 39), some (0, (j : Int)), some (0, (((v : Int) * 8) + (u : Int))), none] [] (fun r1 => vP D T N 160 32 r1.1 [some (2, 0), some (0, (j : Int)), some (0, (u : Int)), some (0, (v : Int))] (zpush r1.2 []) Q)) :
    vP D T N 160 19 h [some (2, 0), some (0, (j : Int)), some (0, (u : Int)), some (0, (v : Int))] [] Q := by
  refine v_load (v := (2, 0)) (hz_X11_honey hT _ _ rfl) rfl rfl ?_
  refine v_getf (v := (2, 39)) (r := 0) (hz_X11_honey hT _ _ rfl) rfl rfl (fun _ => e7) ?_
  refine v_load (v := (0, (j : Int))) (hz_X11_honey hT _ _ rfl) rfl rfl ?_
  refine v_load (v := (0, (u : Int))) (hz_X11_honey hT _ _ rfl) rfl rfl ?_
  refine v_load (v := (0, (v : Int))) (hz_X11_honey hT _ _ rfl) rfl rfl ?_
  refine v_call (w := 2) [some (0, (u : Int)), some (0, (v : Int))] hO (hz_X11_honey hT _ _ rfl) rfl rfl ?_
  refine v_load (v := (0, (v : Int))) (hi_X2_cellAt_0 hT) rfl rfl ?_
  refine v_push (8) (hi_X2_cellAt_1 hT) rfl ?_
  refine v_bin (w := ((v : Int) * 8)) (hi_X2_cellAt_3 hT) (hq_mul (by omega) (by omega)) ?_
  refine v_load (v := (0, (u : Int))) (hi_X2_cellAt_4 hT) rfl rfl ?_
  refine v_bin (w := (((v : Int) * 8) + (u : Int))) (hi_X2_cellAt_5 hT) (hq_add (by omega) (by omega)) ?_
  refine v_ret (hi_X2_cellAt_6 hT) (Or.inl rfl) ?_
  show vP D T N 160 29 h [some (2, 0), some (0, (j : Int)), some (0, (u : Int)), some (0, (v : Int))] [(0, (((v : Int) * 8) + (u : Int))), (0, (j : Int)), (2, 39)] _
  refine v_call (w := 4) [some (2, 39), some (0, (j : Int)), some (0, (((v : Int) * 8) + (u : Int))), none] hO (hz_X11_honey hT _ _ rfl) rfl rfl ?_
  exact k0 
theorem qt_clean0_39 {D : zD} {T : zT} (hT : hTab T) (hO : vOK T) {N : Nat} {h : zH} {Q : zR → Prop} {P : PT} (x y z : Int) (hv0 : zHv h) (e7 : h 0 7 = (2, 39)) (p0 : h 39 0 = (0, P 0 0)) (p1 : h 39 1 = (0, P 0 1)) (p2 : h 39 2 = (0, P 0 2)) (p3 : h 39 3 = (0, P 0 3)) (lb : (0 ≤ P 0 0 ∧ P 0 0 ≤ 8) ∧ (0 ≤ P 0 1 ∧ P 0 1 ≤ 6) ∧ (0 ≤ P 0 2 ∧ P 0 2 ≤ 3) ∧ (0 ≤ P 0 3 ∧ P 0 3 ≤ 6))
    (k0 : (x < 0) → Q (zset h 0 0 (0, 2), some (0, 0)))
    (k1 : (0 ≤ x) → (x < (P 0 2)) → (y < 0) → Q (zset h 0 0 (0, 2), some (0, 0)))
    (k2 : (0 ≤ x) → (x < (P 0 2)) → (0 ≤ y) → (y < (P 0 0)) → (z < 0) → Q (zset h 0 0 (0, 2), some (0, 0)))
    (k3 : (0 ≤ x) → (x < (P 0 2)) → (0 ≤ y) → (y < (P 0 0)) → (0 ≤ z) → (z < (P 0 1)) → vP D T N 149 19 h [some (2, 0), some (0, x), some (0, y), some (0, z)] [] Q)
    (k4 : (0 ≤ x) → (x < (P 0 2)) → (0 ≤ y) → (y < (P 0 0)) → (0 ≤ z) → ((P 0 1) ≤ z) → Q (zset h 0 0 (0, 2), some (0, 0)))
    (k5 : (0 ≤ x) → (x < (P 0 2)) → (0 ≤ y) → ((P 0 0) ≤ y) → Q (zset h 0 0 (0, 2), some (0, 0)))
    (k6 : (0 ≤ x) → ((P 0 2) ≤ x) → Q (zset h 0 0 (0, 2), some (0, 0))) :
    vP D T N 149 0 h [some (2, 0), some (0, x), some (0, y), some (0, z)] [] Q := by
  refine v_load (v := (2, 0)) (hz_X11_clean hT _ _ rfl) rfl rfl ?_
  refine v_getf (v := (2, 39)) (r := 0) (hz_X11_clean hT _ _ rfl) rfl rfl (fun _ => e7) ?_
  refine v_load (v := (0, x)) (hz_X11_clean hT _ _ rfl) rfl rfl ?_
  refine v_load (v := (0, y)) (hz_X11_clean hT _ _ rfl) rfl rfl ?_
  refine v_load (v := (0, z)) (hz_X11_clean hT _ _ rfl) rfl rfl ?_
  refine v_call (w := 4) [some (2, 39), some (0, x), some (0, y), some (0, z)] hO (hz_X11_clean hT _ _ rfl) rfl rfl ?_
  refine v_load (v := (2, 39)) (hi_X2_hasCopyCell_0 hT) rfl rfl ?_
  refine v_load (v := (0, x)) (hi_X2_hasCopyCell_1 hT) rfl rfl ?_
  refine v_call (w := 2) [some (2, 39), some (0, x)] hO (hi_X2_hasCopyCell_2 hT) rfl rfl ?_
  refine v_load (v := (0, x)) (hi_X2_hasCopy_0 hT) rfl rfl ?_
  refine v_if (hi_X2_hasCopy_1 hT) (fun hc1 => ?_) (fun hc1 => ?_)
  · have hc1 : x < 0 := hc1
    refine v_push (0) (hi_X2_hasCopy_16 hT) rfl ?_
    refine v_ret (hi_X2_hasCopy_17 hT) (Or.inl rfl) ?_
    show vP D T N 44 5 h [some (2, 39), some (0, x), some (0, y), some (0, z)] [(0, 0)] _
    refine v_if (hi_X2_hasCopyCell_5 hT) (fun _ => ?_) (fun hc2 => absurd (show (0 : Int) = 0 from (by decide)) hc2)
    refine v_push (0) (hi_X2_hasCopyCell_21 hT) rfl ?_
    refine v_ret (hi_X2_hasCopyCell_22 hT) (Or.inl rfl) ?_
    show vP D T N 149 10 h [some (2, 0), some (0, x), some (0, y), some (0, z)] [(0, 0)] _
    refine v_if (hi_X11_clean_10 hT) (fun _ => ?_) (fun hc3 => absurd (show (0 : Int) = 0 from (by decide)) hc3)
    refine v_load (v := (2, 0)) (hi_X11_clean_13 hT) rfl rfl ?_
    refine v_push (2) (hi_X11_clean_14 hT) rfl ?_
    refine v_call (w := 2) [some (2, 0), some (0, 2)] hO (hi_X11_clean_15 hT) rfl rfl ?_
    refine v_load (v := (2, 0)) (hi_X11_refuse_0 hT) rfl rfl ?_
    refine v_load (v := (0, 2)) (hi_X11_refuse_1 hT) rfl rfl ?_
    refine v_putf (r := 0) hO (hi_X11_refuse_2 hT) rfl (fun hf4 => ?_)
    refine v_push (0) (hi_X11_refuse_5 hT) rfl ?_
    refine v_ret (hi_X11_refuse_6 hT) (Or.inl rfl) ?_
    show vP D T N 149 18 (zset h 0 0 (0, 2)) [some (2, 0), some (0, x), some (0, y), some (0, z)] [(0, 0)] _
    refine v_ret (hi_X11_clean_18 hT) (Or.inl rfl) ?_
    exact k0 hc1
  · have hc1 : 0 ≤ x := Int.not_lt.mp hc1
    refine v_load (v := (0, x)) (hi_X2_hasCopy_4 hT) rfl rfl ?_
    refine v_load (v := (2, 39)) (hi_X2_hasCopy_5 hT) rfl rfl ?_
    refine v_getf (v := (0, (P 0 2))) (r := 39) (hi_X2_hasCopy_6 hT) rfl rfl (fun _ => p2) ?_
    refine v_ic (hi_X2_hasCopy_9 hT) (fun hc5 => ?_) (fun hc5 => ?_)
    · have hc5 : x < (P 0 2) := hc5
      refine v_push (1) (hi_X2_hasCopy_12 hT) rfl ?_
      refine v_goto (hi_X2_hasCopy_13 hT) ?_
      refine v_ret (hi_X2_hasCopy_17 hT) (Or.inl rfl) ?_
      show vP D T N 44 5 h [some (2, 39), some (0, x), some (0, y), some (0, z)] [(0, 1)] _
      refine v_if (hi_X2_hasCopyCell_5 hT) (fun hc6 => absurd (show (1 : Int) = 0 from hc6) (by decide)) (fun _ => ?_)
      refine v_load (v := (2, 39)) (hi_X2_hasCopyCell_8 hT) rfl rfl ?_
      refine v_load (v := (0, y)) (hi_X2_hasCopyCell_9 hT) rfl rfl ?_
      refine v_load (v := (0, z)) (hi_X2_hasCopyCell_10 hT) rfl rfl ?_
      refine v_call (w := 3) [some (2, 39), some (0, y), some (0, z)] hO (hi_X2_hasCopyCell_11 hT) rfl rfl ?_
      refine v_load (v := (0, y)) (hi_X2_hasCell_0 hT) rfl rfl ?_
      refine v_if (hi_X2_hasCell_1 hT) (fun hc7 => ?_) (fun hc7 => ?_)
      · have hc7 : y < 0 := hc7
        refine v_push (0) (hi_X2_hasCell_28 hT) rfl ?_
        refine v_ret (hi_X2_hasCell_29 hT) (Or.inl rfl) ?_
        show vP D T N 44 14 h [some (2, 39), some (0, x), some (0, y), some (0, z)] [(0, 0)] _
        refine v_if (hi_X2_hasCopyCell_14 hT) (fun _ => ?_) (fun hc8 => absurd (show (0 : Int) = 0 from (by decide)) hc8)
        refine v_push (0) (hi_X2_hasCopyCell_21 hT) rfl ?_
        refine v_ret (hi_X2_hasCopyCell_22 hT) (Or.inl rfl) ?_
        show vP D T N 149 10 h [some (2, 0), some (0, x), some (0, y), some (0, z)] [(0, 0)] _
        refine v_if (hi_X11_clean_10 hT) (fun _ => ?_) (fun hc9 => absurd (show (0 : Int) = 0 from (by decide)) hc9)
        refine v_load (v := (2, 0)) (hi_X11_clean_13 hT) rfl rfl ?_
        refine v_push (2) (hi_X11_clean_14 hT) rfl ?_
        refine v_call (w := 2) [some (2, 0), some (0, 2)] hO (hi_X11_clean_15 hT) rfl rfl ?_
        refine v_load (v := (2, 0)) (hi_X11_refuse_0 hT) rfl rfl ?_
        refine v_load (v := (0, 2)) (hi_X11_refuse_1 hT) rfl rfl ?_
        refine v_putf (r := 0) hO (hi_X11_refuse_2 hT) rfl (fun hf10 => ?_)
        refine v_push (0) (hi_X11_refuse_5 hT) rfl ?_
        refine v_ret (hi_X11_refuse_6 hT) (Or.inl rfl) ?_
        show vP D T N 149 18 (zset h 0 0 (0, 2)) [some (2, 0), some (0, x), some (0, y), some (0, z)] [(0, 0)] _
        refine v_ret (hi_X11_clean_18 hT) (Or.inl rfl) ?_
        exact k1 hc1 hc5 hc7
      · have hc7 : 0 ≤ y := Int.not_lt.mp hc7
        refine v_load (v := (0, y)) (hi_X2_hasCell_4 hT) rfl rfl ?_
        refine v_load (v := (2, 39)) (hi_X2_hasCell_5 hT) rfl rfl ?_
        refine v_getf (v := (0, (P 0 0))) (r := 39) (hi_X2_hasCell_6 hT) rfl rfl (fun _ => p0) ?_
        refine v_ic (hi_X2_hasCell_9 hT) (fun hc11 => ?_) (fun hc11 => ?_)
        · have hc11 : y < (P 0 0) := hc11
          refine v_load (v := (0, z)) (hi_X2_hasCell_12 hT) rfl rfl ?_
          refine v_if (hi_X2_hasCell_13 hT) (fun hc12 => ?_) (fun hc12 => ?_)
          · have hc12 : z < 0 := hc12
            refine v_push (0) (hi_X2_hasCell_28 hT) rfl ?_
            refine v_ret (hi_X2_hasCell_29 hT) (Or.inl rfl) ?_
            show vP D T N 44 14 h [some (2, 39), some (0, x), some (0, y), some (0, z)] [(0, 0)] _
            refine v_if (hi_X2_hasCopyCell_14 hT) (fun _ => ?_) (fun hc13 => absurd (show (0 : Int) = 0 from (by decide)) hc13)
            refine v_push (0) (hi_X2_hasCopyCell_21 hT) rfl ?_
            refine v_ret (hi_X2_hasCopyCell_22 hT) (Or.inl rfl) ?_
            show vP D T N 149 10 h [some (2, 0), some (0, x), some (0, y), some (0, z)] [(0, 0)] _
            refine v_if (hi_X11_clean_10 hT) (fun _ => ?_) (fun hc14 => absurd (show (0 : Int) = 0 from (by decide)) hc14)
            refine v_load (v := (2, 0)) (hi_X11_clean_13 hT) rfl rfl ?_
            refine v_push (2) (hi_X11_clean_14 hT) rfl ?_
            refine v_call (w := 2) [some (2, 0), some (0, 2)] hO (hi_X11_clean_15 hT) rfl rfl ?_
            refine v_load (v := (2, 0)) (hi_X11_refuse_0 hT) rfl rfl ?_
            refine v_load (v := (0, 2)) (hi_X11_refuse_1 hT) rfl rfl ?_
            refine v_putf (r := 0) hO (hi_X11_refuse_2 hT) rfl (fun hf15 => ?_)
            refine v_push (0) (hi_X11_refuse_5 hT) rfl ?_
            refine v_ret (hi_X11_refuse_6 hT) (Or.inl rfl) ?_
            show vP D T N 149 18 (zset h 0 0 (0, 2)) [some (2, 0), some (0, x), some (0, y), some (0, z)] [(0, 0)] _
            refine v_ret (hi_X11_clean_18 hT) (Or.inl rfl) ?_
            exact k2 hc1 hc5 hc7 hc11 hc12
          · have hc12 : 0 ≤ z := Int.not_lt.mp hc12
            refine v_load (v := (0, z)) (hi_X2_hasCell_16 hT) rfl rfl ?_
            refine v_load (v := (2, 39)) (hi_X2_hasCell_17 hT) rfl rfl ?_
            refine v_getf (v := (0, (P 0 1))) (r := 39) (hi_X2_hasCell_18 hT) rfl rfl (fun _ => p1) ?_
            refine v_ic (hi_X2_hasCell_21 hT) (fun hc16 => ?_) (fun hc16 => ?_)
            · have hc16 : z < (P 0 1) := hc16
              refine v_push (1) (hi_X2_hasCell_24 hT) rfl ?_
              refine v_goto (hi_X2_hasCell_25 hT) ?_
              refine v_ret (hi_X2_hasCell_29 hT) (Or.inl rfl) ?_
              show vP D T N 44 14 h [some (2, 39), some (0, x), some (0, y), some (0, z)] [(0, 1)] _
              refine v_if (hi_X2_hasCopyCell_14 hT) (fun hc17 => absurd (show (1 : Int) = 0 from hc17) (by decide)) (fun _ => ?_)
              refine v_push (1) (hi_X2_hasCopyCell_17 hT) rfl ?_
              refine v_goto (hi_X2_hasCopyCell_18 hT) ?_
              refine v_ret (hi_X2_hasCopyCell_22 hT) (Or.inl rfl) ?_
              show vP D T N 149 10 h [some (2, 0), some (0, x), some (0, y), some (0, z)] [(0, 1)] _
              refine v_if (hi_X11_clean_10 hT) (fun hc18 => absurd (show (1 : Int) = 0 from hc18) (by decide)) (fun _ => ?_)
              exact k3 hc1 hc5 hc7 hc11 hc12 hc16
            · have hc16 : (P 0 1) ≤ z := Int.not_lt.mp hc16
              refine v_push (0) (hi_X2_hasCell_28 hT) rfl ?_
              refine v_ret (hi_X2_hasCell_29 hT) (Or.inl rfl) ?_
              show vP D T N 44 14 h [some (2, 39), some (0, x), some (0, y), some (0, z)] [(0, 0)] _
              refine v_if (hi_X2_hasCopyCell_14 hT) (fun _ => ?_) (fun hc19 => absurd (show (0 : Int) = 0 from (by decide)) hc19)
              refine v_push (0) (hi_X2_hasCopyCell_21 hT) rfl ?_
              refine v_ret (hi_X2_hasCopyCell_22 hT) (Or.inl rfl) ?_
              show vP D T N 149 10 h [some (2, 0), some (0, x), some (0, y), some (0, z)] [(0, 0)] _
              refine v_if (hi_X11_clean_10 hT) (fun _ => ?_) (fun hc20 => absurd (show (0 : Int) = 0 from (by decide)) hc20)
              refine v_load (v := (2, 0)) (hi_X11_clean_13 hT) rfl rfl ?_
              refine v_push (2) (hi_X11_clean_14 hT) rfl ?_
              refine v_call (w := 2) [some (2, 0), some (0, 2)] hO (hi_X11_clean_15 hT) rfl rfl ?_
              refine v_load (v := (2, 0)) (hi_X11_refuse_0 hT) rfl rfl ?_
              refine v_load (v := (0, 2)) (hi_X11_refuse_1 hT) rfl rfl ?_
              refine v_putf (r := 0) hO (hi_X11_refuse_2 hT) rfl (fun hf21 => ?_)
              refine v_push (0) (hi_X11_refuse_5 hT) rfl ?_
              refine v_ret (hi_X11_refuse_6 hT) (Or.inl rfl) ?_
              show vP D T N 149 18 (zset h 0 0 (0, 2)) [some (2, 0), some (0, x), some (0, y), some (0, z)] [(0, 0)] _
              refine v_ret (hi_X11_clean_18 hT) (Or.inl rfl) ?_
              exact k4 hc1 hc5 hc7 hc11 hc12 hc16
        · have hc11 : (P 0 0) ≤ y := Int.not_lt.mp hc11
          refine v_push (0) (hi_X2_hasCell_28 hT) rfl ?_
          refine v_ret (hi_X2_hasCell_29 hT) (Or.inl rfl) ?_
          show vP D T N 44 14 h [some (2, 39), some (0, x), some (0, y), some (0, z)] [(0, 0)] _
          refine v_if (hi_X2_hasCopyCell_14 hT) (fun _ => ?_) (fun hc22 => absurd (show (0 : Int) = 0 from (by decide)) hc22)
          refine v_push (0) (hi_X2_hasCopyCell_21 hT) rfl ?_
          refine v_ret (hi_X2_hasCopyCell_22 hT) (Or.inl rfl) ?_
          show vP D T N 149 10 h [some (2, 0), some (0, x), some (0, y), some (0, z)] [(0, 0)] _
          refine v_if (hi_X11_clean_10 hT) (fun _ => ?_) (fun hc23 => absurd (show (0 : Int) = 0 from (by decide)) hc23)
          refine v_load (v := (2, 0)) (hi_X11_clean_13 hT) rfl rfl ?_
          refine v_push (2) (hi_X11_clean_14 hT) rfl ?_
          refine v_call (w := 2) [some (2, 0), some (0, 2)] hO (hi_X11_clean_15 hT) rfl rfl ?_
          refine v_load (v := (2, 0)) (hi_X11_refuse_0 hT) rfl rfl ?_
          refine v_load (v := (0, 2)) (hi_X11_refuse_1 hT) rfl rfl ?_
          refine v_putf (r := 0) hO (hi_X11_refuse_2 hT) rfl (fun hf24 => ?_)
          refine v_push (0) (hi_X11_refuse_5 hT) rfl ?_
          refine v_ret (hi_X11_refuse_6 hT) (Or.inl rfl) ?_
          show vP D T N 149 18 (zset h 0 0 (0, 2)) [some (2, 0), some (0, x), some (0, y), some (0, z)] [(0, 0)] _
          refine v_ret (hi_X11_clean_18 hT) (Or.inl rfl) ?_
          exact k5 hc1 hc5 hc7 hc11
    · have hc5 : (P 0 2) ≤ x := Int.not_lt.mp hc5
      refine v_push (0) (hi_X2_hasCopy_16 hT) rfl ?_
      refine v_ret (hi_X2_hasCopy_17 hT) (Or.inl rfl) ?_
      show vP D T N 44 5 h [some (2, 39), some (0, x), some (0, y), some (0, z)] [(0, 0)] _
      refine v_if (hi_X2_hasCopyCell_5 hT) (fun _ => ?_) (fun hc25 => absurd (show (0 : Int) = 0 from (by decide)) hc25)
      refine v_push (0) (hi_X2_hasCopyCell_21 hT) rfl ?_
      refine v_ret (hi_X2_hasCopyCell_22 hT) (Or.inl rfl) ?_
      show vP D T N 149 10 h [some (2, 0), some (0, x), some (0, y), some (0, z)] [(0, 0)] _
      refine v_if (hi_X11_clean_10 hT) (fun _ => ?_) (fun hc26 => absurd (show (0 : Int) = 0 from (by decide)) hc26)
      refine v_load (v := (2, 0)) (hi_X11_clean_13 hT) rfl rfl ?_
      refine v_push (2) (hi_X11_clean_14 hT) rfl ?_
      refine v_call (w := 2) [some (2, 0), some (0, 2)] hO (hi_X11_clean_15 hT) rfl rfl ?_
      refine v_load (v := (2, 0)) (hi_X11_refuse_0 hT) rfl rfl ?_
      refine v_load (v := (0, 2)) (hi_X11_refuse_1 hT) rfl rfl ?_
      refine v_putf (r := 0) hO (hi_X11_refuse_2 hT) rfl (fun hf27 => ?_)
      refine v_push (0) (hi_X11_refuse_5 hT) rfl ?_
      refine v_ret (hi_X11_refuse_6 hT) (Or.inl rfl) ?_
      show vP D T N 149 18 (zset h 0 0 (0, 2)) [some (2, 0), some (0, x), some (0, y), some (0, z)] [(0, 0)] _
      refine v_ret (hi_X11_clean_18 hT) (Or.inl rfl) ?_
      exact k6 hc1 hc5
theorem qt_clean19_39 {D : zD} {T : zT} (hT : hTab T) (hO : vOK T) {N : Nat} {h : zH} {Q : zR → Prop} {j u v : Nat} (hv0 : zHv h) (e7 : h 0 7 = (2, 39)) (bu : u < 8) (bv : v < 6)
    (k0 : vP D T N 58 0 h [some (2, 39), some (0, (j : Int)), some (0, (((v : Int) * 8) + (u : Int))), none] [] (fun r1 => vP D T N 149 32 r1.1 [some (2, 0), some (0, (j : Int)), some (0, (u : Int)), some (0, (v : Int))] (zpush r1.2 []) Q)) :
    vP D T N 149 19 h [some (2, 0), some (0, (j : Int)), some (0, (u : Int)), some (0, (v : Int))] [] Q := by
  refine v_load (v := (2, 0)) (hz_X11_clean hT _ _ rfl) rfl rfl ?_
  refine v_getf (v := (2, 39)) (r := 0) (hz_X11_clean hT _ _ rfl) rfl rfl (fun _ => e7) ?_
  refine v_load (v := (0, (j : Int))) (hz_X11_clean hT _ _ rfl) rfl rfl ?_
  refine v_load (v := (0, (u : Int))) (hz_X11_clean hT _ _ rfl) rfl rfl ?_
  refine v_load (v := (0, (v : Int))) (hz_X11_clean hT _ _ rfl) rfl rfl ?_
  refine v_call (w := 2) [some (0, (u : Int)), some (0, (v : Int))] hO (hz_X11_clean hT _ _ rfl) rfl rfl ?_
  refine v_load (v := (0, (v : Int))) (hi_X2_cellAt_0 hT) rfl rfl ?_
  refine v_push (8) (hi_X2_cellAt_1 hT) rfl ?_
  refine v_bin (w := ((v : Int) * 8)) (hi_X2_cellAt_3 hT) (hq_mul (by omega) (by omega)) ?_
  refine v_load (v := (0, (u : Int))) (hi_X2_cellAt_4 hT) rfl rfl ?_
  refine v_bin (w := (((v : Int) * 8) + (u : Int))) (hi_X2_cellAt_5 hT) (hq_add (by omega) (by omega)) ?_
  refine v_ret (hi_X2_cellAt_6 hT) (Or.inl rfl) ?_
  show vP D T N 149 29 h [some (2, 0), some (0, (j : Int)), some (0, (u : Int)), some (0, (v : Int))] [(0, (((v : Int) * 8) + (u : Int))), (0, (j : Int)), (2, 39)] _
  refine v_call (w := 4) [some (2, 39), some (0, (j : Int)), some (0, (((v : Int) * 8) + (u : Int))), none] hO (hz_X11_clean hT _ _ rfl) rfl rfl ?_
  exact k0 
theorem qt_bite36y_39 {D : zD} {T : zT} (hT : hTab T) (hO : vOK T) {N : Nat} {h : zH} {Q : zR → Prop} {P : PT} {j u v q : Nat} (hv0 : zHv h) (e7 : h 0 7 = (2, 39)) (hP : cP 39 P h) (hb : fB P) (hq : q < 48)
    (k0 : Q (zset h 0 0 (0, 0), some (0, (gCr P q)))) :
    vP D T N 146 36 h [some (2, 0), some (0, (j : Int)), some (0, (u : Int)), some (0, (v : Int)), some (0, (q : Int))] [(0, 1)] Q := by
  refine v_if (hz_X11_bite hT _ _ rfl) (fun hc1 => absurd (show (1 : Int) = 0 from hc1) (by decide)) (fun _ => ?_)
  refine v_load (v := (2, 0)) (hz_X11_bite hT _ _ rfl) rfl rfl ?_
  refine v_load (v := (2, 0)) (hz_X11_bite hT _ _ rfl) rfl rfl ?_
  refine v_getf (v := (2, 39)) (r := 0) (hz_X11_bite hT _ _ rfl) rfl rfl (fun _ => e7) ?_
  refine v_load (v := (0, (q : Int))) (hz_X11_bite hT _ _ rfl) rfl rfl ?_
  refine v_call (w := 2) [some (2, 39), some (0, (q : Int))] hO (hz_X11_bite hT _ _ rfl) rfl rfl (cb_cr_39 hT hO ((q : Int)) q rfl (by omega) hb hP.2.1 hP.2.2.1 ?_)
  show vP D T N 146 56 h [some (2, 0), some (0, (j : Int)), some (0, (u : Int)), some (0, (v : Int)), some (0, (q : Int))] [(0, (gCr P q)), (2, 0)] _
  refine v_call (w := 2) [some (2, 0), some (0, (gCr P q))] hO (hz_X11_bite hT _ _ rfl) rfl rfl ?_
  refine v_load (v := (2, 0)) (hi_X11_answer_0 hT) rfl rfl ?_
  refine v_push (0) (hi_X11_answer_1 hT) rfl ?_
  refine v_putf (r := 0) hO (hi_X11_answer_2 hT) rfl (fun hf2 => ?_)
  refine v_load (v := (0, (gCr P q))) (hi_X11_answer_5 hT) rfl rfl ?_
  refine v_ret (hi_X11_answer_6 hT) (Or.inl rfl) ?_
  show vP D T N 146 59 (zset h 0 0 (0, 0)) [some (2, 0), some (0, (j : Int)), some (0, (u : Int)), some (0, (v : Int)), some (0, (q : Int))] [(0, (gCr P q))] _
  refine v_ret (hz_X11_bite hT _ _ rfl) (Or.inl rfl) ?_
  exact k0 
theorem qt_steam0_39 {D : zD} {T : zT} (hT : hTab T) (hO : vOK T) {N : Nat} {h : zH} {Q : zR → Prop} {P : PT} (x y : Int) (hv0 : zHv h) (e7 : h 0 7 = (2, 39)) (p0 : h 39 0 = (0, P 0 0)) (p1 : h 39 1 = (0, P 0 1)) (p2 : h 39 2 = (0, P 0 2)) (p3 : h 39 3 = (0, P 0 3)) (lb : (0 ≤ P 0 0 ∧ P 0 0 ≤ 8) ∧ (0 ≤ P 0 1 ∧ P 0 1 ≤ 6) ∧ (0 ≤ P 0 2 ∧ P 0 2 ≤ 3) ∧ (0 ≤ P 0 3 ∧ P 0 3 ≤ 6))
    (k0 : (x < 0) → Q (zset h 0 0 (0, 2), some (0, -1)))
    (k1 : (0 ≤ x) → (x < (P 0 2)) → (y < 0) → Q (zset h 0 0 (0, 2), some (0, -1)))
    (k2 : (0 ≤ x) → (x < (P 0 2)) → (0 ≤ y) → (y < (P 0 2)) → (x = y) → Q (zset h 0 0 (0, 5), some (0, -1)))
    (k3 : (0 ≤ x) → (x < (P 0 2)) → (0 ≤ y) → (y < (P 0 2)) → (x ≠ y) → vP D T N 182 39 h [some (2, 0), some (0, x), some (0, y), none] [] Q)
    (k4 : (0 ≤ x) → (x < (P 0 2)) → (0 ≤ y) → ((P 0 2) ≤ y) → Q (zset h 0 0 (0, 2), some (0, -1)))
    (k5 : (0 ≤ x) → ((P 0 2) ≤ x) → Q (zset h 0 0 (0, 2), some (0, -1))) :
    vP D T N 182 0 h [some (2, 0), some (0, x), some (0, y), none] [] Q := by
  refine v_load (v := (2, 0)) (hz_X11_steam hT _ _ rfl) rfl rfl ?_
  refine v_getf (v := (2, 39)) (r := 0) (hz_X11_steam hT _ _ rfl) rfl rfl (fun _ => e7) ?_
  refine v_load (v := (0, x)) (hz_X11_steam hT _ _ rfl) rfl rfl ?_
  refine v_call (w := 2) [some (2, 39), some (0, x)] hO (hz_X11_steam hT _ _ rfl) rfl rfl ?_
  refine v_load (v := (0, x)) (hi_X2_hasCopy_0 hT) rfl rfl ?_
  refine v_if (hi_X2_hasCopy_1 hT) (fun hc1 => ?_) (fun hc1 => ?_)
  · have hc1 : x < 0 := hc1
    refine v_push (0) (hi_X2_hasCopy_16 hT) rfl ?_
    refine v_ret (hi_X2_hasCopy_17 hT) (Or.inl rfl) ?_
    show vP D T N 182 8 h [some (2, 0), some (0, x), some (0, y), none] [(0, 0)] _
    refine v_if (hi_X11_steam_8 hT) (fun _ => ?_) (fun hc2 => absurd (show (0 : Int) = 0 from (by decide)) hc2)
    refine v_load (v := (2, 0)) (hi_X11_steam_22 hT) rfl rfl ?_
    refine v_push (2) (hi_X11_steam_23 hT) rfl ?_
    refine v_call (w := 2) [some (2, 0), some (0, 2)] hO (hi_X11_steam_24 hT) rfl rfl ?_
    refine v_load (v := (2, 0)) (hi_X11_refused_0 hT) rfl rfl ?_
    refine v_load (v := (0, 2)) (hi_X11_refused_1 hT) rfl rfl ?_
    refine v_putf (r := 0) hO (hi_X11_refused_2 hT) rfl (fun hf3 => ?_)
    refine v_push (-1) (hi_X11_refused_5 hT) rfl ?_
    refine v_ret (hi_X11_refused_6 hT) (Or.inl rfl) ?_
    show vP D T N 182 27 (zset h 0 0 (0, 2)) [some (2, 0), some (0, x), some (0, y), none] [(0, -1)] _
    refine v_ret (hi_X11_steam_27 hT) (Or.inl rfl) ?_
    exact k0 hc1
  · have hc1 : 0 ≤ x := Int.not_lt.mp hc1
    refine v_load (v := (0, x)) (hi_X2_hasCopy_4 hT) rfl rfl ?_
    refine v_load (v := (2, 39)) (hi_X2_hasCopy_5 hT) rfl rfl ?_
    refine v_getf (v := (0, (P 0 2))) (r := 39) (hi_X2_hasCopy_6 hT) rfl rfl (fun _ => p2) ?_
    refine v_ic (hi_X2_hasCopy_9 hT) (fun hc4 => ?_) (fun hc4 => ?_)
    · have hc4 : x < (P 0 2) := hc4
      refine v_push (1) (hi_X2_hasCopy_12 hT) rfl ?_
      refine v_goto (hi_X2_hasCopy_13 hT) ?_
      refine v_ret (hi_X2_hasCopy_17 hT) (Or.inl rfl) ?_
      show vP D T N 182 8 h [some (2, 0), some (0, x), some (0, y), none] [(0, 1)] _
      refine v_if (hi_X11_steam_8 hT) (fun hc5 => absurd (show (1 : Int) = 0 from hc5) (by decide)) (fun _ => ?_)
      refine v_load (v := (2, 0)) (hz_X11_steam hT _ _ rfl) rfl rfl ?_
      refine v_getf (v := (2, 39)) (r := 0) (hz_X11_steam hT _ _ rfl) rfl rfl (fun _ => e7) ?_
      refine v_load (v := (0, y)) (hz_X11_steam hT _ _ rfl) rfl rfl ?_
      refine v_call (w := 2) [some (2, 39), some (0, y)] hO (hz_X11_steam hT _ _ rfl) rfl rfl ?_
      refine v_load (v := (0, y)) (hi_X2_hasCopy_0 hT) rfl rfl ?_
      refine v_if (hi_X2_hasCopy_1 hT) (fun hc6 => ?_) (fun hc6 => ?_)
      · have hc6 : y < 0 := hc6
        refine v_push (0) (hi_X2_hasCopy_16 hT) rfl ?_
        refine v_ret (hi_X2_hasCopy_17 hT) (Or.inl rfl) ?_
        show vP D T N 182 19 h [some (2, 0), some (0, x), some (0, y), none] [(0, 0)] _
        refine v_if (hi_X11_steam_19 hT) (fun _ => ?_) (fun hc7 => absurd (show (0 : Int) = 0 from (by decide)) hc7)
        refine v_load (v := (2, 0)) (hi_X11_steam_22 hT) rfl rfl ?_
        refine v_push (2) (hi_X11_steam_23 hT) rfl ?_
        refine v_call (w := 2) [some (2, 0), some (0, 2)] hO (hi_X11_steam_24 hT) rfl rfl ?_
        refine v_load (v := (2, 0)) (hi_X11_refused_0 hT) rfl rfl ?_
        refine v_load (v := (0, 2)) (hi_X11_refused_1 hT) rfl rfl ?_
        refine v_putf (r := 0) hO (hi_X11_refused_2 hT) rfl (fun hf8 => ?_)
        refine v_push (-1) (hi_X11_refused_5 hT) rfl ?_
        refine v_ret (hi_X11_refused_6 hT) (Or.inl rfl) ?_
        show vP D T N 182 27 (zset h 0 0 (0, 2)) [some (2, 0), some (0, x), some (0, y), none] [(0, -1)] _
        refine v_ret (hi_X11_steam_27 hT) (Or.inl rfl) ?_
        exact k1 hc1 hc4 hc6
      · have hc6 : 0 ≤ y := Int.not_lt.mp hc6
        refine v_load (v := (0, y)) (hi_X2_hasCopy_4 hT) rfl rfl ?_
        refine v_load (v := (2, 39)) (hi_X2_hasCopy_5 hT) rfl rfl ?_
        refine v_getf (v := (0, (P 0 2))) (r := 39) (hi_X2_hasCopy_6 hT) rfl rfl (fun _ => p2) ?_
        refine v_ic (hi_X2_hasCopy_9 hT) (fun hc9 => ?_) (fun hc9 => ?_)
        · have hc9 : y < (P 0 2) := hc9
          refine v_push (1) (hi_X2_hasCopy_12 hT) rfl ?_
          refine v_goto (hi_X2_hasCopy_13 hT) ?_
          refine v_ret (hi_X2_hasCopy_17 hT) (Or.inl rfl) ?_
          show vP D T N 182 19 h [some (2, 0), some (0, x), some (0, y), none] [(0, 1)] _
          refine v_if (hi_X11_steam_19 hT) (fun hc10 => absurd (show (1 : Int) = 0 from hc10) (by decide)) (fun _ => ?_)
          refine v_load (v := (0, x)) (hz_X11_steam hT _ _ rfl) rfl rfl ?_
          refine v_load (v := (0, y)) (hz_X11_steam hT _ _ rfl) rfl rfl ?_
          refine v_ic (hz_X11_steam hT _ _ rfl) (fun hc11 => ?_) (fun hc11 => ?_)
          · have hc11 : x = y := hc11
            refine v_load (v := (2, 0)) (hz_X11_steam hT _ _ rfl) rfl rfl ?_
            refine v_push (5) (hz_X11_steam hT _ _ rfl) rfl ?_
            refine v_call (w := 2) [some (2, 0), some (0, 5)] hO (hz_X11_steam hT _ _ rfl) rfl rfl ?_
            refine v_load (v := (2, 0)) (hi_X11_refused_0 hT) rfl rfl ?_
            refine v_load (v := (0, 5)) (hi_X11_refused_1 hT) rfl rfl ?_
            refine v_putf (r := 0) hO (hi_X11_refused_2 hT) rfl (fun hf12 => ?_)
            refine v_push (-1) (hi_X11_refused_5 hT) rfl ?_
            refine v_ret (hi_X11_refused_6 hT) (Or.inl rfl) ?_
            show vP D T N 182 38 (zset h 0 0 (0, 5)) [some (2, 0), some (0, x), some (0, y), none] [(0, -1)] _
            refine v_ret (hz_X11_steam hT _ _ rfl) (Or.inl rfl) ?_
            exact k2 hc1 hc4 hc6 hc9 hc11
          · have hc11 : x ≠ y := hc11
            exact k3 hc1 hc4 hc6 hc9 hc11
        · have hc9 : (P 0 2) ≤ y := Int.not_lt.mp hc9
          refine v_push (0) (hi_X2_hasCopy_16 hT) rfl ?_
          refine v_ret (hi_X2_hasCopy_17 hT) (Or.inl rfl) ?_
          show vP D T N 182 19 h [some (2, 0), some (0, x), some (0, y), none] [(0, 0)] _
          refine v_if (hi_X11_steam_19 hT) (fun _ => ?_) (fun hc13 => absurd (show (0 : Int) = 0 from (by decide)) hc13)
          refine v_load (v := (2, 0)) (hi_X11_steam_22 hT) rfl rfl ?_
          refine v_push (2) (hi_X11_steam_23 hT) rfl ?_
          refine v_call (w := 2) [some (2, 0), some (0, 2)] hO (hi_X11_steam_24 hT) rfl rfl ?_
          refine v_load (v := (2, 0)) (hi_X11_refused_0 hT) rfl rfl ?_
          refine v_load (v := (0, 2)) (hi_X11_refused_1 hT) rfl rfl ?_
          refine v_putf (r := 0) hO (hi_X11_refused_2 hT) rfl (fun hf14 => ?_)
          refine v_push (-1) (hi_X11_refused_5 hT) rfl ?_
          refine v_ret (hi_X11_refused_6 hT) (Or.inl rfl) ?_
          show vP D T N 182 27 (zset h 0 0 (0, 2)) [some (2, 0), some (0, x), some (0, y), none] [(0, -1)] _
          refine v_ret (hi_X11_steam_27 hT) (Or.inl rfl) ?_
          exact k4 hc1 hc4 hc6 hc9
    · have hc4 : (P 0 2) ≤ x := Int.not_lt.mp hc4
      refine v_push (0) (hi_X2_hasCopy_16 hT) rfl ?_
      refine v_ret (hi_X2_hasCopy_17 hT) (Or.inl rfl) ?_
      show vP D T N 182 8 h [some (2, 0), some (0, x), some (0, y), none] [(0, 0)] _
      refine v_if (hi_X11_steam_8 hT) (fun _ => ?_) (fun hc15 => absurd (show (0 : Int) = 0 from (by decide)) hc15)
      refine v_load (v := (2, 0)) (hi_X11_steam_22 hT) rfl rfl ?_
      refine v_push (2) (hi_X11_steam_23 hT) rfl ?_
      refine v_call (w := 2) [some (2, 0), some (0, 2)] hO (hi_X11_steam_24 hT) rfl rfl ?_
      refine v_load (v := (2, 0)) (hi_X11_refused_0 hT) rfl rfl ?_
      refine v_load (v := (0, 2)) (hi_X11_refused_1 hT) rfl rfl ?_
      refine v_putf (r := 0) hO (hi_X11_refused_2 hT) rfl (fun hf16 => ?_)
      refine v_push (-1) (hi_X11_refused_5 hT) rfl ?_
      refine v_ret (hi_X11_refused_6 hT) (Or.inl rfl) ?_
      show vP D T N 182 27 (zset h 0 0 (0, 2)) [some (2, 0), some (0, x), some (0, y), none] [(0, -1)] _
      refine v_ret (hi_X11_steam_27 hT) (Or.inl rfl) ?_
      exact k5 hc1 hc4
theorem qt_steam39_39 {D : zD} {T : zT} (hT : hTab T) (hO : vOK T) {N : Nat} {h : zH} {Q : zR → Prop} {j t : Nat} (hv0 : zHv h) (e7 : h 0 7 = (2, 39))
    (k0 : vP D T N 34 0 h [some (2, 39), some (0, (j : Int)), some (0, (t : Int)), none, none] [] (fun r1 => vP D T N 182 48 r1.1 [some (2, 0), some (0, (j : Int)), some (0, (t : Int)), none] (zpush r1.2 []) Q)) :
    vP D T N 182 39 h [some (2, 0), some (0, (j : Int)), some (0, (t : Int)), none] [] Q := by
  refine v_load (v := (2, 0)) (hz_X11_steam hT _ _ rfl) rfl rfl ?_
  refine v_getf (v := (2, 39)) (r := 0) (hz_X11_steam hT _ _ rfl) rfl rfl (fun _ => e7) ?_
  refine v_load (v := (0, (j : Int))) (hz_X11_steam hT _ _ rfl) rfl rfl ?_
  refine v_load (v := (0, (t : Int))) (hz_X11_steam hT _ _ rfl) rfl rfl ?_
  refine v_call (w := 5) [some (2, 39), some (0, (j : Int)), some (0, (t : Int)), none, none] hO (hz_X11_steam hT _ _ rfl) rfl rfl ?_
  exact k0 
theorem qt_steam48_39 {D : zD} {T : zT} (hT : hTab T) (hO : vOK T) {N : Nat} {h : zH} {Q : zR → Prop} {j t : Nat} (w : Int) (hv0 : zHv h) (e7 : h 0 7 = (2, 39))
    (k0 : vP D T N 57 0 h [some (2, 39), some (0, (j : Int)), some (0, (t : Int))] [] (fun r1 => vP D T N 182 58 r1.1 [some (2, 0), some (0, (j : Int)), some (0, (t : Int)), some (0, w)] (zpush r1.2 []) Q)) :
    vP D T N 182 48 h [some (2, 0), some (0, (j : Int)), some (0, (t : Int)), none] [(0, w)] Q := by
  refine v_store1 [some (2, 0), some (0, (j : Int)), some (0, (t : Int)), some (0, w)] (hz_X11_steam hT _ _ rfl) ⟨rfl, Nat.ne_of_beq_eq_false rfl⟩ (Nat.le_of_ble_eq_true rfl) rfl ?_
  refine v_load (v := (2, 0)) (hz_X11_steam hT _ _ rfl) rfl rfl ?_
  refine v_getf (v := (2, 39)) (r := 0) (hz_X11_steam hT _ _ rfl) rfl rfl (fun _ => e7) ?_
  refine v_load (v := (0, (j : Int))) (hz_X11_steam hT _ _ rfl) rfl rfl ?_
  refine v_load (v := (0, (t : Int))) (hz_X11_steam hT _ _ rfl) rfl rfl ?_
  refine v_call (w := 3) [some (2, 39), some (0, (j : Int)), some (0, (t : Int))] hO (hz_X11_steam hT _ _ rfl) rfl rfl ?_
  exact k0 
theorem qk_df0_39 {D : zD} {T : zT} (hT : hTab T) (hO : vOK T) {N : Nat} {h : zH} {Q : zR → Prop} {j t : Nat} (hv0 : zHv h)
    (k0 : vP D T N 34 5 h [some (2, 39), some (0, (j : Int)), some (0, (t : Int)), some (0, 0), some (0, 0)] [] Q) :
    vP D T N 34 0 h [some (2, 39), some (0, (j : Int)), some (0, (t : Int)), none, none] [] Q := by
  refine v_push (0) (hz_X2_differences hT _ _ rfl) rfl ?_
  refine v_store1 [some (2, 39), some (0, (j : Int)), some (0, (t : Int)), some (0, 0), none] (hz_X2_differences hT _ _ rfl) ⟨rfl, Nat.ne_of_beq_eq_false rfl⟩ (Nat.le_of_ble_eq_true rfl) rfl ?_
  refine v_push (0) (hz_X2_differences hT _ _ rfl) rfl ?_
  refine v_store1 [some (2, 39), some (0, (j : Int)), some (0, (t : Int)), some (0, 0), some (0, 0)] (hz_X2_differences hT _ _ rfl) ⟨rfl, Nat.ne_of_beq_eq_false rfl⟩ (Nat.le_of_ble_eq_true rfl) rfl ?_
  exact k0 
theorem qk_df5_39 {D : zD} {T : zT} (hT : hTab T) (hO : vOK T) {N : Nat} {h : zH} {Q : zR → Prop} {P : PT} {j t m q : Nat} (hv0 : zHv h) (hP : cP 39 P h) (hb : fB P) (hj : j < 3) (ht : t < 3) (hm : m ≤ 48) (hq : (q : Int) < 48)
    (k0 : (gIn P q) → ((P 3 (48 * j + q)) = (P 3 (48 * t + q))) → vP D T N 34 5 h [some (2, 39), some (0, (j : Int)), some (0, (t : Int)), some (0, (m : Int)), some (0, ((q : Int) + 1))] [] Q)
    (k1 : (gIn P q) → ((P 3 (48 * j + q)) ≠ (P 3 (48 * t + q))) → vP D T N 34 5 h [some (2, 39), some (0, (j : Int)), some (0, (t : Int)), some (0, ((m : Int) + 1)), some (0, ((q : Int) + 1))] [] Q)
    (k2 : (¬ gIn P q) → vP D T N 34 5 h [some (2, 39), some (0, (j : Int)), some (0, (t : Int)), some (0, (m : Int)), some (0, ((q : Int) + 1))] [] Q) :
    vP D T (N + 1) 34 5 h [some (2, 39), some (0, (j : Int)), some (0, (t : Int)), some (0, (m : Int)), some (0, (q : Int))] [] Q := by
  refine v_loadS (v := (0, (q : Int))) (hi_X2_differences_5 hT) rfl rfl ?_
  refine v_push (48) (hi_X2_differences_7 hT) rfl ?_
  refine v_ic (hi_X2_differences_9 hT) (fun _ => ?_) (fun hc1 => absurd (show (q : Int) < 48 from hq) hc1)
  refine v_load (v := (2, 39)) (hz_X2_differences hT _ _ rfl) rfl rfl ?_
  refine v_load (v := (0, (q : Int))) (hz_X2_differences hT _ _ rfl) rfl rfl ?_
  refine v_call (w := 2) [some (2, 39), some (0, (q : Int))] hO (hz_X2_differences hT _ _ rfl) rfl rfl (cb_isC_39 hT hO ((q : Int)) q rfl (by omega) hP.1.1 hP.1.2.1 hb.1 (fun hg2 => ?_) (fun hg2 => ?_))
  · show vP D T N 34 18 h [some (2, 39), some (0, (j : Int)), some (0, (t : Int)), some (0, (m : Int)), some (0, (q : Int))] [(0, 1)] _
    refine v_if (hi_X2_differences_18 hT) (fun hc3 => absurd (show (1 : Int) = 0 from hc3) (by decide)) (fun _ => ?_)
    refine v_load (v := (2, 39)) (hz_X2_differences hT _ _ rfl) rfl rfl ?_
    refine v_load (v := (0, (j : Int))) (hz_X2_differences hT _ _ rfl) rfl rfl ?_
    refine v_load (v := (0, (q : Int))) (hz_X2_differences hT _ _ rfl) rfl rfl ?_
    refine v_call (w := 3) [some (2, 39), some (0, (j : Int)), some (0, (q : Int))] hO (hz_X2_differences hT _ _ rfl) rfl rfl (cb_st_39 hT hO ((j : Int)) ((q : Int)) j q rfl rfl (by omega) (by omega) hP.2.2.2.1 ?_)
    show vP D T N 34 28 h [some (2, 39), some (0, (j : Int)), some (0, (t : Int)), some (0, (m : Int)), some (0, (q : Int))] [(0, (P 3 (48 * j + q)))] _
    refine v_load (v := (2, 39)) (hz_X2_differences hT _ _ rfl) rfl rfl ?_
    refine v_load (v := (0, (t : Int))) (hz_X2_differences hT _ _ rfl) rfl rfl ?_
    refine v_load (v := (0, (q : Int))) (hz_X2_differences hT _ _ rfl) rfl rfl ?_
    refine v_call (w := 3) [some (2, 39), some (0, (t : Int)), some (0, (q : Int))] hO (hz_X2_differences hT _ _ rfl) rfl rfl (cb_st_39 hT hO ((t : Int)) ((q : Int)) t q rfl rfl (by omega) (by omega) hP.2.2.2.1 ?_)
    show vP D T N 34 35 h [some (2, 39), some (0, (j : Int)), some (0, (t : Int)), some (0, (m : Int)), some (0, (q : Int))] [(0, (P 3 (48 * t + q))), (0, (P 3 (48 * j + q)))] _
    refine v_ic (hz_X2_differences hT _ _ rfl) (fun hc4 => ?_) (fun hc4 => ?_)
    · have hc4 : (P 3 (48 * j + q)) = (P 3 (48 * t + q)) := hc4
      refine v_iinc (x := (q : Int)) (u := 1) (w := ((q : Int) + 1)) [some (2, 39), some (0, (j : Int)), some (0, (t : Int)), some (0, (m : Int)), some (0, ((q : Int) + 1))] (hi_X2_differences_41 hT) rfl rfl (Nat.le_of_ble_eq_true rfl) (vz_inc (by omega) (by omega)) rfl ?_
      refine v_goto (hi_X2_differences_44 hT) ?_
      exact k0 hg2 hc4
    · have hc4 : (P 3 (48 * j + q)) ≠ (P 3 (48 * t + q)) := hc4
      refine v_iinc (x := (m : Int)) (u := 1) (w := ((m : Int) + 1)) [some (2, 39), some (0, (j : Int)), some (0, (t : Int)), some (0, ((m : Int) + 1)), some (0, (q : Int))] (hz_X2_differences hT _ _ rfl) rfl rfl (Nat.le_of_ble_eq_true rfl) (vz_inc (by omega) (by omega)) rfl ?_
      refine v_iinc (x := (q : Int)) (u := 1) (w := ((q : Int) + 1)) [some (2, 39), some (0, (j : Int)), some (0, (t : Int)), some (0, ((m : Int) + 1)), some (0, ((q : Int) + 1))] (hi_X2_differences_41 hT) rfl rfl (Nat.le_of_ble_eq_true rfl) (vz_inc (by omega) (by omega)) rfl ?_
      refine v_goto (hi_X2_differences_44 hT) ?_
      exact k1 hg2 hc4
  · show vP D T N 34 18 h [some (2, 39), some (0, (j : Int)), some (0, (t : Int)), some (0, (m : Int)), some (0, (q : Int))] [(0, 0)] _
    refine v_if (hi_X2_differences_18 hT) (fun _ => ?_) (fun hc5 => absurd (show (0 : Int) = 0 from (by decide)) hc5)
    refine v_iinc (x := (q : Int)) (u := 1) (w := ((q : Int) + 1)) [some (2, 39), some (0, (j : Int)), some (0, (t : Int)), some (0, (m : Int)), some (0, ((q : Int) + 1))] (hi_X2_differences_41 hT) rfl rfl (Nat.le_of_ble_eq_true rfl) (vz_inc (by omega) (by omega)) rfl ?_
    refine v_goto (hi_X2_differences_44 hT) ?_
    exact k2 hg2
theorem qk_df9_39 {D : zD} {T : zT} (hT : hTab T) (hO : vOK T) {N : Nat} {h : zH} {Q : zR → Prop} {j t m : Nat} (hv0 : zHv h)
    (k0 : Q (h, some (0, (m : Int)))) :
    vP D T (N + 1) 34 5 h [some (2, 39), some (0, (j : Int)), some (0, (t : Int)), some (0, (m : Int)), some (0, 48)] [] Q := by
  refine v_loadS (v := (0, 48)) (hi_X2_differences_5 hT) rfl rfl ?_
  refine v_push (48) (hi_X2_differences_7 hT) rfl ?_
  refine v_ic (hi_X2_differences_9 hT) (fun hc1 => absurd (show (48 : Int) < 48 from hc1) (by decide)) (fun _ => ?_)
  refine v_load (v := (0, (m : Int))) (hz_X2_differences hT _ _ rfl) rfl rfl ?_
  refine v_ret (hz_X2_differences hT _ _ rfl) (Or.inl rfl) ?_
  exact k0 
theorem qt_march0_39 {D : zD} {T : zT} (hT : hTab T) (hO : vOK T) {N : Nat} {h : zH} {Q : zR → Prop} {P : PT} (x : Int) (hv0 : zHv h) (e7 : h 0 7 = (2, 39)) (p0 : h 39 0 = (0, P 0 0)) (p1 : h 39 1 = (0, P 0 1)) (p2 : h 39 2 = (0, P 0 2)) (p3 : h 39 3 = (0, P 0 3)) (lb : (0 ≤ P 0 0 ∧ P 0 0 ≤ 8) ∧ (0 ≤ P 0 1 ∧ P 0 1 ≤ 6) ∧ (0 ≤ P 0 2 ∧ P 0 2 ≤ 3) ∧ (0 ≤ P 0 3 ∧ P 0 3 ≤ 6))
    (k0 : (x < 0) → Q (zset h 0 0 (0, 2), some (0, -1)))
    (k1 : (0 ≤ x) → (x < (P 0 3)) → vP D T N 164 17 h [some (2, 0), some (0, x), none] [] Q)
    (k2 : (0 ≤ x) → ((P 0 3) ≤ x) → Q (zset h 0 0 (0, 2), some (0, -1))) :
    vP D T N 164 0 h [some (2, 0), some (0, x), none] [] Q := by
  refine v_load (v := (2, 0)) (hz_X11_march hT _ _ rfl) rfl rfl ?_
  refine v_getf (v := (2, 39)) (r := 0) (hz_X11_march hT _ _ rfl) rfl rfl (fun _ => e7) ?_
  refine v_load (v := (0, x)) (hz_X11_march hT _ _ rfl) rfl rfl ?_
  refine v_call (w := 2) [some (2, 39), some (0, x)] hO (hz_X11_march hT _ _ rfl) rfl rfl ?_
  refine v_load (v := (0, x)) (hi_X2_hasCompany_0 hT) rfl rfl ?_
  refine v_if (hi_X2_hasCompany_1 hT) (fun hc1 => ?_) (fun hc1 => ?_)
  · have hc1 : x < 0 := hc1
    refine v_push (0) (hi_X2_hasCompany_16 hT) rfl ?_
    refine v_ret (hi_X2_hasCompany_17 hT) (Or.inl rfl) ?_
    show vP D T N 164 8 h [some (2, 0), some (0, x), none] [(0, 0)] _
    refine v_if (hi_X11_march_8 hT) (fun _ => ?_) (fun hc2 => absurd (show (0 : Int) = 0 from (by decide)) hc2)
    refine v_load (v := (2, 0)) (hi_X11_march_11 hT) rfl rfl ?_
    refine v_push (2) (hi_X11_march_12 hT) rfl ?_
    refine v_call (w := 2) [some (2, 0), some (0, 2)] hO (hi_X11_march_13 hT) rfl rfl ?_
    refine v_load (v := (2, 0)) (hi_X11_refused_0 hT) rfl rfl ?_
    refine v_load (v := (0, 2)) (hi_X11_refused_1 hT) rfl rfl ?_
    refine v_putf (r := 0) hO (hi_X11_refused_2 hT) rfl (fun hf3 => ?_)
    refine v_push (-1) (hi_X11_refused_5 hT) rfl ?_
    refine v_ret (hi_X11_refused_6 hT) (Or.inl rfl) ?_
    show vP D T N 164 16 (zset h 0 0 (0, 2)) [some (2, 0), some (0, x), none] [(0, -1)] _
    refine v_ret (hi_X11_march_16 hT) (Or.inl rfl) ?_
    exact k0 hc1
  · have hc1 : 0 ≤ x := Int.not_lt.mp hc1
    refine v_load (v := (0, x)) (hi_X2_hasCompany_4 hT) rfl rfl ?_
    refine v_load (v := (2, 39)) (hi_X2_hasCompany_5 hT) rfl rfl ?_
    refine v_getf (v := (0, (P 0 3))) (r := 39) (hi_X2_hasCompany_6 hT) rfl rfl (fun _ => p3) ?_
    refine v_ic (hi_X2_hasCompany_9 hT) (fun hc4 => ?_) (fun hc4 => ?_)
    · have hc4 : x < (P 0 3) := hc4
      refine v_push (1) (hi_X2_hasCompany_12 hT) rfl ?_
      refine v_goto (hi_X2_hasCompany_13 hT) ?_
      refine v_ret (hi_X2_hasCompany_17 hT) (Or.inl rfl) ?_
      show vP D T N 164 8 h [some (2, 0), some (0, x), none] [(0, 1)] _
      refine v_if (hi_X11_march_8 hT) (fun hc5 => absurd (show (1 : Int) = 0 from hc5) (by decide)) (fun _ => ?_)
      exact k1 hc1 hc4
    · have hc4 : (P 0 3) ≤ x := Int.not_lt.mp hc4
      refine v_push (0) (hi_X2_hasCompany_16 hT) rfl ?_
      refine v_ret (hi_X2_hasCompany_17 hT) (Or.inl rfl) ?_
      show vP D T N 164 8 h [some (2, 0), some (0, x), none] [(0, 0)] _
      refine v_if (hi_X11_march_8 hT) (fun _ => ?_) (fun hc6 => absurd (show (0 : Int) = 0 from (by decide)) hc6)
      refine v_load (v := (2, 0)) (hi_X11_march_11 hT) rfl rfl ?_
      refine v_push (2) (hi_X11_march_12 hT) rfl ?_
      refine v_call (w := 2) [some (2, 0), some (0, 2)] hO (hi_X11_march_13 hT) rfl rfl ?_
      refine v_load (v := (2, 0)) (hi_X11_refused_0 hT) rfl rfl ?_
      refine v_load (v := (0, 2)) (hi_X11_refused_1 hT) rfl rfl ?_
      refine v_putf (r := 0) hO (hi_X11_refused_2 hT) rfl (fun hf7 => ?_)
      refine v_push (-1) (hi_X11_refused_5 hT) rfl ?_
      refine v_ret (hi_X11_refused_6 hT) (Or.inl rfl) ?_
      show vP D T N 164 16 (zset h 0 0 (0, 2)) [some (2, 0), some (0, x), none] [(0, -1)] _
      refine v_ret (hi_X11_march_16 hT) (Or.inl rfl) ?_
      exact k2 hc1 hc4
theorem qt_march17_39 {D : zD} {T : zT} (hT : hTab T) (hO : vOK T) {N : Nat} {h : zH} {Q : zR → Prop} {a : Nat} (hv0 : zHv h) (e7 : h 0 7 = (2, 39))
    (k0 : vP D T N 132 0 h [some (2, 100), some (2, 39), some (0, (a : Int))] [] (fun r1 => vP D T N 164 29 r1.1 [some (2, 0), some (0, (a : Int)), none] (zpush r1.2 []) Q)) :
    vP D T N 164 17 h [some (2, 0), some (0, (a : Int)), none] [] Q := by
  refine v_load (v := (2, 0)) (hz_X11_march hT _ _ rfl) rfl rfl ?_
  refine v_getR (c := 100) (r := 0) (hz_X11_march hT _ _ rfl) rfl rfl rfl ?_
  refine v_load (v := (2, 0)) (hz_X11_march hT _ _ rfl) rfl rfl ?_
  refine v_getf (v := (2, 39)) (r := 0) (hz_X11_march hT _ _ rfl) rfl rfl (fun _ => e7) ?_
  refine v_load (v := (0, (a : Int))) (hz_X11_march hT _ _ rfl) rfl rfl ?_
  refine v_call (w := 3) [some (2, 100), some (2, 39), some (0, (a : Int))] hO (hz_X11_march hT _ _ rfl) rfl rfl ?_
  exact k0 
theorem qt_march29_39 {D : zD} {T : zT} (hT : hTab T) (hO : vOK T) {N : Nat} {h : zH} {Q : zR → Prop} {a : Nat} (v : Int) (hv0 : zHv h) (e7 : h 0 7 = (2, 39)) (hv : v ≠ -1)
    (k0 : vP D T N 133 0 h [some (2, 100), some (2, 39), some (0, (a : Int)), none] [] (fun r1 => vP D T N 164 52 r1.1 [some (2, 0), some (0, (a : Int)), none] (zpush r1.2 []) Q)) :
    vP D T N 164 29 h [some (2, 0), some (0, (a : Int)), none] [(0, v)] Q := by
  refine v_push (-1) (hz_X11_march hT _ _ rfl) rfl ?_
  refine v_ic (hz_X11_march hT _ _ rfl) (fun hc1 => absurd (show v = -1 from hc1) hv) (fun _ => ?_)
  refine v_load (v := (2, 0)) (hz_X11_march hT _ _ rfl) rfl rfl ?_
  refine v_getR (c := 100) (r := 0) (hz_X11_march hT _ _ rfl) rfl rfl rfl ?_
  refine v_load (v := (2, 0)) (hz_X11_march hT _ _ rfl) rfl rfl ?_
  refine v_getf (v := (2, 39)) (r := 0) (hz_X11_march hT _ _ rfl) rfl rfl (fun _ => e7) ?_
  refine v_load (v := (0, (a : Int))) (hz_X11_march hT _ _ rfl) rfl rfl ?_
  refine v_call (w := 4) [some (2, 100), some (2, 39), some (0, (a : Int)), none] hO (hz_X11_march hT _ _ rfl) rfl rfl ?_
  exact k0 
theorem qt_hand0_39 {D : zD} {T : zT} (hT : hTab T) (hO : vOK T) {N : Nat} {h : zH} {Q : zR → Prop} {P : PT} (x y : Int) (hv0 : zHv h) (e7 : h 0 7 = (2, 39)) (p0 : h 39 0 = (0, P 0 0)) (p1 : h 39 1 = (0, P 0 1)) (p2 : h 39 2 = (0, P 0 2)) (p3 : h 39 3 = (0, P 0 3)) (lb : (0 ≤ P 0 0 ∧ P 0 0 ≤ 8) ∧ (0 ≤ P 0 1 ∧ P 0 1 ≤ 6) ∧ (0 ≤ P 0 2 ∧ P 0 2 ≤ 3) ∧ (0 ≤ P 0 3 ∧ P 0 3 ≤ 6))
    (k0 : (x < 0) → Q (zset h 0 0 (0, 2), some (0, 0)))
    (k1 : (0 ≤ x) → (x < (P 0 3)) → (y < 0) → Q (zset h 0 0 (0, 2), some (0, 0)))
    (k2 : (0 ≤ x) → (x < (P 0 3)) → (0 ≤ y) → (y < (P 0 2)) → vP D T N 158 28 h [some (2, 0), some (0, x), some (0, y)] [] Q)
    (k3 : (0 ≤ x) → (x < (P 0 3)) → (0 ≤ y) → ((P 0 2) ≤ y) → Q (zset h 0 0 (0, 2), some (0, 0)))
    (k4 : (0 ≤ x) → ((P 0 3) ≤ x) → Q (zset h 0 0 (0, 2), some (0, 0))) :
    vP D T N 158 0 h [some (2, 0), some (0, x), some (0, y)] [] Q := by
  refine v_load (v := (2, 0)) (hz_X11_hand hT _ _ rfl) rfl rfl ?_
  refine v_getf (v := (2, 39)) (r := 0) (hz_X11_hand hT _ _ rfl) rfl rfl (fun _ => e7) ?_
  refine v_load (v := (0, x)) (hz_X11_hand hT _ _ rfl) rfl rfl ?_
  refine v_call (w := 2) [some (2, 39), some (0, x)] hO (hz_X11_hand hT _ _ rfl) rfl rfl ?_
  refine v_load (v := (0, x)) (hi_X2_hasCompany_0 hT) rfl rfl ?_
  refine v_if (hi_X2_hasCompany_1 hT) (fun hc1 => ?_) (fun hc1 => ?_)
  · have hc1 : x < 0 := hc1
    refine v_push (0) (hi_X2_hasCompany_16 hT) rfl ?_
    refine v_ret (hi_X2_hasCompany_17 hT) (Or.inl rfl) ?_
    show vP D T N 158 8 h [some (2, 0), some (0, x), some (0, y)] [(0, 0)] _
    refine v_if (hi_X11_hand_8 hT) (fun _ => ?_) (fun hc2 => absurd (show (0 : Int) = 0 from (by decide)) hc2)
    refine v_load (v := (2, 0)) (hi_X11_hand_22 hT) rfl rfl ?_
    refine v_push (2) (hi_X11_hand_23 hT) rfl ?_
    refine v_call (w := 2) [some (2, 0), some (0, 2)] hO (hi_X11_hand_24 hT) rfl rfl ?_
    refine v_load (v := (2, 0)) (hi_X11_refuse_0 hT) rfl rfl ?_
    refine v_load (v := (0, 2)) (hi_X11_refuse_1 hT) rfl rfl ?_
    refine v_putf (r := 0) hO (hi_X11_refuse_2 hT) rfl (fun hf3 => ?_)
    refine v_push (0) (hi_X11_refuse_5 hT) rfl ?_
    refine v_ret (hi_X11_refuse_6 hT) (Or.inl rfl) ?_
    show vP D T N 158 27 (zset h 0 0 (0, 2)) [some (2, 0), some (0, x), some (0, y)] [(0, 0)] _
    refine v_ret (hi_X11_hand_27 hT) (Or.inl rfl) ?_
    exact k0 hc1
  · have hc1 : 0 ≤ x := Int.not_lt.mp hc1
    refine v_load (v := (0, x)) (hi_X2_hasCompany_4 hT) rfl rfl ?_
    refine v_load (v := (2, 39)) (hi_X2_hasCompany_5 hT) rfl rfl ?_
    refine v_getf (v := (0, (P 0 3))) (r := 39) (hi_X2_hasCompany_6 hT) rfl rfl (fun _ => p3) ?_
    refine v_ic (hi_X2_hasCompany_9 hT) (fun hc4 => ?_) (fun hc4 => ?_)
    · have hc4 : x < (P 0 3) := hc4
      refine v_push (1) (hi_X2_hasCompany_12 hT) rfl ?_
      refine v_goto (hi_X2_hasCompany_13 hT) ?_
      refine v_ret (hi_X2_hasCompany_17 hT) (Or.inl rfl) ?_
      show vP D T N 158 8 h [some (2, 0), some (0, x), some (0, y)] [(0, 1)] _
      refine v_if (hi_X11_hand_8 hT) (fun hc5 => absurd (show (1 : Int) = 0 from hc5) (by decide)) (fun _ => ?_)
      refine v_load (v := (2, 0)) (hz_X11_hand hT _ _ rfl) rfl rfl ?_
      refine v_getf (v := (2, 39)) (r := 0) (hz_X11_hand hT _ _ rfl) rfl rfl (fun _ => e7) ?_
      refine v_load (v := (0, y)) (hz_X11_hand hT _ _ rfl) rfl rfl ?_
      refine v_call (w := 2) [some (2, 39), some (0, y)] hO (hz_X11_hand hT _ _ rfl) rfl rfl ?_
      refine v_load (v := (0, y)) (hi_X2_hasCopy_0 hT) rfl rfl ?_
      refine v_if (hi_X2_hasCopy_1 hT) (fun hc6 => ?_) (fun hc6 => ?_)
      · have hc6 : y < 0 := hc6
        refine v_push (0) (hi_X2_hasCopy_16 hT) rfl ?_
        refine v_ret (hi_X2_hasCopy_17 hT) (Or.inl rfl) ?_
        show vP D T N 158 19 h [some (2, 0), some (0, x), some (0, y)] [(0, 0)] _
        refine v_if (hi_X11_hand_19 hT) (fun _ => ?_) (fun hc7 => absurd (show (0 : Int) = 0 from (by decide)) hc7)
        refine v_load (v := (2, 0)) (hi_X11_hand_22 hT) rfl rfl ?_
        refine v_push (2) (hi_X11_hand_23 hT) rfl ?_
        refine v_call (w := 2) [some (2, 0), some (0, 2)] hO (hi_X11_hand_24 hT) rfl rfl ?_
        refine v_load (v := (2, 0)) (hi_X11_refuse_0 hT) rfl rfl ?_
        refine v_load (v := (0, 2)) (hi_X11_refuse_1 hT) rfl rfl ?_
        refine v_putf (r := 0) hO (hi_X11_refuse_2 hT) rfl (fun hf8 => ?_)
        refine v_push (0) (hi_X11_refuse_5 hT) rfl ?_
        refine v_ret (hi_X11_refuse_6 hT) (Or.inl rfl) ?_
        show vP D T N 158 27 (zset h 0 0 (0, 2)) [some (2, 0), some (0, x), some (0, y)] [(0, 0)] _
        refine v_ret (hi_X11_hand_27 hT) (Or.inl rfl) ?_
        exact k1 hc1 hc4 hc6
      · have hc6 : 0 ≤ y := Int.not_lt.mp hc6
        refine v_load (v := (0, y)) (hi_X2_hasCopy_4 hT) rfl rfl ?_
        refine v_load (v := (2, 39)) (hi_X2_hasCopy_5 hT) rfl rfl ?_
        refine v_getf (v := (0, (P 0 2))) (r := 39) (hi_X2_hasCopy_6 hT) rfl rfl (fun _ => p2) ?_
        refine v_ic (hi_X2_hasCopy_9 hT) (fun hc9 => ?_) (fun hc9 => ?_)
        · have hc9 : y < (P 0 2) := hc9
          refine v_push (1) (hi_X2_hasCopy_12 hT) rfl ?_
          refine v_goto (hi_X2_hasCopy_13 hT) ?_
          refine v_ret (hi_X2_hasCopy_17 hT) (Or.inl rfl) ?_
          show vP D T N 158 19 h [some (2, 0), some (0, x), some (0, y)] [(0, 1)] _
          refine v_if (hi_X11_hand_19 hT) (fun hc10 => absurd (show (1 : Int) = 0 from hc10) (by decide)) (fun _ => ?_)
          exact k2 hc1 hc4 hc6 hc9
        · have hc9 : (P 0 2) ≤ y := Int.not_lt.mp hc9
          refine v_push (0) (hi_X2_hasCopy_16 hT) rfl ?_
          refine v_ret (hi_X2_hasCopy_17 hT) (Or.inl rfl) ?_
          show vP D T N 158 19 h [some (2, 0), some (0, x), some (0, y)] [(0, 0)] _
          refine v_if (hi_X11_hand_19 hT) (fun _ => ?_) (fun hc11 => absurd (show (0 : Int) = 0 from (by decide)) hc11)
          refine v_load (v := (2, 0)) (hi_X11_hand_22 hT) rfl rfl ?_
          refine v_push (2) (hi_X11_hand_23 hT) rfl ?_
          refine v_call (w := 2) [some (2, 0), some (0, 2)] hO (hi_X11_hand_24 hT) rfl rfl ?_
          refine v_load (v := (2, 0)) (hi_X11_refuse_0 hT) rfl rfl ?_
          refine v_load (v := (0, 2)) (hi_X11_refuse_1 hT) rfl rfl ?_
          refine v_putf (r := 0) hO (hi_X11_refuse_2 hT) rfl (fun hf12 => ?_)
          refine v_push (0) (hi_X11_refuse_5 hT) rfl ?_
          refine v_ret (hi_X11_refuse_6 hT) (Or.inl rfl) ?_
          show vP D T N 158 27 (zset h 0 0 (0, 2)) [some (2, 0), some (0, x), some (0, y)] [(0, 0)] _
          refine v_ret (hi_X11_hand_27 hT) (Or.inl rfl) ?_
          exact k3 hc1 hc4 hc6 hc9
    · have hc4 : (P 0 3) ≤ x := Int.not_lt.mp hc4
      refine v_push (0) (hi_X2_hasCompany_16 hT) rfl ?_
      refine v_ret (hi_X2_hasCompany_17 hT) (Or.inl rfl) ?_
      show vP D T N 158 8 h [some (2, 0), some (0, x), some (0, y)] [(0, 0)] _
      refine v_if (hi_X11_hand_8 hT) (fun _ => ?_) (fun hc13 => absurd (show (0 : Int) = 0 from (by decide)) hc13)
      refine v_load (v := (2, 0)) (hi_X11_hand_22 hT) rfl rfl ?_
      refine v_push (2) (hi_X11_hand_23 hT) rfl ?_
      refine v_call (w := 2) [some (2, 0), some (0, 2)] hO (hi_X11_hand_24 hT) rfl rfl ?_
      refine v_load (v := (2, 0)) (hi_X11_refuse_0 hT) rfl rfl ?_
      refine v_load (v := (0, 2)) (hi_X11_refuse_1 hT) rfl rfl ?_
      refine v_putf (r := 0) hO (hi_X11_refuse_2 hT) rfl (fun hf14 => ?_)
      refine v_push (0) (hi_X11_refuse_5 hT) rfl ?_
      refine v_ret (hi_X11_refuse_6 hT) (Or.inl rfl) ?_
      show vP D T N 158 27 (zset h 0 0 (0, 2)) [some (2, 0), some (0, x), some (0, y)] [(0, 0)] _
      refine v_ret (hi_X11_hand_27 hT) (Or.inl rfl) ?_
      exact k4 hc1 hc4
theorem qt_hand28_39 {D : zD} {T : zT} (hT : hTab T) (hO : vOK T) {N : Nat} {h : zH} {Q : zR → Prop} {a j : Nat} (hv0 : zHv h) (e7 : h 0 7 = (2, 39)) (ha : a < 6)
    (k0 : (0 ≤ (a : Int)) → ((a : Int) < 6) → Q (zset (zset h 47 (((a : Int)).toNat) (0, (j : Int))) 0 0 (0, 0), some (0, 1))) :
    vP D T N 158 28 h [some (2, 0), some (0, (a : Int)), some (0, (j : Int))] [] Q := by
  refine v_load (v := (2, 0)) (hz_X11_hand hT _ _ rfl) rfl rfl ?_
  refine v_getf (v := (2, 39)) (r := 0) (hz_X11_hand hT _ _ rfl) rfl rfl (fun _ => e7) ?_
  refine v_getR (c := 47) (r := 39) (hz_X11_hand hT _ _ rfl) rfl rfl rfl ?_
  refine v_load (v := (0, (a : Int))) (hz_X11_hand hT _ _ rfl) rfl rfl ?_
  refine v_load (v := (0, (j : Int))) (hz_X11_hand hT _ _ rfl) rfl rfl ?_
  refine v_ast (r := 47) (hz_X11_hand hT _ _ rfl) rfl rfl (fun ha1 hb2 hf3 => ?_)
  refine v_load (v := (2, 0)) (hz_X11_hand hT _ _ rfl) rfl rfl ?_
  refine v_call (w := 1) [some (2, 0)] hO (hz_X11_hand hT _ _ rfl) rfl rfl ?_
  refine v_load (v := (2, 0)) (hi_X11_accept_0 hT) rfl rfl ?_
  refine v_push (0) (hi_X11_accept_1 hT) rfl ?_
  refine v_putf (r := 0) hO (hi_X11_accept_2 hT) rfl (fun hf4 => ?_)
  refine v_push (1) (hi_X11_accept_5 hT) rfl ?_
  refine v_ret (hi_X11_accept_6 hT) (Or.inl rfl) ?_
  show vP D T N 158 42 (zset (zset h 47 (((a : Int)).toNat) (0, (j : Int))) 0 0 (0, 0)) [some (2, 0), some (0, (a : Int)), some (0, (j : Int))] [(0, 1)] _
  refine v_ret (hz_X11_hand hT _ _ rfl) (Or.inl rfl) ?_
  exact k0 ha1 hb2
theorem qt_run0_39 {D : zD} {T : zT} (hT : hTab T) (hO : vOK T) {N : Nat} {h : zH} {Q : zR → Prop} (x s0 : Int) (hv0 : zHv h) (e7 : h 0 7 = (2, 39)) (es : h 49 0 = (0, s0))
    (k0 : (x < 0) → Q (zset h 0 0 (0, 5), some (0, -1)))
    (k1 : (0 ≤ x) → (9999 < x) → Q (zset h 0 0 (0, 5), some (0, -1)))
    (k2 : (0 ≤ x) → (x ≤ 9999) → (s0 = -1) → Q (zset h 0 0 (0, 8), some (0, -1)))
    (k3 : (0 ≤ x) → (x ≤ 9999) → (s0 ≠ -1) → vP D T N 90 0 h [some (2, 117), some (2, 39), some (0, x), none] [] (fun r1 => vP D T N 178 49 r1.1 [some (2, 0), some (0, x), none] (zpush r1.2 []) Q)) :
    vP D T N 178 0 h [some (2, 0), some (0, x), none] [] Q := by
  refine v_load (v := (0, x)) (hz_X11_run hT _ _ rfl) rfl rfl ?_
  refine v_if (hz_X11_run hT _ _ rfl) (fun hc1 => ?_) (fun hc1 => ?_)
  · have hc1 : x < 0 := hc1
    refine v_load (v := (2, 0)) (hi_X11_run_11 hT) rfl rfl ?_
    refine v_push (5) (hi_X11_run_12 hT) rfl ?_
    refine v_call (w := 2) [some (2, 0), some (0, 5)] hO (hi_X11_run_13 hT) rfl rfl ?_
    refine v_load (v := (2, 0)) (hi_X11_refused_0 hT) rfl rfl ?_
    refine v_load (v := (0, 5)) (hi_X11_refused_1 hT) rfl rfl ?_
    refine v_putf (r := 0) hO (hi_X11_refused_2 hT) rfl (fun hf2 => ?_)
    refine v_push (-1) (hi_X11_refused_5 hT) rfl ?_
    refine v_ret (hi_X11_refused_6 hT) (Or.inl rfl) ?_
    show vP D T N 178 16 (zset h 0 0 (0, 5)) [some (2, 0), some (0, x), none] [(0, -1)] _
    refine v_ret (hi_X11_run_16 hT) (Or.inl rfl) ?_
    exact k0 hc1
  · have hc1 : 0 ≤ x := Int.not_lt.mp hc1
    refine v_load (v := (0, x)) (hz_X11_run hT _ _ rfl) rfl rfl ?_
    refine v_push (9999) (hz_X11_run hT _ _ rfl) rfl ?_
    refine v_ic (hz_X11_run hT _ _ rfl) (fun hc3 => ?_) (fun hc3 => ?_)
    · have hc3 : 9999 < x := hc3
      refine v_load (v := (2, 0)) (hi_X11_run_11 hT) rfl rfl ?_
      refine v_push (5) (hi_X11_run_12 hT) rfl ?_
      refine v_call (w := 2) [some (2, 0), some (0, 5)] hO (hi_X11_run_13 hT) rfl rfl ?_
      refine v_load (v := (2, 0)) (hi_X11_refused_0 hT) rfl rfl ?_
      refine v_load (v := (0, 5)) (hi_X11_refused_1 hT) rfl rfl ?_
      refine v_putf (r := 0) hO (hi_X11_refused_2 hT) rfl (fun hf4 => ?_)
      refine v_push (-1) (hi_X11_refused_5 hT) rfl ?_
      refine v_ret (hi_X11_refused_6 hT) (Or.inl rfl) ?_
      show vP D T N 178 16 (zset h 0 0 (0, 5)) [some (2, 0), some (0, x), none] [(0, -1)] _
      refine v_ret (hi_X11_run_16 hT) (Or.inl rfl) ?_
      exact k1 hc1 hc3
    · have hc3 : x ≤ 9999 := Int.not_lt.mp hc3
      refine v_load (v := (2, 0)) (hz_X11_run hT _ _ rfl) rfl rfl ?_
      refine v_getf (v := (2, 39)) (r := 0) (hz_X11_run hT _ _ rfl) rfl rfl (fun _ => e7) ?_
      refine v_getR (c := 49) (r := 39) (hz_X11_run hT _ _ rfl) rfl rfl rfl ?_
      refine v_call (w := 1) [some (2, 49)] hO (hz_X11_run hT _ _ rfl) rfl rfl ?_
      refine v_load (v := (2, 49)) (hz_X5_areThere hT _ _ rfl) rfl rfl ?_
      refine v_getf (v := (0, s0)) (r := 49) (hz_X5_areThere hT _ _ rfl) rfl rfl (fun _ => es) ?_
      refine v_push (-1) (hz_X5_areThere hT _ _ rfl) rfl ?_
      refine v_ic (hz_X5_areThere hT _ _ rfl) (fun hc5 => ?_) (fun hc5 => ?_)
      · have hc5 : s0 = -1 := hc5
        refine v_push (0) (hz_X5_areThere hT _ _ rfl) rfl ?_
        refine v_ret (hi_X5_areThere_13 hT) (Or.inl rfl) ?_
        show vP D T N 178 27 h [some (2, 0), some (0, x), none] [(0, 0)] _
        refine v_if (hi_X11_run_27 hT) (fun _ => ?_) (fun hc6 => absurd (show (0 : Int) = 0 from (by decide)) hc6)
        refine v_load (v := (2, 0)) (hz_X11_run hT _ _ rfl) rfl rfl ?_
        refine v_push (8) (hz_X11_run hT _ _ rfl) rfl ?_
        refine v_call (w := 2) [some (2, 0), some (0, 8)] hO (hz_X11_run hT _ _ rfl) rfl rfl ?_
        refine v_load (v := (2, 0)) (hi_X11_refused_0 hT) rfl rfl ?_
        refine v_load (v := (0, 8)) (hi_X11_refused_1 hT) rfl rfl ?_
        refine v_putf (r := 0) hO (hi_X11_refused_2 hT) rfl (fun hf7 => ?_)
        refine v_push (-1) (hi_X11_refused_5 hT) rfl ?_
        refine v_ret (hi_X11_refused_6 hT) (Or.inl rfl) ?_
        show vP D T N 178 36 (zset h 0 0 (0, 8)) [some (2, 0), some (0, x), none] [(0, -1)] _
        refine v_ret (hz_X11_run hT _ _ rfl) (Or.inl rfl) ?_
        exact k2 hc1 hc3 hc5
      · have hc5 : s0 ≠ -1 := hc5
        refine v_push (1) (hz_X5_areThere hT _ _ rfl) rfl ?_
        refine v_goto (hz_X5_areThere hT _ _ rfl) ?_
        refine v_ret (hi_X5_areThere_13 hT) (Or.inl rfl) ?_
        show vP D T N 178 27 h [some (2, 0), some (0, x), none] [(0, 1)] _
        refine v_if (hi_X11_run_27 hT) (fun hc8 => absurd (show (1 : Int) = 0 from hc8) (by decide)) (fun _ => ?_)
        refine v_load (v := (2, 0)) (hz_X11_run hT _ _ rfl) rfl rfl ?_
        refine v_getR (c := 117) (r := 0) (hz_X11_run hT _ _ rfl) rfl rfl rfl ?_
        refine v_load (v := (2, 0)) (hz_X11_run hT _ _ rfl) rfl rfl ?_
        refine v_getf (v := (2, 39)) (r := 0) (hz_X11_run hT _ _ rfl) rfl rfl (fun _ => e7) ?_
        refine v_load (v := (0, x)) (hz_X11_run hT _ _ rfl) rfl rfl ?_
        refine v_call (w := 4) [some (2, 117), some (2, 39), some (0, x), none] hO (hz_X11_run hT _ _ rfl) rfl rfl ?_
        exact k3 hc1 hc3 hc5
theorem cx_dfL_39 {D : zD} {T : zT} (hT : hTab T) (hO : vOK T) {N : Nat} {h : zH} {Q : zR → Prop} {P : PT} {j t : Nat} (hP : cP 39 P h) (hb : fB P) (hj : j < 3) (ht : t < 3) (k : Q (h, some (0, ((uS P j t ((P 0 0).toNat * (P 0 1).toNat) : Nat) : Int)))) : ∀ (r q m : Nat), q + r = 48 → m = sC P (fun q => if P 3 (48 * j + q) = P 3 (48 * t + q) then 0 else 1) q → vP D T N 34 5 h [some (2, 39), some (0, (j : Int)), some (0, (t : Int)), some (0, (m : Int)), some (0, (q : Int))] [] Q
  | 0, q, m, hq, hm => by
    have : q = 48 := hq
    subst this
    rw [uS_sR, ← sC_sR hb.1, ← hm] at k
    exact vP_dn (vP_hv (fun hv => qk_df9_39 hT hO hv k))
  | r + 1, q, m, hq, hm => by
    have b1 := sC_le (P := P) (f := fun q => if P 3 (48 * j + q) = P 3 (48 * t + q) then 0 else 1) (fun q => by split <;> omega) q
    have ih := cx_dfL_39 (D := D) (N := N) hT hO hP hb hj ht k r (q + 1)
    refine vP_dn (vP_hv (fun hv => qk_df5_39 hT hO hv hP hb hj ht (by omega) (by omega) (fun g c => ih m (by omega) ?_) (fun g c => ih (m + 1) (by omega) ?_) (fun g => ih m (by omega) ?_)))
    · show m = sC P _ q + (if gIx P q = 1 then (if P 3 (48 * j + q) = P 3 (48 * t + q) then 0 else 1) else 0)
      rw [if_pos (gIx_y g), if_pos c, ← hm]
      rfl
    · show m + 1 = sC P _ q + (if gIx P q = 1 then (if P 3 (48 * j + q) = P 3 (48 * t + q) then 0 else 1) else 0)
      rw [if_pos (gIx_y g), if_neg c, ← hm]
    · show m = sC P _ q + (if gIx P q = 1 then (if P 3 (48 * j + q) = P 3 (48 * t + q) then 0 else 1) else 0)
      rw [if_neg (fun e => by rw [gIx_n (by omega) g] at e; exact absurd e (by decide)), ← hm]
      rfl
theorem cx_df_39 {D : zD} {T : zT} (hT : hTab T) (hO : vOK T) {N : Nat} {h : zH} {Q : zR → Prop} {P : PT} {j t : Nat} (hP : cP 39 P h) (hb : fB P) (hj : j < 3) (ht : t < 3) (k : Q (h, some (0, ((uS P j t ((P 0 0).toNat * (P 0 1).toNat) : Nat) : Int)))) : vP D T N 34 0 h [some (2, 39), some (0, (j : Int)), some (0, (t : Int)), none, none] [] Q := vP_hv (fun hv => qk_df0_39 hT hO hv (cx_dfL_39 hT hO hP hb hj ht k 48 0 0 rfl rfl))
section CT_39
variable {D : zD} {T : zT} {N : Nat} {h : zH} {P : PT}
theorem cx_bite_39 (hT : hTab T) (hO : vOK T) (hP : cP 39 P h) (hb : fB P) (e7 : h 0 7 = (2, 39)) (x y z : Int) : vP D T N 146 0 h [some (2, 0), some (0, x), some (0, y), some (0, z), none] [] (fun r => cP 39 (btP P x y z) r.1 ∧ cTF 39 h r.1 ∧ r.2 = some (0, btV P x y z)) := by
  have lb := hb.1
  have l3 := lb.2.2.1.2
  have no : ∀ v : Int, ¬ (okC P x y z ∧ P 3 (cI x y z) ≠ 1) → cP 39 (btP P x y z) (zset h 0 0 (0, v)) ∧ cTF 39 h (zset h 0 0 (0, v)) ∧ (some ((0, -1) : zV)) = some (0, btV P x y z) := fun v c => by
    unfold btP btV
    rw [if_neg c, if_neg c]
    exact ⟨hP.st (by decide), cTF.rfl.st, rfl⟩
  refine vP_hv (fun hv => qt_bite0_39 (P := P) hT hO x y z hv e7 hP.1.1 hP.1.2.1 hP.1.2.2.1 hP.1.2.2.2.1 lb ?k0 ?k1 ?k2 ?k3 ?k4 ?k5 ?k6)
  case k3 =>
    intro c1 c2 c3 c4 c5 c6
    obtain ⟨j, rfl⟩ : ∃ j : Nat, x = (j : Int) := ⟨x.toNat, by omega⟩
    obtain ⟨u, rfl⟩ : ∃ u : Nat, y = (u : Int) := ⟨y.toNat, by omega⟩
    obtain ⟨v, rfl⟩ : ∃ v : Nat, z = (v : Int) := ⟨z.toNat, by omega⟩
    have w8 := lb.1.2
    have r6 := lb.2.1.2
    refine vP_hv (fun hv => qt_bite19_39 hT hO hv e7 (by omega) (by omega) ?_)
    rw [show ((v : Int) * 8) + (u : Int) = ((8 * v + u : Nat) : Int) from by omega]
    refine cb_eat_39 hT hO _ _ j (8 * v + u) rfl rfl (by omega) (by omega) hP hb (fun c => ?_) (fun c g hP2 f => ?_)
    · exact vP_hv (fun hv => qt_bite36n hT hO _ hv (no 9 (fun d => d.2 c)))
    · have e1 : btP P (j : Int) (u : Int) (v : Int) = pBite P j (8 * v + u) := if_pos ⟨⟨c1, c2, c3, c4, c5, c6⟩, c⟩
      have e2 : btV P (j : Int) (u : Int) (v : Int) = gCr P (8 * v + u) := if_pos ⟨⟨c1, c2, c3, c4, c5, c6⟩, c⟩
      rw [e1, e2]
      exact vP_hv (fun hv => qt_bite36y_39 hT hO hv ((f 0 7 (by omega)).trans e7) hP2 ((hb.s3 (by decide)).s04) (by omega) ⟨hP2.st (by decide), f.tf.st, rfl⟩)
  all_goals
    intros
    exact no 2 (by rintro ⟨⟨o1, o2, o3, o4, o5, o6⟩, _⟩; omega)
theorem cx_mould_39 (hT : hTab T) (hO : vOK T) (hP : cP 39 P h) (hb : fB P) (e7 : h 0 7 = (2, 39)) (x y z : Int) : vP D T N 168 0 h [some (2, 0), some (0, x), some (0, y), some (0, z)] [] (fun r => cP 39 (moP P x y z) r.1 ∧ cTF 39 h r.1 ∧ r.2 = some (0, moV P x y z)) := by
  have lb := hb.1
  have l3 := lb.2.2.1.2
  have no : ∀ v : Int, ¬ (okC P x y z ∧ (P 3 (cI x y z) = 0)) → cP 39 (moP P x y z) (zset h 0 0 (0, v)) ∧ cTF 39 h (zset h 0 0 (0, v)) ∧ (some ((0, 0) : zV)) = some (0, moV P x y z) := fun v c => by
    unfold moP moV
    rw [if_neg c, if_neg c]
    exact ⟨hP.st (by decide), cTF.rfl.st, rfl⟩
  refine vP_hv (fun hv => qt_mould0_39 (P := P) hT hO x y z hv e7 hP.1.1 hP.1.2.1 hP.1.2.2.1 hP.1.2.2.2.1 lb ?k0 ?k1 ?k2 ?k3 ?k4 ?k5 ?k6)
  case k3 =>
    intro c1 c2 c3 c4 c5 c6
    obtain ⟨j, rfl⟩ : ∃ j : Nat, x = (j : Int) := ⟨x.toNat, by omega⟩
    obtain ⟨u, rfl⟩ : ∃ u : Nat, y = (u : Int) := ⟨y.toNat, by omega⟩
    obtain ⟨v, rfl⟩ : ∃ v : Nat, z = (v : Int) := ⟨z.toNat, by omega⟩
    have w8 := lb.1.2
    have r6 := lb.2.1.2
    have bs := hb.2.2.1 (48 * j + (8 * v + u)) (by omega)
    refine vP_hv (fun hv => qt_mould19_39 hT hO hv e7 (by omega) (by omega) ?_)
    refine cb_mo_39 hT hO _ _ j (8 * v + u) rfl (by omega) (by omega) (by omega) hP hb (fun c => ?_) (fun c g hP2 f => ?_)
    · exact vP_hv (fun hv => qt_mould32_0 hT hO hv (no 9 (fun d => by have d := d.2; have d : (P 3 (48 * j + (8 * v + u)) = 0) := d; omega)))
    · have cc : (P 3 (48 * j + (8 * v + u)) = 0) := by omega
      have e1 : moP P (j : Int) (u : Int) (v : Int) = pSt P j (8 * v + u) 2 := if_pos ⟨⟨c1, c2, c3, c4, c5, c6⟩, cc⟩
      have e2 : moV P (j : Int) (u : Int) (v : Int) = 1 := if_pos ⟨⟨c1, c2, c3, c4, c5, c6⟩, cc⟩
      rw [e1, e2]
      exact vP_hv (fun hv => qt_mould32_1 hT hO hv ⟨hP2.st (by decide), f.tf.st, rfl⟩)
  all_goals
    intros
    exact no 2 (by rintro ⟨⟨o1, o2, o3, o4, o5, o6⟩, _⟩; omega)
theorem cx_honey_39 (hT : hTab T) (hO : vOK T) (hP : cP 39 P h) (hb : fB P) (e7 : h 0 7 = (2, 39)) (x y z : Int) : vP D T N 160 0 h [some (2, 0), some (0, x), some (0, y), some (0, z)] [] (fun r => cP 39 (hoP P x y z) r.1 ∧ cTF 39 h r.1 ∧ r.2 = some (0, hoV P x y z)) := by
  have lb := hb.1
  have l3 := lb.2.2.1.2
  have no : ∀ v : Int, ¬ (okC P x y z ∧ (P 3 (cI x y z) = 0 ∨ P 3 (cI x y z) = 2)) → cP 39 (hoP P x y z) (zset h 0 0 (0, v)) ∧ cTF 39 h (zset h 0 0 (0, v)) ∧ (some ((0, 0) : zV)) = some (0, hoV P x y z) := fun v c => by
    unfold hoP hoV
    rw [if_neg c, if_neg c]
    exact ⟨hP.st (by decide), cTF.rfl.st, rfl⟩
  refine vP_hv (fun hv => qt_honey0_39 (P := P) hT hO x y z hv e7 hP.1.1 hP.1.2.1 hP.1.2.2.1 hP.1.2.2.2.1 lb ?k0 ?k1 ?k2 ?k3 ?k4 ?k5 ?k6)
  case k3 =>
    intro c1 c2 c3 c4 c5 c6
    obtain ⟨j, rfl⟩ : ∃ j : Nat, x = (j : Int) := ⟨x.toNat, by omega⟩
    obtain ⟨u, rfl⟩ : ∃ u : Nat, y = (u : Int) := ⟨y.toNat, by omega⟩
    obtain ⟨v, rfl⟩ : ∃ v : Nat, z = (v : Int) := ⟨z.toNat, by omega⟩
    have w8 := lb.1.2
    have r6 := lb.2.1.2
    have bs := hb.2.2.1 (48 * j + (8 * v + u)) (by omega)
    refine vP_hv (fun hv => qt_honey19_39 hT hO hv e7 (by omega) (by omega) ?_)
    refine cb_ho_39 hT hO _ _ j (8 * v + u) rfl (by omega) (by omega) (by omega) hP hb (fun c => ?_) (fun c g hP2 f => ?_)
    · exact vP_hv (fun hv => qt_honey32_0 hT hO hv (no 9 (fun d => by have d := d.2; have d : (P 3 (48 * j + (8 * v + u)) = 0 ∨ P 3 (48 * j + (8 * v + u)) = 2) := d; omega)))
    · have cc : (P 3 (48 * j + (8 * v + u)) = 0 ∨ P 3 (48 * j + (8 * v + u)) = 2) := by omega
      have e1 : hoP P (j : Int) (u : Int) (v : Int) = pSt P j (8 * v + u) 3 := if_pos ⟨⟨c1, c2, c3, c4, c5, c6⟩, cc⟩
      have e2 : hoV P (j : Int) (u : Int) (v : Int) = 1 := if_pos ⟨⟨c1, c2, c3, c4, c5, c6⟩, cc⟩
      rw [e1, e2]
      exact vP_hv (fun hv => qt_honey32_1 hT hO hv ⟨hP2.st (by decide), f.tf.st, rfl⟩)
  all_goals
    intros
    exact no 2 (by rintro ⟨⟨o1, o2, o3, o4, o5, o6⟩, _⟩; omega)
theorem cx_clean_39 (hT : hTab T) (hO : vOK T) (hP : cP 39 P h) (hb : fB P) (e7 : h 0 7 = (2, 39)) (x y z : Int) : vP D T N 149 0 h [some (2, 0), some (0, x), some (0, y), some (0, z)] [] (fun r => cP 39 (clP P x y z) r.1 ∧ cTF 39 h r.1 ∧ r.2 = some (0, clV P x y z)) := by
  have lb := hb.1
  have l3 := lb.2.2.1.2
  have no : ∀ v : Int, ¬ (okC P x y z ∧ (2 ≤ P 3 (cI x y z))) → cP 39 (clP P x y z) (zset h 0 0 (0, v)) ∧ cTF 39 h (zset h 0 0 (0, v)) ∧ (some ((0, 0) : zV)) = some (0, clV P x y z) := fun v c => by
    unfold clP clV
    rw [if_neg c, if_neg c]
    exact ⟨hP.st (by decide), cTF.rfl.st, rfl⟩
  refine vP_hv (fun hv => qt_clean0_39 (P := P) hT hO x y z hv e7 hP.1.1 hP.1.2.1 hP.1.2.2.1 hP.1.2.2.2.1 lb ?k0 ?k1 ?k2 ?k3 ?k4 ?k5 ?k6)
  case k3 =>
    intro c1 c2 c3 c4 c5 c6
    obtain ⟨j, rfl⟩ : ∃ j : Nat, x = (j : Int) := ⟨x.toNat, by omega⟩
    obtain ⟨u, rfl⟩ : ∃ u : Nat, y = (u : Int) := ⟨y.toNat, by omega⟩
    obtain ⟨v, rfl⟩ : ∃ v : Nat, z = (v : Int) := ⟨z.toNat, by omega⟩
    have w8 := lb.1.2
    have r6 := lb.2.1.2
    have bs := hb.2.2.1 (48 * j + (8 * v + u)) (by omega)
    refine vP_hv (fun hv => qt_clean19_39 hT hO hv e7 (by omega) (by omega) ?_)
    refine cb_wi_39 hT hO _ _ j (8 * v + u) rfl (by omega) (by omega) (by omega) hP hb (fun c => ?_) (fun c g hP2 f => ?_)
    · exact vP_hv (fun hv => qt_clean32_0 hT hO hv (no 9 (fun d => by have d := d.2; have d : (2 ≤ P 3 (48 * j + (8 * v + u))) := d; omega)))
    · have cc : (2 ≤ P 3 (48 * j + (8 * v + u))) := by omega
      have e1 : clP P (j : Int) (u : Int) (v : Int) = pSt P j (8 * v + u) 0 := if_pos ⟨⟨c1, c2, c3, c4, c5, c6⟩, cc⟩
      have e2 : clV P (j : Int) (u : Int) (v : Int) = 1 := if_pos ⟨⟨c1, c2, c3, c4, c5, c6⟩, cc⟩
      rw [e1, e2]
      exact vP_hv (fun hv => qt_clean32_1 hT hO hv ⟨hP2.st (by decide), f.tf.st, rfl⟩)
  all_goals
    intros
    exact no 2 (by rintro ⟨⟨o1, o2, o3, o4, o5, o6⟩, _⟩; omega)
theorem cx_steam_39 (hT : hTab T) (hO : vOK T) (hP : cP 39 P h) (hb : fB P) (e7 : h 0 7 = (2, 39)) (x y : Int) : vP D T N 182 0 h [some (2, 0), some (0, x), some (0, y), none] [] (fun r => cP 39 (ssP P x y) r.1 ∧ cTF 39 h r.1 ∧ r.2 = some (0, ssV P x y)) := by
  have lb := hb.1
  have l3 := lb.2.2.1.2
  have no : ∀ v : Int, ¬ (okS P x y ∧ x ≠ y) → cP 39 (ssP P x y) (zset h 0 0 (0, v)) ∧ cTF 39 h (zset h 0 0 (0, v)) ∧ (some ((0, -1) : zV)) = some (0, ssV P x y) := fun v c => by
    unfold ssP ssV
    rw [if_neg c, if_neg c]
    exact ⟨hP.st (by decide), cTF.rfl.st, rfl⟩
  refine vP_hv (fun hv => qt_steam0_39 (P := P) hT hO x y hv e7 hP.1.1 hP.1.2.1 hP.1.2.2.1 hP.1.2.2.2.1 lb ?k0 ?k1 ?k2 ?k3 ?k4 ?k5)
  case k2 =>
    intro c1 c2 c3 c4 c5
    exact no 5 (fun d => d.2 c5)
  case k3 =>
    intro c1 c2 c3 c4 c5
    obtain ⟨j, rfl⟩ : ∃ j : Nat, x = (j : Int) := ⟨x.toNat, by omega⟩
    obtain ⟨t, rfl⟩ : ∃ t : Nat, y = (t : Int) := ⟨y.toNat, by omega⟩
    have e1 : ssP P (j : Int) (t : Int) = pSteam P j t := if_pos ⟨⟨c1, c2, c3, c4⟩, c5⟩
    have e2 : ssV P (j : Int) (t : Int) = ((uS P j t ((P 0 0).toNat * (P 0 1).toNat) : Nat) : Int) := if_pos ⟨⟨c1, c2, c3, c4⟩, c5⟩
    rw [e1, e2]
    refine vP_hv (fun hv => qt_steam39_39 hT hO hv e7 ?_)
    refine cx_df_39 hT hO hP hb (by omega) (by omega) ?_
    refine vP_hv (fun hv => qt_steam48_39 hT hO _ hv e7 ?_)
    refine cb_so_39 hT hO _ _ j t rfl rfl (by omega) (by omega) hP (fun g hP2 f => ?_)
    exact vP_hv (fun hv => qt_steam58 hT hO _ hv ⟨hP2.st (by decide), f.tf.st, rfl⟩)
  all_goals
    intros
    exact no 2 (by rintro ⟨⟨o1, o2, o3, o4⟩, _⟩; omega)
theorem cx_march_39 (hT : hTab T) (hO : vOK T) (hP : cP 39 P h) (hb : fB P) (e7 : h 0 7 = (2, 39)) (x : Int) : vP D T N 164 0 h [some (2, 0), some (0, x), none] [] (fun r => cP 39 (maP P x) r.1 ∧ cTF 39 h r.1 ∧ r.2 = some (0, maV P x)) := by
  have lb := hb.1
  have l6 := lb.2.2.2.2
  have no : ∀ (g : zH) (v : Int), cP 39 P g → cTF 39 h g → ¬ (okM P x ∧ mC P x.toNat ≠ -1) → cP 39 (maP P x) (zset g 0 0 (0, v)) ∧ cTF 39 h (zset g 0 0 (0, v)) ∧ (some ((0, -1) : zV)) = some (0, maV P x) := fun g v hg f c => by
    unfold maP maV
    rw [if_neg c, if_neg c]
    exact ⟨hg.st (by decide), f.st, rfl⟩
  refine vP_hv (fun hv => qt_march0_39 (P := P) hT hO x hv e7 hP.1.1 hP.1.2.1 hP.1.2.2.1 hP.1.2.2.2.1 lb ?k0 ?k1 ?k2)
  case k1 =>
    intro c1 c2
    obtain ⟨a, rfl⟩ : ∃ a : Nat, x = (a : Int) := ⟨x.toNat, by omega⟩
    refine vP_hv (fun hv => qt_march17_39 hT hO hv e7 ?_)
    refine cx_fw_39 hT hO _ a rfl hP hb c2 (fun g w1 _ w3 => ?_)
    have F : cTF 39 h g := fun i k hn => w1 i k (fun e => hn (by omega))
    have hP1 : cP 39 P g := hP.eq (fun i k h1 h2 => w1 i k (by omega))
    by_cases c : mC P a = -1
    · have c' : yCost P (gCo P (P 8 a).toNat) (P 6 a).toNat (P 7 a).toNat = -1 := c
      rw [c']
      exact vP_hv (fun hv => qt_march29n hT hO hv (no g 9 hP1 F (fun d => d.2 c)))
    · have c0 := mC_n hb c2 c
      obtain ⟨n47, hg⟩ := mP_ok hb c2 c0
      obtain ⟨_, ⟨_, g6⟩, _⟩ := hb.2.2.2 a c2
      have hp := w3.2 ((yCost_f g6).mp c0)
      have e1 : maP P (a : Int) = pGo P a (mP P a) (mS P a) := if_pos ⟨⟨c1, c2⟩, c⟩
      have e2 : maV P (a : Int) = ((mS P a : Nat) : Int) := if_pos ⟨⟨c1, c2⟩, c⟩
      rw [e1, e2]
      show vP D T N 164 29 g [some (2, 0), some (0, (a : Int)), none] [(0, mC P a)] _
      refine vP_hv (fun hv => qt_march29_39 hT hO (mC P a) hv ((w1 0 7 (by omega)).trans e7) c ?_)
      refine cx_ld_39 hT hO _ a rfl hP1 hb c2 n47 hp hg (fun g2 hP2 f2 => ?_)
      have e7' : g2 100 7 = (0, ((mN P a : Nat) : Int)) := (f2 100 7 (by omega)).trans hp.2.1
      have hP3 : ∀ v : zV, cP 39 (pGo P a (mP P a) (mS P a)) (zset g2 0 18 v) := fun v => hP2.eq (fun i k h1 h2 => zset_ne (fun e => by omega))
      have F3 : ∀ v : zV, cTF 39 h (zset g2 0 18 v) := fun v i k hn => (zset_ne (fun e => hn (by omega))).trans ((f2 i k (fun e => hn (by omega))).trans (F i k hn))
      exact vP_hv (fun hv => qt_march52 (s := mS P a) hT hO hv e7' (fun _ => ⟨(hP3 _).st (by decide), (F3 _).st, rfl⟩) (fun _ => ⟨(hP3 _).st (by decide), (F3 _).st, rfl⟩))
  all_goals
    intros
    exact no h 2 hP cTF.rfl (by rintro ⟨⟨o1, o2⟩, _⟩; omega)
theorem cx_hand_39 (hT : hTab T) (hO : vOK T) (hP : cP 39 P h) (hb : fB P) (e7 : h 0 7 = (2, 39)) (x y : Int) : vP D T N 158 0 h [some (2, 0), some (0, x), some (0, y)] [] (fun r => cP 39 (haP P x y) r.1 ∧ cTF 39 h r.1 ∧ r.2 = some (0, haV P x y)) := by
  have lb := hb.1
  have l6 := lb.2.2.2.2
  have no : ∀ v : Int, ¬ okH P x y → cP 39 (haP P x y) (zset h 0 0 (0, v)) ∧ cTF 39 h (zset h 0 0 (0, v)) ∧ (some ((0, 0) : zV)) = some (0, haV P x y) := fun v c => by
    unfold haP haV
    rw [if_neg c, if_neg c]
    exact ⟨hP.st (by decide), cTF.rfl.st, rfl⟩
  refine vP_hv (fun hv => qt_hand0_39 (P := P) hT hO x y hv e7 hP.1.1 hP.1.2.1 hP.1.2.2.1 hP.1.2.2.2.1 lb ?k0 ?k1 ?k2 ?k3 ?k4)
  case k2 =>
    intro c1 c2 c3 c4
    obtain ⟨a, rfl⟩ : ∃ a : Nat, x = (a : Int) := ⟨x.toNat, by omega⟩
    obtain ⟨j, rfl⟩ : ∃ j : Nat, y = (j : Int) := ⟨y.toNat, by omega⟩
    have e1 : haP P (a : Int) (j : Int) = pset P 8 a (j : Int) := if_pos ⟨c1, c2, c3, c4⟩
    have e2 : haV P (a : Int) (j : Int) = 1 := if_pos ⟨c1, c2, c3, c4⟩
    rw [e1, e2]
    refine vP_hv (fun hv => qt_hand28_39 hT hO hv e7 (by omega) (fun _ _ => ?_))
    rw [show ((a : Int)).toNat = a from by omega]
    exact ⟨hP.s8.st (by decide), (cTF.st (fun i k hn => zset_ne (fun e => hn (by omega)))), rfl⟩
  all_goals
    intros
    exact no 2 (by rintro ⟨o1, o2, o3, o4⟩; omega)
end CT_39
end
section
theorem cx_carry_39 {D : zD} {T : zT} (hT : hTab T) (hO : vOK T) {N : Nat} {h : zH} {Q : zR → Prop} {P : PT} {t : OT} (seed : Nat) (hsd : seed ≤ 9999) (hP : cP 39 P h) (hb : fB P) (hw : 1 ≤ P 0 0 ∧ 1 ≤ P 0 1) (ok : oOk P t) (ly : cLay 39 h t 0) (hn : tN t ≤ 60) (ez : h 49 0 = (0, (tN t : Int))) (k : ∀ g : zH, cR1 39 (ev t (runS P seed)) g → g 117 11 = (0, if (ev t (runS P seed)).ov = 2 then 1 else 0) → cCF 39 h g → Q (g, some (0, ((ev t (runS P seed)).dn : Int)))) : vP D T N 90 0 h [some (2, 117), some (2, 39), some (0, (seed : Int)), none] [] Q := by
  refine vP_hv (fun hv => qk_co0_39 hT hO _ hv ?_)
  generalize eg : (zset (zset (zset (zset (zset (zset (zset (zset (zset (zset h 117 2 (2, 39)) 117 3 (2, 49)) 117 4 (0, (seed : Int))) 117 5 (0, 0)) 117 6 (0, 0)) 117 7 (0, 0)) 117 8 (0, 0)) 117 9 (0, 0)) 117 10 (0, 0)) 117 11 (0, 0)) = g0
  have F : ∀ a b, a ≠ 117 → g0 a b = h a b := fun a b ha => by
    rw [← eg]
    exact (zset_ne (fun e => ha e.1)).trans ((zset_ne (fun e => ha e.1)).trans ((zset_ne (fun e => ha e.1)).trans ((zset_ne (fun e => ha e.1)).trans ((zset_ne (fun e => ha e.1)).trans ((zset_ne (fun e => ha e.1)).trans ((zset_ne (fun e => ha e.1)).trans ((zset_ne (fun e => ha e.1)).trans ((zset_ne (fun e => ha e.1)).trans (zset_ne (fun e => ha e.1))))))))))
  have v11 : g0 117 11 = (0, 0) := by rw [← eg]; exact zset_same
  have v10 : g0 117 10 = (0, 0) := by rw [← eg]; exact (zset_ne (by decide)).trans zset_same
  have v9 : g0 117 9 = (0, 0) := by rw [← eg]; exact (zset_ne (by decide)).trans ((zset_ne (by decide)).trans zset_same)
  have v8 : g0 117 8 = (0, 0) := by rw [← eg]; exact (zset_ne (by decide)).trans ((zset_ne (by decide)).trans ((zset_ne (by decide)).trans zset_same))
  have v7 : g0 117 7 = (0, 0) := by rw [← eg]; exact (zset_ne (by decide)).trans ((zset_ne (by decide)).trans ((zset_ne (by decide)).trans ((zset_ne (by decide)).trans zset_same)))
  have v6 : g0 117 6 = (0, 0) := by rw [← eg]; exact (zset_ne (by decide)).trans ((zset_ne (by decide)).trans ((zset_ne (by decide)).trans ((zset_ne (by decide)).trans ((zset_ne (by decide)).trans zset_same))))
  have v5 : g0 117 5 = (0, 0) := by rw [← eg]; exact (zset_ne (by decide)).trans ((zset_ne (by decide)).trans ((zset_ne (by decide)).trans ((zset_ne (by decide)).trans ((zset_ne (by decide)).trans ((zset_ne (by decide)).trans zset_same)))))
  have v4 : g0 117 4 = (0, (seed : Int)) := by rw [← eg]; exact (zset_ne (by decide)).trans ((zset_ne (by decide)).trans ((zset_ne (by decide)).trans ((zset_ne (by decide)).trans ((zset_ne (by decide)).trans ((zset_ne (by decide)).trans ((zset_ne (by decide)).trans zset_same))))))
  have v3 : g0 117 3 = (2, 49) := by rw [← eg]; exact (zset_ne (by decide)).trans ((zset_ne (by decide)).trans ((zset_ne (by decide)).trans ((zset_ne (by decide)).trans ((zset_ne (by decide)).trans ((zset_ne (by decide)).trans ((zset_ne (by decide)).trans ((zset_ne (by decide)).trans zset_same)))))))
  have v2 : g0 117 2 = (2, 39) := by rw [← eg]; exact (zset_ne (by decide)).trans ((zset_ne (by decide)).trans ((zset_ne (by decide)).trans ((zset_ne (by decide)).trans ((zset_ne (by decide)).trans ((zset_ne (by decide)).trans ((zset_ne (by decide)).trans ((zset_ne (by decide)).trans ((zset_ne (by decide)).trans zset_same))))))))
  have hP0 : cP 39 P g0 := hP.eq (fun a b h1 h2 => F a b (by omega))
  have ly0 : cLay 39 g0 t 0 := ly.tr (fun j k h1 h2 _ => F _ _ (by omega)) (by omega)
  have ez0 : g0 49 0 = (0, (tN t : Int)) := (F 49 0 (by decide)).trans ez
  have FC : ∀ {g : zH}, cDF 39 g0 g → cCF 39 h g := fun f a b hn => (f a b (fun e => hn (by omega))).trans (F a b (fun e => hn (by omega)))
  refine cx_ev_39 hT hO (P0 := P) (z := tN t) (h0 := g0) ez0 hn t (runS P seed) 0 0 g0 ok ly0 (by omega) (runS_B hb hw hsd) pSh.rfl rfl ⟨⟨hP0, v4, v7, v8, v9, v10⟩, v2, v3, v5, v6, v11⟩ cDF.rfl (Nat.zero_le _) (by decide) (fun g x' ov hs f _ c5 => ?_) (fun g ov r1 e11 f => k g r1 e11 (FC f))
  obtain ⟨r1, e2, e3, e5, e6, e11⟩ := hs
  have d7 := (ev_ok t (runS P seed) ok (runS_B hb hw hsd) pSh.rfl).1.2.2.2.2.2.2.1
  have hx : x' < 30300 := by
    rcases c5 with ⟨_, c5⟩ | c5
    · omega
    · have e : (runS P seed).dn = 0 := rfl
      omega
  refine vP_dn (vP_hv (fun hv => qk_tx5_39 hT hO _ hv e2 e3 e5 e6 ((f 49 0 (by omega)).trans ez0) (by omega) r1.2.2.1 (by omega) ?_))
  exact k g r1 (by rw [if_neg (by omega)]; exact e11) (FC f)
theorem cx_runN_39 {D : zD} {T : zT} (hT : hTab T) (hO : vOK T) {N : Nat} {h : zH} (x s0 : Int) (e7 : h 0 7 = (2, 39)) (es : h 49 0 = (0, s0)) (hn : ¬ (0 ≤ x ∧ x ≤ 9999) ∨ s0 = -1) : vP D T N 178 0 h [some (2, 0), some (0, x), none] [] (fun r => (∃ w : Int, r.1 = zset h 0 0 (0, w)) ∧ r.2 = some (0, -1)) := by
  refine vP_hv (fun hv => qt_run0_39 hT hO x s0 hv e7 es (fun _ => ⟨⟨_, rfl⟩, rfl⟩) (fun _ _ => ⟨⟨_, rfl⟩, rfl⟩) (fun _ _ _ => ⟨⟨_, rfl⟩, rfl⟩) (fun c1 c2 c3 => ?_))
  exact absurd hn (by omega)
theorem cx_runY_39 {D : zD} {T : zT} (hT : hTab T) (hO : vOK T) {N : Nat} {h : zH} {P : PT} {t : OT} (seed : Nat) (hsd : seed ≤ 9999) (e7 : h 0 7 = (2, 39)) (hP : cP 39 P h) (hb : fB P) (hw : 1 ≤ P 0 0 ∧ 1 ≤ P 0 1) (ok : oOk P t) (ly : cLay 39 h t 0) (hn : tN t ≤ 60) (ez : h 49 0 = (0, (tN t : Int))) : vP D T N 178 0 h [some (2, 0), some (0, (seed : Int)), none] [] (fun r => cP 39 (ev t (runS P seed)).P r.1 ∧ cUF 39 h r.1 ∧ r.2 = some (0, ((ev t (runS P seed)).dn : Int)) ∧ r.1 120 0 = (0, ((ev t (runS P seed)).ms : Int)) ∧ r.1 120 1 = (0, ((ev t (runS P seed)).bt : Int)) ∧ r.1 120 2 = (0, ((ev t (runS P seed)).sk : Int)) ∧ r.1 120 3 = (0, if (ev t (runS P seed)).ov = 2 then 1 else 0)) := by
  refine vP_hv (fun hv => qt_run0_39 hT hO _ _ hv e7 ez (fun c => absurd c (by omega)) (fun _ c => absurd c (by omega)) (fun _ _ c => absurd c (by omega)) (fun _ _ _ => ?_))
  refine cx_carry_39 hT hO seed hsd hP hb hw ok ly hn ez (fun g r1 e11 f => ?_)
  show vP D T N 178 49 g [some (2, 0), some (0, (seed : Int)), none] [(0, ((ev t (runS P seed)).dn : Int))] _
  obtain ⟨q1, q4, q7, q8, q9, q10⟩ := r1
  have U : ∀ v3 : zV, cUF 39 h (zset (zset (zset (zset (zset g 120 0 (0, ((ev t (runS P seed)).ms : Int))) 120 1 (0, ((ev t (runS P seed)).bt : Int))) 120 2 (0, ((ev t (runS P seed)).sk : Int))) 120 3 v3) 0 0 (0, 0)) := fun v3 a b hn => (zset_ne (fun e => hn (by omega))).trans ((zset_ne (fun e => hn (by omega))).trans ((zset_ne (fun e => hn (by omega))).trans ((zset_ne (fun e => hn (by omega))).trans ((zset_ne (fun e => hn (by omega))).trans (f a b (fun e => hn (by omega)))))))
  have C : ∀ v3 : zV, cP 39 (ev t (runS P seed)).P (zset (zset (zset (zset (zset g 120 0 (0, ((ev t (runS P seed)).ms : Int))) 120 1 (0, ((ev t (runS P seed)).bt : Int))) 120 2 (0, ((ev t (runS P seed)).sk : Int))) 120 3 v3) 0 0 (0, 0)) := fun v3 => q1.eq (fun a b h1 h2 => (zset_ne (by omega)).trans ((zset_ne (by omega)).trans ((zset_ne (by omega)).trans ((zset_ne (by omega)).trans (zset_ne (by omega))))))
  have A0 : ∀ v3 : zV, (zset (zset (zset (zset (zset g 120 0 (0, ((ev t (runS P seed)).ms : Int))) 120 1 (0, ((ev t (runS P seed)).bt : Int))) 120 2 (0, ((ev t (runS P seed)).sk : Int))) 120 3 v3) 0 0 (0, 0)) 120 0 = (0, ((ev t (runS P seed)).ms : Int)) := fun v3 => (zset_ne (by decide)).trans ((zset_ne (by decide)).trans ((zset_ne (by decide)).trans ((zset_ne (by decide)).trans zset_same)))
  have A1 : ∀ v3 : zV, (zset (zset (zset (zset (zset g 120 0 (0, ((ev t (runS P seed)).ms : Int))) 120 1 (0, ((ev t (runS P seed)).bt : Int))) 120 2 (0, ((ev t (runS P seed)).sk : Int))) 120 3 v3) 0 0 (0, 0)) 120 1 = (0, ((ev t (runS P seed)).bt : Int)) := fun v3 => (zset_ne (by decide)).trans ((zset_ne (by decide)).trans ((zset_ne (by decide)).trans zset_same))
  have A2 : ∀ v3 : zV, (zset (zset (zset (zset (zset g 120 0 (0, ((ev t (runS P seed)).ms : Int))) 120 1 (0, ((ev t (runS P seed)).bt : Int))) 120 2 (0, ((ev t (runS P seed)).sk : Int))) 120 3 v3) 0 0 (0, 0)) 120 2 = (0, ((ev t (runS P seed)).sk : Int)) := fun v3 => (zset_ne (by decide)).trans ((zset_ne (by decide)).trans zset_same)
  have A3 : ∀ v3 : zV, (zset (zset (zset (zset (zset g 120 0 (0, ((ev t (runS P seed)).ms : Int))) 120 1 (0, ((ev t (runS P seed)).bt : Int))) 120 2 (0, ((ev t (runS P seed)).sk : Int))) 120 3 v3) 0 0 (0, 0)) 120 3 = v3 := fun v3 => (zset_ne (by decide)).trans zset_same
  by_cases c : (ev t (runS P seed)).ov = 2
  · rw [if_pos c] at e11 ⊢
    exact vP_hv (fun hv => qt_run49_1 hT hO _ hv q8 q9 q10 e11 ⟨C (0, 1), U (0, 1), rfl, A0 (0, 1), A1 (0, 1), A2 (0, 1), A3 (0, 1)⟩)
  · rw [if_neg c] at e11 ⊢
    exact vP_hv (fun hv => qt_run49_0 hT hO _ hv q8 q9 q10 e11 ⟨C (0, 0), U (0, 0), rfl, A0 (0, 0), A1 (0, 0), A2 (0, 0), A3 (0, 0)⟩)
end
section
section PK
variable {P : PT}
theorem btP_ok (hb : fB P) (x y z : Int) : fB (btP P x y z) ∧ pSh P (btP P x y z) := by
  unfold btP
  split
  · exact ⟨(hb.s3 (by decide)).s04, rfl, rfl, rfl, rfl⟩
  · exact ⟨hb, pSh.rfl⟩
theorem moP_ok (hb : fB P) (x y z : Int) : fB (moP P x y z) ∧ pSh P (moP P x y z) := by
  unfold moP
  split
  · exact ⟨hb.s3 (by decide), rfl, rfl, rfl, rfl⟩
  · exact ⟨hb, pSh.rfl⟩
theorem hoP_ok (hb : fB P) (x y z : Int) : fB (hoP P x y z) ∧ pSh P (hoP P x y z) := by
  unfold hoP
  split
  · exact ⟨hb.s3 (by decide), rfl, rfl, rfl, rfl⟩
  · exact ⟨hb, pSh.rfl⟩
theorem clP_ok (hb : fB P) (x y z : Int) : fB (clP P x y z) ∧ pSh P (clP P x y z) := by
  unfold clP
  split
  · exact ⟨hb.s3 (by decide), rfl, rfl, rfl, rfl⟩
  · exact ⟨hb, pSh.rfl⟩
theorem ssP_ok (hb : fB P) (x y : Int) : fB (ssP P x y) ∧ pSh P (ssP P x y) := by
  unfold ssP
  by_cases c : okS P x y ∧ x ≠ y
  · rw [if_pos c]
    have l3 := hb.1.2.2.1.2
    have c1 := c.1.1
    have c2 := c.1.2.1
    exact ⟨hb.steam (by omega), rfl, rfl, rfl, rfl⟩
  · rw [if_neg c]
    exact ⟨hb, pSh.rfl⟩
theorem maP_ok (hb : fB P) (x : Int) : fB (maP P x) ∧ pSh P (maP P x) := by
  unfold maP
  by_cases c : okM P x ∧ mC P x.toNat ≠ -1
  · rw [if_pos c]
    have c1 := c.1.1
    have c2 := c.1.2
    have hm : ((x.toNat : Nat) : Int) < P 0 3 := by omega
    exact ⟨fB_march hb hm (mC_n hb hm c.2), pGo_sh⟩
  · rw [if_neg c]
    exact ⟨hb, pSh.rfl⟩
theorem haP_ok (hb : fB P) (x y : Int) : fB (haP P x y) ∧ pSh P (haP P x y) := by
  unfold haP
  by_cases c : okH P x y
  · rw [if_pos c]
    exact ⟨hb.s8 ⟨c.2.2.1, c.2.2.2⟩, rfl, rfl, rfl, rfl⟩
  · rw [if_neg c]
    exact ⟨hb, pSh.rfl⟩
end PK
theorem fRk_bite {D : zD} (_ : ∀ i, -2147483648 ≤ D.2 i ∧ D.2 i ≤ 2147483647) {h h1 h2 : zH} {x y z v1 v2 : Int} (hZ : lZ D h) (hZ1 : lZ D h1) (hR : fR h) (z1 : zRun D TLw 614 146 0 (h, zargs 0 [(2, 0), (0, x), (0, y), (0, z)], []) (h1, some (0, v1))) (f1 : aFr lM_146 h h1) (z2 : zRun D TLw 614 202 0 (h1, zargs 0 [(2, 121), (0, x), (0, y), (0, z)], []) (h2, some (0, v2))) (f2 : aFr lM_202 h1 h2) : fR h2 ∧ v1 = v2 := by
  obtain ⟨hL, hM, r, c, s1, s2, s3, P, p1, p2, p3, p4, o⟩ := hR
  have a1 : cP c (btP P x y z) h1 ∧ cTF c h h1 ∧ v1 = btV P x y z := by
    rcases s1 with ⟨rfl, rfl⟩ | ⟨rfl, rfl⟩
    · obtain ⟨q1, q2, q3⟩ := hZ.run 5 z1 (Q := fun r => cP 39 (btP P x y z) r.1 ∧ cTF 39 h r.1 ∧ r.2 = some (0, btV P x y z)) (fun N => cx_bite_39 TLw_T vOK_T p1 p3 s2 x y z)
      exact ⟨q1, q2, by cases (q3 : some ((0, v1) : zV) = some (0, btV P x y z)); rfl⟩
    · obtain ⟨q1, q2, q3⟩ := hZ.run 5 z1 (Q := fun r => cP 24 (btP P x y z) r.1 ∧ cTF 24 h r.1 ∧ r.2 = some (0, btV P x y z)) (fun N => cx_bite_24 TLw_T vOK_T p1 p3 s2 x y z)
      exact ⟨q1, q2, by cases (q3 : some ((0, v1) : zV) = some (0, btV P x y z)); rfl⟩
  obtain ⟨q1, q2, q3⟩ := a1
  have hR1 : rBk 0 P h1 := p2.eq p3.1 (fun b _ hb => f1.keep (S := [(126, 0, 274)]) (by decide +kernel) ⟨(126, 0, 274), List.mem_cons_self, rfl, Nat.zero_le _, show b ≤ 274 by omega⟩)
  obtain ⟨r1, r2, r3⟩ := hZ1.run 5 z2 (Q := fun r => rBk 0 (btP P x y z) r.1 ∧ rTF h1 r.1 ∧ r.2 = some (0, btV P x y z)) (fun N => rx_bite TLw_T vOK_T hR1 p3 x y z)
  have r3 : v2 = btV P x y z := by cases (r3 : some ((0, v2) : zV) = some (0, btV P x y z)); rfl
  have c2 := s1.c2
  obtain ⟨k1, k2⟩ := btP_ok p3 x y z
  refine ⟨⟨lR_S h h2 (fun a k hi => (f2.keep (by decide +kernel) hi).trans (f1.keep (by decide +kernel) hi)) hL, fX_up hM s1 s2 s3 o k2 (fun a b hf => ?_) (q1.eq (fun a b h1 h2 => r2 a b (by omega))) r1 k1 (by rw [k2.1, k2.2.1]; exact p4)⟩, q3.trans r3.symm⟩
  unfold fOut at hf
  exact (r2 a b (by omega)).trans (q2 a b (by omega))
theorem fRk_mould {D : zD} (_ : ∀ i, -2147483648 ≤ D.2 i ∧ D.2 i ≤ 2147483647) {h h1 h2 : zH} {x y z v1 v2 : Int} (hZ : lZ D h) (hZ1 : lZ D h1) (hR : fR h) (z1 : zRun D TLw 614 168 0 (h, zargs 0 [(2, 0), (0, x), (0, y), (0, z)], []) (h1, some (0, v1))) (f1 : aFr lM_168 h h1) (z2 : zRun D TLw 614 279 0 (h1, zargs 0 [(2, 121), (0, x), (0, y), (0, z)], []) (h2, some (0, v2))) (f2 : aFr lM_279 h1 h2) : fR h2 ∧ v1 = v2 := by
  obtain ⟨hL, hM, r, c, s1, s2, s3, P, p1, p2, p3, p4, o⟩ := hR
  have a1 : cP c (moP P x y z) h1 ∧ cTF c h h1 ∧ v1 = moV P x y z := by
    rcases s1 with ⟨rfl, rfl⟩ | ⟨rfl, rfl⟩
    · obtain ⟨q1, q2, q3⟩ := hZ.run 4 z1 (Q := fun r => cP 39 (moP P x y z) r.1 ∧ cTF 39 h r.1 ∧ r.2 = some (0, moV P x y z)) (fun N => cx_mould_39 TLw_T vOK_T p1 p3 s2 x y z)
      exact ⟨q1, q2, by cases (q3 : some ((0, v1) : zV) = some (0, moV P x y z)); rfl⟩
    · obtain ⟨q1, q2, q3⟩ := hZ.run 4 z1 (Q := fun r => cP 24 (moP P x y z) r.1 ∧ cTF 24 h r.1 ∧ r.2 = some (0, moV P x y z)) (fun N => cx_mould_24 TLw_T vOK_T p1 p3 s2 x y z)
      exact ⟨q1, q2, by cases (q3 : some ((0, v1) : zV) = some (0, moV P x y z)); rfl⟩
  obtain ⟨q1, q2, q3⟩ := a1
  have hR1 : rBk 0 P h1 := p2.eq p3.1 (fun b _ hb => f1.keep (S := [(126, 0, 274)]) (by decide +kernel) ⟨(126, 0, 274), List.mem_cons_self, rfl, Nat.zero_le _, show b ≤ 274 by omega⟩)
  obtain ⟨r1, r2, r3⟩ := hZ1.run 4 z2 (Q := fun r => rBk 0 (moP P x y z) r.1 ∧ rTF h1 r.1 ∧ r.2 = some (0, moV P x y z)) (fun N => rx_mould TLw_T vOK_T hR1 p3 x y z)
  have r3 : v2 = moV P x y z := by cases (r3 : some ((0, v2) : zV) = some (0, moV P x y z)); rfl
  have c2 := s1.c2
  obtain ⟨k1, k2⟩ := moP_ok p3 x y z
  refine ⟨⟨lR_S h h2 (fun a k hi => (f2.keep (by decide +kernel) hi).trans (f1.keep (by decide +kernel) hi)) hL, fX_up hM s1 s2 s3 o k2 (fun a b hf => ?_) (q1.eq (fun a b h1 h2 => r2 a b (by omega))) r1 k1 (by rw [k2.1, k2.2.1]; exact p4)⟩, q3.trans r3.symm⟩
  unfold fOut at hf
  exact (r2 a b (by omega)).trans (q2 a b (by omega))
theorem fRk_honey {D : zD} (_ : ∀ i, -2147483648 ≤ D.2 i ∧ D.2 i ≤ 2147483647) {h h1 h2 : zH} {x y z v1 v2 : Int} (hZ : lZ D h) (hZ1 : lZ D h1) (hR : fR h) (z1 : zRun D TLw 614 160 0 (h, zargs 0 [(2, 0), (0, x), (0, y), (0, z)], []) (h1, some (0, v1))) (f1 : aFr lM_160 h h1) (z2 : zRun D TLw 614 239 0 (h1, zargs 0 [(2, 121), (0, x), (0, y), (0, z)], []) (h2, some (0, v2))) (f2 : aFr lM_239 h1 h2) : fR h2 ∧ v1 = v2 := by
  obtain ⟨hL, hM, r, c, s1, s2, s3, P, p1, p2, p3, p4, o⟩ := hR
  have a1 : cP c (hoP P x y z) h1 ∧ cTF c h h1 ∧ v1 = hoV P x y z := by
    rcases s1 with ⟨rfl, rfl⟩ | ⟨rfl, rfl⟩
    · obtain ⟨q1, q2, q3⟩ := hZ.run 4 z1 (Q := fun r => cP 39 (hoP P x y z) r.1 ∧ cTF 39 h r.1 ∧ r.2 = some (0, hoV P x y z)) (fun N => cx_honey_39 TLw_T vOK_T p1 p3 s2 x y z)
      exact ⟨q1, q2, by cases (q3 : some ((0, v1) : zV) = some (0, hoV P x y z)); rfl⟩
    · obtain ⟨q1, q2, q3⟩ := hZ.run 4 z1 (Q := fun r => cP 24 (hoP P x y z) r.1 ∧ cTF 24 h r.1 ∧ r.2 = some (0, hoV P x y z)) (fun N => cx_honey_24 TLw_T vOK_T p1 p3 s2 x y z)
      exact ⟨q1, q2, by cases (q3 : some ((0, v1) : zV) = some (0, hoV P x y z)); rfl⟩
  obtain ⟨q1, q2, q3⟩ := a1
  have hR1 : rBk 0 P h1 := p2.eq p3.1 (fun b _ hb => f1.keep (S := [(126, 0, 274)]) (by decide +kernel) ⟨(126, 0, 274), List.mem_cons_self, rfl, Nat.zero_le _, show b ≤ 274 by omega⟩)
  obtain ⟨r1, r2, r3⟩ := hZ1.run 4 z2 (Q := fun r => rBk 0 (hoP P x y z) r.1 ∧ rTF h1 r.1 ∧ r.2 = some (0, hoV P x y z)) (fun N => rx_honey TLw_T vOK_T hR1 p3 x y z)
  have r3 : v2 = hoV P x y z := by cases (r3 : some ((0, v2) : zV) = some (0, hoV P x y z)); rfl
  have c2 := s1.c2
  obtain ⟨k1, k2⟩ := hoP_ok p3 x y z
  refine ⟨⟨lR_S h h2 (fun a k hi => (f2.keep (by decide +kernel) hi).trans (f1.keep (by decide +kernel) hi)) hL, fX_up hM s1 s2 s3 o k2 (fun a b hf => ?_) (q1.eq (fun a b h1 h2 => r2 a b (by omega))) r1 k1 (by rw [k2.1, k2.2.1]; exact p4)⟩, q3.trans r3.symm⟩
  unfold fOut at hf
  exact (r2 a b (by omega)).trans (q2 a b (by omega))
theorem fRk_clean {D : zD} (_ : ∀ i, -2147483648 ≤ D.2 i ∧ D.2 i ≤ 2147483647) {h h1 h2 : zH} {x y z v1 v2 : Int} (hZ : lZ D h) (hZ1 : lZ D h1) (hR : fR h) (z1 : zRun D TLw 614 149 0 (h, zargs 0 [(2, 0), (0, x), (0, y), (0, z)], []) (h1, some (0, v1))) (f1 : aFr lM_149 h h1) (z2 : zRun D TLw 614 208 0 (h1, zargs 0 [(2, 121), (0, x), (0, y), (0, z)], []) (h2, some (0, v2))) (f2 : aFr lM_208 h1 h2) : fR h2 ∧ v1 = v2 := by
  obtain ⟨hL, hM, r, c, s1, s2, s3, P, p1, p2, p3, p4, o⟩ := hR
  have a1 : cP c (clP P x y z) h1 ∧ cTF c h h1 ∧ v1 = clV P x y z := by
    rcases s1 with ⟨rfl, rfl⟩ | ⟨rfl, rfl⟩
    · obtain ⟨q1, q2, q3⟩ := hZ.run 4 z1 (Q := fun r => cP 39 (clP P x y z) r.1 ∧ cTF 39 h r.1 ∧ r.2 = some (0, clV P x y z)) (fun N => cx_clean_39 TLw_T vOK_T p1 p3 s2 x y z)
      exact ⟨q1, q2, by cases (q3 : some ((0, v1) : zV) = some (0, clV P x y z)); rfl⟩
    · obtain ⟨q1, q2, q3⟩ := hZ.run 4 z1 (Q := fun r => cP 24 (clP P x y z) r.1 ∧ cTF 24 h r.1 ∧ r.2 = some (0, clV P x y z)) (fun N => cx_clean_24 TLw_T vOK_T p1 p3 s2 x y z)
      exact ⟨q1, q2, by cases (q3 : some ((0, v1) : zV) = some (0, clV P x y z)); rfl⟩
  obtain ⟨q1, q2, q3⟩ := a1
  have hR1 : rBk 0 P h1 := p2.eq p3.1 (fun b _ hb => f1.keep (S := [(126, 0, 274)]) (by decide +kernel) ⟨(126, 0, 274), List.mem_cons_self, rfl, Nat.zero_le _, show b ≤ 274 by omega⟩)
  obtain ⟨r1, r2, r3⟩ := hZ1.run 4 z2 (Q := fun r => rBk 0 (clP P x y z) r.1 ∧ rTF h1 r.1 ∧ r.2 = some (0, clV P x y z)) (fun N => rx_clean TLw_T vOK_T hR1 p3 x y z)
  have r3 : v2 = clV P x y z := by cases (r3 : some ((0, v2) : zV) = some (0, clV P x y z)); rfl
  have c2 := s1.c2
  obtain ⟨k1, k2⟩ := clP_ok p3 x y z
  refine ⟨⟨lR_S h h2 (fun a k hi => (f2.keep (by decide +kernel) hi).trans (f1.keep (by decide +kernel) hi)) hL, fX_up hM s1 s2 s3 o k2 (fun a b hf => ?_) (q1.eq (fun a b h1 h2 => r2 a b (by omega))) r1 k1 (by rw [k2.1, k2.2.1]; exact p4)⟩, q3.trans r3.symm⟩
  unfold fOut at hf
  exact (r2 a b (by omega)).trans (q2 a b (by omega))
theorem fRk_steam {D : zD} (_ : ∀ i, -2147483648 ≤ D.2 i ∧ D.2 i ≤ 2147483647) {h h1 h2 : zH} {x y v1 v2 : Int} (hZ : lZ D h) (hZ1 : lZ D h1) (hR : fR h) (z1 : zRun D TLw 614 182 0 (h, zargs 0 [(2, 0), (0, x), (0, y)], []) (h1, some (0, v1))) (f1 : aFr lM_182 h h1) (z2 : zRun D TLw 614 316 0 (h1, zargs 0 [(2, 121), (0, x), (0, y)], []) (h2, some (0, v2))) (f2 : aFr lM_316 h1 h2) : fR h2 ∧ v1 = v2 := by
  obtain ⟨hL, hM, r, c, s1, s2, s3, P, p1, p2, p3, p4, o⟩ := hR
  have a1 : cP c (ssP P x y) h1 ∧ cTF c h h1 ∧ v1 = ssV P x y := by
    rcases s1 with ⟨rfl, rfl⟩ | ⟨rfl, rfl⟩
    · obtain ⟨q1, q2, q3⟩ := hZ.run 4 z1 (Q := fun r => cP 39 (ssP P x y) r.1 ∧ cTF 39 h r.1 ∧ r.2 = some (0, ssV P x y)) (fun N => cx_steam_39 TLw_T vOK_T p1 p3 s2 x y)
      exact ⟨q1, q2, by cases (q3 : some ((0, v1) : zV) = some (0, ssV P x y)); rfl⟩
    · obtain ⟨q1, q2, q3⟩ := hZ.run 4 z1 (Q := fun r => cP 24 (ssP P x y) r.1 ∧ cTF 24 h r.1 ∧ r.2 = some (0, ssV P x y)) (fun N => cx_steam_24 TLw_T vOK_T p1 p3 s2 x y)
      exact ⟨q1, q2, by cases (q3 : some ((0, v1) : zV) = some (0, ssV P x y)); rfl⟩
  obtain ⟨q1, q2, q3⟩ := a1
  have hR1 : rBk 0 P h1 := p2.eq p3.1 (fun b _ hb => f1.keep (S := [(126, 0, 274)]) (by decide +kernel) ⟨(126, 0, 274), List.mem_cons_self, rfl, Nat.zero_le _, show b ≤ 274 by omega⟩)
  obtain ⟨r1, r2, r3⟩ := hZ1.run 3 z2 (Q := fun r => rBk 0 (ssP P x y) r.1 ∧ rTF h1 r.1 ∧ r.2 = some (0, ssV P x y)) (fun N => rx_steam TLw_T vOK_T hR1 p3 x y)
  have r3 : v2 = ssV P x y := by cases (r3 : some ((0, v2) : zV) = some (0, ssV P x y)); rfl
  have c2 := s1.c2
  obtain ⟨k1, k2⟩ := ssP_ok p3 x y
  refine ⟨⟨lR_S h h2 (fun a k hi => (f2.keep (by decide +kernel) hi).trans (f1.keep (by decide +kernel) hi)) hL, fX_up hM s1 s2 s3 o k2 (fun a b hf => ?_) (q1.eq (fun a b h1 h2 => r2 a b (by omega))) r1 k1 (by rw [k2.1, k2.2.1]; exact p4)⟩, q3.trans r3.symm⟩
  unfold fOut at hf
  exact (r2 a b (by omega)).trans (q2 a b (by omega))
theorem fRk_march {D : zD} (_ : ∀ i, -2147483648 ≤ D.2 i ∧ D.2 i ≤ 2147483647) {h h1 h2 : zH} {x v1 v2 : Int} (hZ : lZ D h) (hZ1 : lZ D h1) (hR : fR h) (z1 : zRun D TLw 614 164 0 (h, zargs 0 [(2, 0), (0, x)], []) (h1, some (0, v1))) (f1 : aFr lM_164 h h1) (z2 : zRun D TLw 614 274 0 (h1, zargs 0 [(2, 121), (0, x)], []) (h2, some (0, v2))) (f2 : aFr lM_274 h1 h2) : fR h2 ∧ v1 = v2 := by
  obtain ⟨hL, hM, r, c, s1, s2, s3, P, p1, p2, p3, p4, o⟩ := hR
  have a1 : cP c (maP P x) h1 ∧ cTF c h h1 ∧ v1 = maV P x := by
    rcases s1 with ⟨rfl, rfl⟩ | ⟨rfl, rfl⟩
    · obtain ⟨q1, q2, q3⟩ := hZ.run 3 z1 (Q := fun r => cP 39 (maP P x) r.1 ∧ cTF 39 h r.1 ∧ r.2 = some (0, maV P x)) (fun N => cx_march_39 TLw_T vOK_T p1 p3 s2 x)
      exact ⟨q1, q2, by cases (q3 : some ((0, v1) : zV) = some (0, maV P x)); rfl⟩
    · obtain ⟨q1, q2, q3⟩ := hZ.run 3 z1 (Q := fun r => cP 24 (maP P x) r.1 ∧ cTF 24 h r.1 ∧ r.2 = some (0, maV P x)) (fun N => cx_march_24 TLw_T vOK_T p1 p3 s2 x)
      exact ⟨q1, q2, by cases (q3 : some ((0, v1) : zV) = some (0, maV P x)); rfl⟩
  obtain ⟨q1, q2, q3⟩ := a1
  have hR1 : rBk 0 P h1 := p2.eq p3.1 (fun b _ hb => f1.keep (S := [(126, 0, 274)]) (by decide +kernel) ⟨(126, 0, 274), List.mem_cons_self, rfl, Nat.zero_le _, show b ≤ 274 by omega⟩)
  obtain ⟨r1, r2, r3⟩ := hZ1.run 3 z2 (Q := fun r => rBk 0 (maP P x) r.1 ∧ rTF h1 r.1 ∧ r.2 = some (0, maV P x)) (fun N => rx_march TLw_T vOK_T hR1 p3 x)
  have r3 : v2 = maV P x := by cases (r3 : some ((0, v2) : zV) = some (0, maV P x)); rfl
  have c2 := s1.c2
  obtain ⟨k1, k2⟩ := maP_ok p3 x
  refine ⟨⟨lR_S h h2 (fun a k hi => (f2.keep (by decide +kernel) hi).trans (f1.keep (by decide +kernel) hi)) hL, fX_up hM s1 s2 s3 o k2 (fun a b hf => ?_) (q1.eq (fun a b h1 h2 => r2 a b (by omega))) r1 k1 (by rw [k2.1, k2.2.1]; exact p4)⟩, q3.trans r3.symm⟩
  unfold fOut at hf
  exact (r2 a b (by omega)).trans (q2 a b (by omega))
theorem fRk_hand {D : zD} (_ : ∀ i, -2147483648 ≤ D.2 i ∧ D.2 i ≤ 2147483647) {h h1 h2 : zH} {x y v1 v2 : Int} (hZ : lZ D h) (hZ1 : lZ D h1) (hR : fR h) (z1 : zRun D TLw 614 158 0 (h, zargs 0 [(2, 0), (0, x), (0, y)], []) (h1, some (0, v1))) (f1 : aFr lM_158 h h1) (z2 : zRun D TLw 614 236 0 (h1, zargs 0 [(2, 121), (0, x), (0, y)], []) (h2, some (0, v2))) (f2 : aFr lM_236 h1 h2) : fR h2 ∧ v1 = v2 := by
  obtain ⟨hL, hM, r, c, s1, s2, s3, P, p1, p2, p3, p4, o⟩ := hR
  have a1 : cP c (haP P x y) h1 ∧ cTF c h h1 ∧ v1 = haV P x y := by
    rcases s1 with ⟨rfl, rfl⟩ | ⟨rfl, rfl⟩
    · obtain ⟨q1, q2, q3⟩ := hZ.run 3 z1 (Q := fun r => cP 39 (haP P x y) r.1 ∧ cTF 39 h r.1 ∧ r.2 = some (0, haV P x y)) (fun N => cx_hand_39 TLw_T vOK_T p1 p3 s2 x y)
      exact ⟨q1, q2, by cases (q3 : some ((0, v1) : zV) = some (0, haV P x y)); rfl⟩
    · obtain ⟨q1, q2, q3⟩ := hZ.run 3 z1 (Q := fun r => cP 24 (haP P x y) r.1 ∧ cTF 24 h r.1 ∧ r.2 = some (0, haV P x y)) (fun N => cx_hand_24 TLw_T vOK_T p1 p3 s2 x y)
      exact ⟨q1, q2, by cases (q3 : some ((0, v1) : zV) = some (0, haV P x y)); rfl⟩
  obtain ⟨q1, q2, q3⟩ := a1
  have hR1 : rBk 0 P h1 := p2.eq p3.1 (fun b _ hb => f1.keep (S := [(126, 0, 274)]) (by decide +kernel) ⟨(126, 0, 274), List.mem_cons_self, rfl, Nat.zero_le _, show b ≤ 274 by omega⟩)
  obtain ⟨r1, r2, r3⟩ := hZ1.run 3 z2 (Q := fun r => rBk 0 (haP P x y) r.1 ∧ rTF h1 r.1 ∧ r.2 = some (0, haV P x y)) (fun N => rx_hand TLw_T vOK_T hR1 p3 x y)
  have r3 : v2 = haV P x y := by cases (r3 : some ((0, v2) : zV) = some (0, haV P x y)); rfl
  have c2 := s1.c2
  obtain ⟨k1, k2⟩ := haP_ok p3 x y
  refine ⟨⟨lR_S h h2 (fun a k hi => (f2.keep (by decide +kernel) hi).trans (f1.keep (by decide +kernel) hi)) hL, fX_up hM s1 s2 s3 o k2 (fun a b hf => ?_) (q1.eq (fun a b h1 h2 => r2 a b (by omega))) r1 k1 (by rw [k2.1, k2.2.1]; exact p4)⟩, q3.trans r3.symm⟩
  unfold fOut at hf
  exact (r2 a b (by omega)).trans (q2 a b (by omega))
end
section
theorem fRk_run {D : zD} (_ : ∀ i, -2147483648 ≤ D.2 i ∧ D.2 i ≤ 2147483647) {h h1 h2 : zH} {x v1 v2 : Int} (hZ : lZ D h) (hZ1 : lZ D h1) (hR : fR h) (z1 : zRun D TLw 614 178 0 (h, zargs 0 [(2, 0), (0, x)], []) (h1, some (0, v1))) (f1 : aFr lM_178 h h1) (z2 : zRun D TLw 614 307 0 (h1, zargs 0 [(2, 121), (0, x)], []) (h2, some (0, v2))) (f2 : aFr lM_307 h1 h2) : fR h2 ∧ v1 = v2 := by
  obtain ⟨hL, hM, r, c, s1, s2, s3, P, p1, p2, p3, p4, o⟩ := hR
  have p4' : 1 ≤ P 0 0 ∧ 1 ≤ P 0 1 := ⟨by omega, p4.2⟩
  have hL2 : lR h2 := lR_S h h2 (fun a k hi => (f2.keep (by decide +kernel) hi).trans (f1.keep (by decide +kernel) hi)) hL
  have k126 : ∀ j, j < 547 → h1 126 j = h 126 j := fun j hj => f1.keep (S := [(126, 0, 546)]) (by decide +kernel) ⟨(126, 0, 546), List.mem_cons_self, rfl, Nat.zero_le _, show j ≤ 546 by omega⟩
  have hR1 : rBk 0 P h1 := p2.eq p3.1 (fun b _ hb => k126 b (by omega))
  have c2 := s1.c2
  have none : ∀ s0 w : Int, h (c + 10) 0 = (0, s0) → h 126 275 = (0, w) → (¬ (0 ≤ x ∧ x ≤ 9999) ∨ (s0 = -1 ∧ w = 0)) → fR h2 ∧ v1 = v2 := fun s0 w es ew hn => by
    have a1 : (∃ w : Int, h1 = zset h 0 0 (0, w)) ∧ v1 = -1 := by
      rcases s1 with ⟨rfl, rfl⟩ | ⟨rfl, rfl⟩
      · obtain ⟨q1, q2⟩ := hZ.run 3 z1 (Q := fun r => (∃ w : Int, r.1 = zset h 0 0 (0, w)) ∧ r.2 = some (0, -1)) (fun N => cx_runN_39 TLw_T vOK_T x s0 s2 es (hn.imp id And.left))
        exact ⟨q1, by cases (q2 : some ((0, v1) : zV) = some (0, -1)); rfl⟩
      · obtain ⟨q1, q2⟩ := hZ.run 3 z1 (Q := fun r => (∃ w : Int, r.1 = zset h 0 0 (0, w)) ∧ r.2 = some (0, -1)) (fun N => cx_runN_24 TLw_T vOK_T x s0 s2 es (hn.imp id And.left))
        exact ⟨q1, by cases (q2 : some ((0, v1) : zV) = some (0, -1)); rfl⟩
    obtain ⟨⟨w1, e1⟩, e2⟩ := a1
    obtain ⟨q1, q2⟩ := hZ1.run 2 z2 (Q := fun r => (∀ a b, ¬ (a = 121 ∧ b ≤ 1) → r.1 a b = h1 a b) ∧ r.2 = some (0, -1)) (fun N => rx_runN TLw_T vOK_T x w ((k126 275 (by decide)).trans ew) (hn.imp id And.right))
    have e3 : v2 = -1 := by cases (q2 : some ((0, v2) : zV) = some (0, -1)); rfl
    have F : ∀ a b, ¬ (a = 121 ∧ b ≤ 1) → ¬ (a = 0 ∧ b = 0) → h2 a b = h a b := fun a b n1 n2 => (q1 a b n1).trans (by rw [e1]; exact zset_ne n2)
    refine ⟨⟨hL2, fX_up hM s1 s2 s3 o pSh.rfl (fun a b hf => F a b (by unfold fOut at hf; omega) (by unfold fOut at hf; omega)) (p1.eq (fun a b h1 h2 => F a b (by omega) (by omega))) (p2.eq p3.1 (fun b _ _ => F 126 b (by omega) (by omega))) p3 p4⟩, by omega⟩
  rcases o with ⟨o1, o2⟩ | ⟨t, g1, g2, g3, g4, g5, g6, g7, g8, g9⟩
  · exact none (-1) 0 o1 o2 (Or.inr ⟨rfl, rfl⟩)
  · by_cases hx : 0 ≤ x ∧ x ≤ 9999
    · obtain ⟨seed, rfl⟩ : ∃ seed : Nat, x = (seed : Int) := ⟨x.toNat, by omega⟩
      have a1 : cP c (ev t (runS P seed)).P h1 ∧ cUF c h h1 ∧ v1 = ((ev t (runS P seed)).dn : Int) := by
        rcases s1 with ⟨rfl, rfl⟩ | ⟨rfl, rfl⟩
        · obtain ⟨q1, q2, q3, _⟩ := hZ.run 3 z1 (Q := fun r => cP 39 (ev t (runS P seed)).P r.1 ∧ cUF 39 h r.1 ∧ r.2 = some (0, ((ev t (runS P seed)).dn : Int)) ∧ r.1 120 0 = (0, ((ev t (runS P seed)).ms : Int)) ∧ r.1 120 1 = (0, ((ev t (runS P seed)).bt : Int)) ∧ r.1 120 2 = (0, ((ev t (runS P seed)).sk : Int)) ∧ r.1 120 3 = (0, if (ev t (runS P seed)).ov = 2 then 1 else 0)) (fun N => cx_runY_39 TLw_T vOK_T seed (by omega) s2 p1 p3 p4' g1 g6 g3 g4)
          exact ⟨q1, q2, by cases (q3 : some ((0, v1) : zV) = some (0, ((ev t (runS P seed)).dn : Int))); rfl⟩
        · obtain ⟨q1, q2, q3, _⟩ := hZ.run 3 z1 (Q := fun r => cP 24 (ev t (runS P seed)).P r.1 ∧ cUF 24 h r.1 ∧ r.2 = some (0, ((ev t (runS P seed)).dn : Int)) ∧ r.1 120 0 = (0, ((ev t (runS P seed)).ms : Int)) ∧ r.1 120 1 = (0, ((ev t (runS P seed)).bt : Int)) ∧ r.1 120 2 = (0, ((ev t (runS P seed)).sk : Int)) ∧ r.1 120 3 = (0, if (ev t (runS P seed)).ov = 2 then 1 else 0)) (fun N => cx_runY_24 TLw_T vOK_T seed (by omega) s2 p1 p3 p4' g1 g6 g3 g4)
          exact ⟨q1, q2, by cases (q3 : some ((0, v1) : zV) = some (0, ((ev t (runS P seed)).dn : Int))); rfl⟩
      obtain ⟨q1, q2, q3⟩ := a1
      have l9 : rLay 0 (P 0 0).toNat h1 t 0 := g9.tr (fun j _ hj => k126 _ (by omega)) (by omega)
      obtain ⟨r1, r2, r3, _⟩ := hZ1.run 2 z2 (Q := fun r => rBk 0 (ev t (runS P seed)).P r.1 ∧ rUF h1 r.1 ∧ r.2 = some (0, ((ev t (runS P seed)).dn : Int)) ∧ r.1 136 0 = (0, ((ev t (runS P seed)).ms : Int)) ∧ r.1 136 1 = (0, ((ev t (runS P seed)).bt : Int)) ∧ r.1 136 2 = (0, ((ev t (runS P seed)).sk : Int)) ∧ r.1 136 3 = (0, if (ev t (runS P seed)).ov = 2 then 1 else 0) ∧ r.1 121 40 = (0, 1)) (fun N => rx_runY TLw_T vOK_T seed (by omega) hR1 p3 p4' g1 l9 g2 ((k126 275 (by decide)).trans g7) ((k126 276 (by decide)).trans g8))
      have r3 : v2 = ((ev t (runS P seed)).dn : Int) := by cases (r3 : some ((0, v2) : zV) = some (0, ((ev t (runS P seed)).dn : Int))); rfl
      obtain ⟨v1', v2', _⟩ := ev_ok t (runS P seed) g1 (runS_B p3 p4' (by omega)) pSh.rfl
      refine ⟨⟨hL2, fX_up hM s1 s2 s3 (Or.inr ⟨t, g1, g2, g3, g4, g5, g6, g7, g8, g9⟩) v2' (fun a b hf => ?_) (q1.eq (fun a b h1 h2 => r2 a b (by omega))) r1 v1'.1 (by rw [v2'.1, v2'.2.1]; exact p4)⟩, q3.trans r3.symm⟩
      unfold fOut at hf
      exact (r2 a b (by omega)).trans (q2 a b (by omega))
    · exact none _ _ g4 g7 (Or.inl hx)
/-! mark and back, all contents -/
theorem cOb.cf {c : Nat} (hc : cOb c) : (∀ k, k < 5 → vCode c k = some 0) ∧ vCode (c + 10) 0 = some 0 ∧ vCode (c + 10) 1 = some 0 := by
  rcases hc with rfl | rfl | rfl | rfl | rfl <;> decide +kernel
theorem cpLand_F {h : zH} (hv : zHv h) {s d : Nat} (hs : cOb s) (hd : s + 15 ≤ d ∨ d + 15 ≤ s) : cKf s d h (cpLand h s d) := by
  obtain ⟨e1, e2, e3⟩ := hs.cf
  rintro j k (⟨rfl, hk⟩ | ⟨rfl | rfl, hk⟩ | ⟨rfl, hk⟩ | ⟨⟨h1, h2⟩, hk⟩ | ⟨rfl, hk⟩ | ⟨⟨h1, h2⟩, hk⟩)
  · have : k = 0 ∨ k = 1 ∨ k = 2 ∨ k = 3 ∨ k = 4 := by omega
    rcases this with rfl | rfl | rfl | rfl | rfl
    · exact (cpLand_0 hd).trans (hv.eta' (e1 0 (by decide)))
    · exact (cpLand_1 hd).trans (hv.eta' (e1 1 (by decide)))
    · exact (cpLand_2 hd).trans (hv.eta' (e1 2 (by decide)))
    · exact (cpLand_3 hd).trans (hv.eta' (e1 3 (by decide)))
    · exact (cpLand_4 hd).trans (hv.eta' (e1 4 (by decide)))
  · exact cpLand_c1 hd k hk
  · exact cpLand_c2 hd k hk
  · exact cpLand_c3 hd k hk
  · have : j = 4 ∨ j = 5 ∨ j = 6 ∨ j = 7 ∨ j = 8 ∨ j = 9 := by omega
    rcases this with rfl | rfl | rfl | rfl | rfl | rfl
    · exact cpLand_c4 hd k hk
    · exact cpLand_c5 hd k hk
    · exact cpLand_c6 hd k hk
    · exact cpLand_c7 hd k hk
    · exact cpLand_c8 hd k hk
    · exact cpLand_c9 hd k hk
  · have : k = 0 ∨ k = 1 := by omega
    rcases this with rfl | rfl
    · exact (cpLand_y0 hd).trans (hv.eta' e2)
    · exact (cpLand_y1 hd).trans (hv.eta' e3)
  · have : j = 11 ∨ j = 12 ∨ j = 13 ∨ j = 14 := by omega
    rcases this with rfl | rfl | rfl | rfl
    · exact cpLand_c11 hd k hk
    · exact cpLand_c12 hd k hk
    · exact cpLand_c13 hd k hk
    · exact cpLand_c14 hd k hk
theorem CpF.F {f t : Nat} {h g0 g : zH} (hf : f < 4) (ht : t < 4) (hv : zHv h) (hg : zHv g) (e1 : ∀ k, g 126 k = g0 126 k) (c : CpF f t h g0) : bKf (550 * f) (550 * t) h g := fun j hj => by
  rw [hv126 hg (by omega), e1, c.1 j (by omega)]
  exact (hv126 hv (by omega)).symm
theorem fRk_mark {D : zD} (hD : ∀ i, -2147483648 ≤ D.2 i ∧ D.2 i ≤ 2147483647) {h h1 h2 : zH} {v1 v2 : Int} (hZ : lZ D h) (hZ1 : lI aG1 D Fl0 lQk h1) (hR : fR h) (z1 : zRun D TLw 614 165 0 (h, zargs 0 [(2, 0)], []) (h1, some (0, v1))) (f1 : aFr lM_165 h h1) (z2 : zRun D TLw 614 276 0 (h1, zargs 0 [(2, 121)], []) (h2, some (0, v2))) (f2 : aFr lM_276 h1 h2) : fR h2 ∧ True := by
  have hR' := hR
  obtain ⟨hL0, hM, r, c, s1, s2, s3, hL⟩ := hR'
  refine ⟨⟨(lRk_mark hD hZ hZ1 hL0 z1 f1 z2 f2).1, ?_⟩, trivial⟩
  obtain ⟨t10, b0, b3⟩ := hZ.b010
  have c2 := s1.c2
  have k23 : h1 121 23 = h 121 23 := f1.keep (S := [(121, 23, 23)]) (by decide +kernel) ⟨(121, 23, 23), by decide, rfl, by decide, by decide⟩
  obtain ⟨m, hm⟩ : ∃ m : Nat, (h 0 10).2 = (m : Int) := ⟨(h 0 10).2.toNat, by omega⟩
  have r23 : h1 121 23 = (0, (m : Int)) := by rw [hZ1.hv.e23, k23, ← hL0.2.2.1.1, hm]
  rw [hm] at t10
  by_cases h3 : m = 3
  · subst h3
    have a1 := hZ.run 1 z1 (Q := fun x => x = (zset h 0 0 (0, 7), some (0, -1))) (fun N => vP_hv (fun hv => qc_mark3 TLw_T vOK_T hv t10 rfl))
    have a2 := hZ1.run 1 z2 (Q := fun x => x = (zset (zset (zset h1 121 1 (0, 0)) 121 0 (0, 0)) 121 0 (0, 7), some (0, -1))) (fun N => vP_hv (fun hv => qr_mark3 TLw_T vOK_T hv r23 rfl))
    have a1' : h1 = zset h 0 0 (0, 7) := congrArg Prod.fst a1
    have a2' : h2 = zset (zset (zset h1 121 1 (0, 0)) 121 0 (0, 0)) 121 0 (0, 7) := congrArg Prod.fst a2
    refine (hR.off (M := [(0, 0, 0), (121, 0, 1)]) (by decide +kernel) (fun a b hn => ?_)).2
    have n1 : ¬ (a = 121 ∧ b ≤ 1) := fun e => hn ⟨(121, 0, 1), by decide, e.1.symm, Nat.zero_le _, e.2⟩
    rw [a2', zset_ne (fun c => n1 (by omega)), zset_ne (fun c => n1 (by omega)), zset_ne (fun c => n1 (by omega)), a1']
    exact zset_ne (fun e => hn ⟨(0, 0, 0), by decide, e.1.symm, Nat.zero_le _, Nat.le_of_eq e.2⟩)
  · have hm3 : m < 3 := by omega
    have a1 : h1 = zset (zset (cpLand h c (55 + 15 * m)) 0 10 (0, (m : Int) + 1)) 0 0 (0, 0) := congrArg Prod.fst (hZ.run 1 z1 (Q := fun x => x = (zset (zset (cpLand h c (55 + 15 * m)) 0 10 (0, (m : Int) + 1)) 0 0 (0, 0), some (0, (m : Int) + 1))) (fun N => cx_mark TLw_T vOK_T c2 hm3 s2 t10))
    obtain ⟨hv2, a2⟩ := hZ1.run 1 z2 (Q := fun x => zHv x.1 ∧ CpF 0 (m + 1) (zset (zset (zset h1 121 1 (0, 0)) 121 0 (0, 0)) 121 23 (0, (m : Int) + 1)) x.1) (fun N => rx_mark TLw_T vOK_T hm3 r23)
    have hv2 : zHv h2 := hv2
    have a2 : CpF 0 (m + 1) (zset (zset (zset h1 121 1 (0, 0)) 121 0 (0, 0)) 121 23 (0, (m : Int) + 1)) h2 := a2
    have hd : c + 15 ≤ 55 + 15 * m ∨ (55 + 15 * m) + 15 ≤ c := by omega
    have q1 : ∀ a k, ¬ (a = 0 ∧ (k = 0 ∨ k = 10)) → h1 a k = cpLand h c (55 + 15 * m) a k := fun a k hn => by
      rw [a1, zset_ne (fun c => hn (by omega)), zset_ne (fun c => hn (by omega))]
    have q2 : ∀ a k, ¬ (a = 121 ∧ (k ≤ 1 ∨ k = 23)) → ¬ (a = 126 ∧ 550 * (m + 1) ≤ k ∧ k < 550 * (m + 1) + 550) → ¬ (a = 128 ∧ 6 * (m + 1) ≤ k ∧ k < 6 * (m + 1) + 6) → h2 a k = h1 a k := fun a k n1 n2 n3 => by
      rw [a2.2.2 a k (fun c => by rcases c with c | c; exact n2 c; exact n3 c), zset_ne (fun c => n1 (by omega)), zset_ne (fun c => n1 (by omega)), zset_ne (fun c => n1 (by omega))]
    have q3 : ∀ a k, ¬ (a = 0 ∧ (k = 0 ∨ k = 10)) → ¬ (55 + 15 * m ≤ a ∧ a ≤ 55 + 15 * m + 14) → ¬ (a = 121 ∧ (k ≤ 1 ∨ k = 23)) → ¬ (a = 126 ∧ 550 * (m + 1) ≤ k ∧ k < 550 * (m + 1) + 550) → ¬ (a = 128 ∧ 6 * (m + 1) ≤ k ∧ k < 6 * (m + 1) + 6) → h2 a k = h a k := fun a k n1 n2 n3 n4 n5 => ((q2 a k n3 n4 n5).trans (q1 a k n1)).trans (cpLand_ne hd a k n2)
    have j14 : ∀ {j k : Nat}, cJ j k → j ≤ 14 := fun hj => by
      unfold cJ at hj
      omega
    have kk : ∀ x, x + 14 < 55 + 15 * m ∨ 55 + 15 * m + 14 < x → 1 ≤ x → x + 14 < 121 → cKf x x h h2 := fun x hx x1 x2 j k hj => by
      have := j14 hj
      exact q3 _ _ (by omega) (by omega) (by omega) (by omega) (by omega)
    have bb : ∀ b, b < 4 → b ≠ m + 1 → bKf (550 * b) (550 * b) h h2 := fun b hb hne j hj => q3 _ _ (by omega) (by omega) (by omega) (by omega) (by omega)
    have e1 : h2 0 10 = (0, (m : Int) + 1) := by
      rw [q2 0 10 (by omega) (by omega) (by omega), a1, zset_ne (by omega), zset_same]
    refine ⟨fun m' hm' hq => ?_, r, c, s1, (q3 _ _ (by omega) (by omega) (by omega) (by omega) (by omega)).trans s2, (q3 _ _ (by omega) (by omega) (by omega) (by omega) (by omega)).trans s3, hL.tr (kk c (by omega) (by omega) (by omega)) (bb 0 (by decide) (by omega))⟩
    rw [e1] at hq
    have hq : (m' : Int) < (m : Int) + 1 := hq
    by_cases em : m' = m
    · subst em
      refine hL.tr (c' := 55 + 15 * m') (o' := 550 * (m' + 1)) ?_ ?_
      · refine (cpLand_F hZ.hv s1.ob hd).trans (fun j k hj => ?_)
        have := j14 hj
        exact (q2 _ _ (by omega) (by omega) (by omega)).trans (q1 _ _ (by omega))
      · have hb1 : bKf 0 0 h (zset (zset (zset h1 121 1 (0, 0)) 121 0 (0, 0)) 121 23 (0, (m' : Int) + 1)) := fun j hj => by
          rw [zset_ne (by omega), zset_ne (by omega), zset_ne (by omega), q1 _ _ (by omega)]
          exact cpLand_ne hd _ _ (by omega)
        exact hb1.trans (CpF.F (by decide) (by omega) (zHv.m23 hZ1.hv) hv2 (fun _ => rfl) a2)
    · exact (hM m' hm' (by omega)).tr (kk _ (by omega) (by omega) (by omega)) (bb _ (by omega) (by omega))
theorem fRk_back {D : zD} (hD : ∀ i, -2147483648 ≤ D.2 i ∧ D.2 i ≤ 2147483647) {h h1 h2 : zH} {v1 v2 : Int} (hZ : lZ D h) (hZ1 : lI aG1 D Fl0 lQb h1) (hR : fR h) (z1 : zRun D TLw 614 144 0 (h, zargs 0 [(2, 0)], []) (h1, some (0, v1))) (f1 : aFr lM_144 h h1) (z2 : zRun D TLw 614 199 0 (h1, zargs 0 [(2, 121)], []) (h2, some (0, v2))) (f2 : aFr lM_199 h1 h2) : fR h2 ∧ True := by
  have hR' := hR
  obtain ⟨hL0, hM, r, c, s1, s2, s3, hL⟩ := hR'
  refine ⟨⟨(lRk_back hD hZ hZ1 hL0 z1 f1 z2 f2).1, ?_⟩, trivial⟩
  obtain ⟨t10, b0, b3⟩ := hZ.b010
  have c2 := s1.c2
  have k23 : h1 121 23 = h 121 23 := f1.keep (S := [(121, 23, 23)]) (by decide +kernel) ⟨(121, 23, 23), by decide, rfl, by decide, by decide⟩
  by_cases h0 : (h 0 10).2 = 0
  · rw [h0] at t10
    have r23 : h1 121 23 = (0, 0) := by rw [hZ1.hv.e23, k23, ← hL0.2.2.1.1, h0]
    have a1 := hZ.run 1 z1 (Q := fun x => x = (zset h 0 0 (0, 8), some (0, -1))) (fun N => vP_hv (fun hv => qc_back0 TLw_T vOK_T hv t10 rfl))
    have a2 := hZ1.run 1 z2 (Q := fun x => x = (zset (zset (zset h1 121 1 (0, 0)) 121 0 (0, 0)) 121 0 (0, 8), some (0, -1))) (fun N => vP_hv (fun hv => qr_back0 TLw_T vOK_T hv r23 rfl))
    have a1' : h1 = zset h 0 0 (0, 8) := congrArg Prod.fst a1
    have a2' : h2 = zset (zset (zset h1 121 1 (0, 0)) 121 0 (0, 0)) 121 0 (0, 8) := congrArg Prod.fst a2
    refine (hR.off (M := [(0, 0, 0), (121, 0, 1)]) (by decide +kernel) (fun a b hn => ?_)).2
    have n1 : ¬ (a = 121 ∧ b ≤ 1) := fun e => hn ⟨(121, 0, 1), by decide, e.1.symm, Nat.zero_le _, e.2⟩
    rw [a2', zset_ne (fun c => n1 (by omega)), zset_ne (fun c => n1 (by omega)), zset_ne (fun c => n1 (by omega)), a1']
    exact zset_ne (fun e => hn ⟨(0, 0, 0), by decide, e.1.symm, Nat.zero_le _, Nat.le_of_eq e.2⟩)
  · obtain ⟨m, hm⟩ : ∃ m : Nat, (h 0 10).2 = (m : Int) + 1 := ⟨((h 0 10).2 - 1).toNat, by omega⟩
    have r23 : h1 121 23 = (0, (m : Int) + 1) := by rw [hZ1.hv.e23, k23, ← hL0.2.2.1.1, hm]
    rw [hm] at t10
    have hm3 : m < 3 := by omega
    have a1 : h1 = zset (cpLand (zset h 0 10 (0, (m : Int))) (55 + 15 * m) c) 0 0 (0, 0) := congrArg Prod.fst (hZ.run 1 z1 (Q := fun x => x = (zset (cpLand (zset h 0 10 (0, (m : Int))) (55 + 15 * m) c) 0 0 (0, 0), some (0, (m : Int)))) (fun N => cx_back TLw_T vOK_T c2 hm3 s2 t10))
    obtain ⟨hv2, g, a2, a3⟩ := hZ1.run 1 z2 (Q := fun x => zHv x.1 ∧ ∃ g, CpF (m + 1) 0 (zset (zset h1 121 1 (0, 0)) 121 0 (0, 0)) g ∧ x.1 = zset g 121 23 (0, (m : Int))) (fun N => rx_back TLw_T vOK_T hm3 r23)
    have hv2 : zHv h2 := hv2
    have a3 : h2 = zset g 121 23 (0, (m : Int)) := a3
    have hd : 55 + 15 * m + 15 ≤ c ∨ c + 15 ≤ 55 + 15 * m := by omega
    have q0 : ∀ a k, ¬ (a = 0 ∧ (k = 0 ∨ k = 10)) → zset h 0 10 (0, (m : Int)) a k = h a k := fun a k hn => zset_ne (fun c => hn (by omega))
    have q1 : ∀ a k, ¬ (a = 0 ∧ (k = 0 ∨ k = 10)) → h1 a k = cpLand (zset h 0 10 (0, (m : Int))) (55 + 15 * m) c a k := fun a k hn => by
      rw [a1, zset_ne (fun c => hn (by omega))]
    have qg : ∀ a k, ¬ (a = 121 ∧ k = 23) → h2 a k = g a k := fun a k hn => by rw [a3, zset_ne hn]
    have q2 : ∀ a k, ¬ (a = 121 ∧ (k ≤ 1 ∨ k = 23)) → ¬ (a = 126 ∧ k < 550) → ¬ (a = 128 ∧ k < 6) → h2 a k = h1 a k := fun a k n1 n2 n3 => by
      rw [qg a k (fun c => n1 (by omega)), a2.2.2 a k (fun c => by omega), zset_ne (fun c => n1 (by omega)), zset_ne (fun c => n1 (by omega))]
    have q3 : ∀ a k, ¬ (a = 0 ∧ (k = 0 ∨ k = 10)) → ¬ (c ≤ a ∧ a ≤ c + 14) → ¬ (a = 121 ∧ (k ≤ 1 ∨ k = 23)) → ¬ (a = 126 ∧ k < 550) → ¬ (a = 128 ∧ k < 6) → h2 a k = h a k := fun a k n1 n2 n3 n4 n5 => (((q2 a k n3 n4 n5).trans (q1 a k n1)).trans (cpLand_ne hd a k n2)).trans (q0 a k n1)
    have j14 : ∀ {j k : Nat}, cJ j k → j ≤ 14 := fun hj => by
      unfold cJ at hj
      omega
    have e1 : h2 0 10 = (0, (m : Int)) := by
      rw [q2 0 10 (by omega) (by omega) (by omega), a1, zset_ne (by omega), cpLand_ne hd 0 10 (by omega), zset_same]
    have hL' := hM m hm3 (by omega)
    refine ⟨fun m' hm' hq => ?_, r, c, s1, (q3 _ _ (by omega) (by omega) (by omega) (by omega) (by omega)).trans s2, (q3 _ _ (by omega) (by omega) (by omega) (by omega) (by omega)).trans s3, ?_⟩
    · rw [e1] at hq
      have hq : (m' : Int) < (m : Int) := hq
      refine (hM m' hm' (by omega)).tr (fun j k hj => ?_) (fun j hj => q3 _ _ (by omega) (by omega) (by omega) (by omega) (by omega))
      have := j14 hj
      exact q3 _ _ (by omega) (by omega) (by omega) (by omega) (by omega)
    · refine hL'.tr (c' := c) (o' := 0) ?_ ?_
      · have k0 : cKf (55 + 15 * m) (55 + 15 * m) h (zset h 0 10 (0, (m : Int))) := fun j k hj => q0 _ _ (by omega)
        refine (k0.trans (cpLand_F (h := zset h 0 10 (0, (m : Int))) (zHv.m10 hZ.hv) (mOb hm3) hd)).trans (fun j k hj => ?_)
        have := j14 hj
        exact (q2 _ _ (by omega) (by omega) (by omega)).trans (q1 _ _ (by omega))
      · have hb1 : bKf (550 * (m + 1)) (550 * (m + 1)) h (zset (zset h1 121 1 (0, 0)) 121 0 (0, 0)) := fun j hj => by
          rw [zset_ne (by omega), zset_ne (by omega), q1 _ _ (by omega), cpLand_ne hd _ _ (by omega)]
          exact q0 _ _ (by omega)
        exact hb1.trans (CpF.F (t := 0) (by omega) (by decide) (zHv.m01 hZ1.hv) hv2 (fun _ => qg _ _ (by omega)) a2)
end
section
/-! WHAT HOLDS OF EVERY LAND THAT A TEXT SAYS -/
def pV0 (P : PT) : Prop := (2 ≤ P 0 0 ∧ P 0 0 ≤ 8) ∧ (0 ≤ P 0 1 ∧ P 0 1 ≤ 6) ∧ P 0 2 = 1 ∧ P 0 3 = 0 ∧ P 0 4 = 0 ∧ P 0 9 = 0 ∧ ∀ i, P 3 i = 0
def pVk (P : PT) (k : Nat) : Prop := (0 ≤ P 5 k ∧ gIn P (P 5 k).toNat) ∧ (0 ≤ P 6 k ∧ gIn P (P 6 k).toNat) ∧ (0 ≤ P 7 k ∧ gIn P (P 7 k).toNat) ∧ (0 ≤ P 8 k ∧ P 8 k < P 0 2) ∧ P 9 k = 0
def pV (P : PT) : Prop := (2 ≤ P 0 0 ∧ P 0 0 ≤ 8) ∧ (1 ≤ P 0 1 ∧ P 0 1 ≤ 6) ∧ 1 ≤ P 0 2 ∧ (P 0 9 = 0 → P 0 2 = 1) ∧ 0 ≤ P 0 3 ∧ P 0 4 = 0 ∧ (∀ i, P 3 i = 0) ∧ ∀ k : Nat, (k : Int) < P 0 3 → pVk P k
theorem pRow_V {τ P P' : PT} {i j : Nat} (h : pV0 P) (e : pRow τ P i = .inr (P', j)) : pV0 P' := by
  obtain ⟨a1, a2, a3, a4, a5, a6, a7⟩ := h
  unfold pRow at e
  by_cases c : 6 ≤ P 0 1
  · rw [if_pos c] at e; cases e
  · rw [if_neg c] at e
    unfold pRowL at e
    by_cases d : bL τ (P 0 0) (i + 1) ≠ 0 ∧ pAll τ (i + 1) (P 0 0).toNat = true
    · rw [if_pos d] at e
      cases e
      exact ⟨a1, (show 0 ≤ P 0 1 + 1 ∧ P 0 1 + 1 ≤ 6 by omega), a3, a4, a5, a6, a7⟩
    · rw [if_neg d] at e; cases e
theorem pRows_V {τ : PT} : ∀ (f : Nat) {P P' : PT} {i j : Nat}, pV0 P → pRows τ f P i = .inr (P', j) → pV0 P' ∧ 1 ≤ P' 0 1
  | 0, _, _, _, _, _, e => by cases e
  | f + 1, P, P', i, j, h, e => by
    have e : (if bW τ 1 i ≠ 0 then eb (pS τ (pRow τ P i)) (fun a => pRows τ f a.1 a.2) else if 0 < P 0 1 then .inr (P, i) else .inl (eF τ i 2)) = .inr (P', j) := e
    by_cases c : bW τ 1 i ≠ 0
    · rw [if_pos c] at e
      obtain ⟨a, e1, e2⟩ := eb_i e
      obtain ⟨b, e3, e4⟩ := eb_i e1
      obtain ⟨q, e5, e6⟩ := eb_i e4
      cases e6
      exact pRows_V f (pRow_V (P' := b.1) (j := b.2) h e3) e2
    · rw [if_neg c] at e
      by_cases d : 0 < P 0 1
      · rw [if_pos d] at e
        cases e
        exact ⟨h, by omega⟩
      · rw [if_neg d] at e; cases e
theorem pCell_V {τ : PT} {w r x y : Int} {i j : Nat} (e : pCell τ w r i = .inr (x, y, j)) : (0 ≤ x ∧ x ≤ w - 1) ∧ 0 ≤ y ∧ y ≤ r - 1 := by
  unfold pCell at e
  obtain ⟨a, e1, e2⟩ := eb_i e
  obtain ⟨b, e3, e4⟩ := eb_i e2
  cases e4
  exact ⟨pNum_bd (j := a.2) e1, pNum_bd (j := b.2) e3⟩
theorem pCi_in {P : PT} {x y : Int} (hx : 0 ≤ x ∧ x ≤ P 0 0 - 1) (hy : 0 ≤ y ∧ y ≤ P 0 1 - 1) (hw : P 0 0 ≤ 8) (hr : P 0 1 ≤ 6) : 0 ≤ pCi x y ∧ gIn P (pCi x y).toNat := by
  unfold pCi
  exact ⟨by omega, by omega, by omega, by omega⟩
section PAD
variable {P : PT} {nm hm gl b : Int} {k : Nat}
theorem pAdd_5 : pAdd P nm hm gl b 5 k = if k = (P 0 3).toNat then hm else P 5 k := by
  unfold pAdd
  rw [pset_ne (by omega), pset_ne (by omega), pset_ne (by omega), pset_ne (by omega), pset_ne (by omega)]
  by_cases c : k = (P 0 3).toNat
  · rw [if_pos c, c, pset_same]
  · rw [if_neg c, pset_ne (fun q => c q.2), pset_ne (by omega)]
theorem pAdd_6 : pAdd P nm hm gl b 6 k = if k = (P 0 3).toNat then hm else P 6 k := by
  unfold pAdd
  rw [pset_ne (by omega), pset_ne (by omega), pset_ne (by omega), pset_ne (by omega)]
  by_cases c : k = (P 0 3).toNat
  · rw [if_pos c, c, pset_same]
  · rw [if_neg c, pset_ne (fun q => c q.2), pset_ne (by omega), pset_ne (by omega)]
theorem pAdd_7 : pAdd P nm hm gl b 7 k = if k = (P 0 3).toNat then gl else P 7 k := by
  unfold pAdd
  rw [pset_ne (by omega), pset_ne (by omega), pset_ne (by omega)]
  by_cases c : k = (P 0 3).toNat
  · rw [if_pos c, c, pset_same]
  · rw [if_neg c, pset_ne (fun q => c q.2), pset_ne (by omega), pset_ne (by omega), pset_ne (by omega)]
theorem pAdd_8 : pAdd P nm hm gl b 8 k = if k = (P 0 3).toNat then b else P 8 k := by
  unfold pAdd
  rw [pset_ne (by omega), pset_ne (by omega)]
  by_cases c : k = (P 0 3).toNat
  · rw [if_pos c, c, pset_same]
  · rw [if_neg c, pset_ne (fun q => c q.2), pset_ne (by omega), pset_ne (by omega), pset_ne (by omega), pset_ne (by omega)]
theorem pAdd_9 : pAdd P nm hm gl b 9 k = if k = (P 0 3).toNat then 0 else P 9 k := by
  unfold pAdd
  rw [pset_ne (by omega)]
  by_cases c : k = (P 0 3).toNat
  · rw [if_pos c, c, pset_same]
  · rw [if_neg c, pset_ne (fun q => c q.2), pset_ne (by omega), pset_ne (by omega), pset_ne (by omega), pset_ne (by omega), pset_ne (by omega)]
end PAD
theorem pPart_V {τ P P' : PT} {i j : Nat} (h : pV P) (e : pPart τ P i = .inr (P', j)) : pV P' := by
  obtain ⟨a1, a2, a3, a4, a5, a6, a7, a8⟩ := id h
  unfold pPart at e
  by_cases c : bW τ 2 i ≠ 0
  · rw [if_pos c] at e
    unfold pRise at e
    obtain ⟨q1, e1, e2⟩ := eb_i e
    obtain ⟨q2, e3, e4⟩ := eb_i e2
    obtain ⟨q3, e5, e6⟩ := eb_i e4
    cases e6
    exact h
  · rw [if_neg c] at e
    by_cases c2 : bW τ 4 i ≠ 0
    · rw [if_pos c2] at e
      unfold pCopies at e
      by_cases c3 : P 0 9 ≠ 0
      · rw [if_pos c3] at e; cases e
      · rw [if_neg c3] at e
        obtain ⟨v, e1, e2⟩ := eb_i e
        cases e2
        have vb := pNum_bd (x := v.1) (j := v.2) e1
        have p2 := a4 (by omega)
        refine ⟨a1, a2, vb.1, fun q => absurd q (by show ¬ (1 : Int) = 0; decide), a5, a6, a7, fun k hk => ?_⟩
        obtain ⟨b1, b2, b3, b4, b5⟩ := a8 k hk
        exact ⟨b1, b2, b3, (show 0 ≤ P 8 k ∧ P 8 k < v.1 by omega), b5⟩
    · rw [if_neg c2] at e
      by_cases c3 : bW τ 5 i ≠ 0
      · rw [if_pos c3] at e
        unfold pCompany at e
        by_cases d : 6 ≤ P 0 3
        · rw [if_pos d] at e; cases e
        · rw [if_neg d] at e
          by_cases d2 : bN τ (i + 1) ≠ 0
          · rw [if_pos d2] at e
            by_cases d3 : pIx (P 4) (τ 4 (i + 1)) (P 0 3).toNat 0 ≠ -1
            · rw [if_pos d3] at e; cases e
            · rw [if_neg d3] at e
              obtain ⟨q1, e1, e2⟩ := eb_i e
              obtain ⟨q2, e3, e4⟩ := eb_i e2
              obtain ⟨q3, e5, e6⟩ := eb_i e4
              obtain ⟨q4, e7, e8⟩ := eb_i e6
              obtain ⟨q5, e9, e10⟩ := eb_i e8
              have v1 := pCell_V (x := q2.1) (y := q2.2.1) (j := q2.2.2) e3
              have v2 := pCell_V (x := q4.1) (y := q4.2.1) (j := q4.2.2) e7
              have g1 := pCi_in (P := P) v1.1 v1.2 a1.2 a2.2
              have g2 := pCi_in (P := P) v2.1 v2.2 a1.2 a2.2
              have vb : 0 ≤ q5.1 ∧ q5.1 < P 0 2 := by
                unfold pBy at e9
                by_cases d4 : bW τ 3 q4.2.2 ≠ 0
                · rw [if_pos d4] at e9
                  have := pNum_bd (x := q5.1) (j := q5.2) e9
                  omega
                · rw [if_neg d4] at e9
                  cases e9
                  show (0 : Int) ≤ 0 ∧ 0 < P 0 2
                  omega
              cases e10
              refine ⟨a1, a2, a3, a4, (show 0 ≤ P 0 3 + 1 by omega), a6, a7, fun k hk => ?_⟩
              have hk : (k : Int) < P 0 3 + 1 := hk
              unfold pVk
              rw [pAdd_5, pAdd_6, pAdd_7, pAdd_8, pAdd_9]
              by_cases ek : k = (P 0 3).toNat
              · rw [if_pos ek, if_pos ek, if_pos ek, if_pos ek, if_pos ek]
                exact ⟨g1, g1, g2, vb, rfl⟩
              · rw [if_neg ek, if_neg ek, if_neg ek, if_neg ek, if_neg ek]
                exact a8 k (by omega)
          · rw [if_neg d2] at e; cases e
      · rw [if_neg c3] at e; cases e
theorem pParts_V {τ : PT} : ∀ (f : Nat) {P P' : PT} {i : Nat}, pV P → pParts τ f P i = .inr P' → pV P'
  | 0, _, _, _, h, e => by cases e; exact h
  | f + 1, P, P', i, h, e => by
    have e : (if τ 0 i = 0 then .inr P else eb (pS τ (pPart τ P i)) (fun a => pParts τ f a.1 a.2)) = .inr P' := e
    by_cases c : τ 0 i = 0
    · rw [if_pos c] at e
      cases e
      exact h
    · rw [if_neg c] at e
      obtain ⟨a, e1, e2⟩ := eb_i e
      obtain ⟨b, e3, e4⟩ := eb_i e1
      obtain ⟨q, e5, e6⟩ := eb_i e4
      cases e6
      exact pParts_V f (pPart_V (P' := b.1) (j := b.2) h e3) e2
theorem pLand_V {τ P : PT} (e : pLand τ = .inr P) : pV P := by
  unfold pLand at e
  obtain ⟨a, e1, e2⟩ := eb_i e
  obtain ⟨b, e3, e4⟩ := eb_i e2
  unfold pWide at e1
  obtain ⟨q1, f1, f2⟩ := eb_i e1
  obtain ⟨q2, f3, f4⟩ := eb_i f2
  obtain ⟨q3, f5, f6⟩ := eb_i f4
  cases f6
  have w := pNum_bd (x := q2.1) (j := q2.2) f3
  have v0 : pV0 (pset pO 0 0 q2.1) := by
    refine ⟨w, ?_, ?_, ?_, ?_, ?_, fun i => ?_⟩
    · rw [pset_ne (by decide)]; unfold pO; decide
    · rw [pset_ne (by decide)]; rfl
    · rw [pset_ne (by decide)]; rfl
    · rw [pset_ne (by decide)]; rfl
    · rw [pset_ne (by decide)]; rfl
    · rw [pset_ne (by omega)]; exact if_neg (by omega)
  obtain ⟨⟨b1, b2, b3, b4, b5, b6, b7⟩, b8⟩ := pRows_V 7 (P' := b.1) (j := b.2) v0 e3
  exact pParts_V 900 ⟨b1, ⟨b8, b2.2⟩, by omega, fun _ => b3, by omega, b5, b7, fun k hk => absurd hk (by omega)⟩ e4
end
section
/-- what land(n) comes to on both sides (h: ahead of it, h1: between, h2: behind) -/
theorem land_both7 {D : zD} {h h1 h2 : zH} {n v1 v2 : Int} {r c : Nat} (hrc : lSw r c) (e7 : h 0 7 = (2, (c : Int))) (e8 : h 0 8 = (2, (r : Int))) (hZ : lZ D h) (hZ1 : lZ D h1) (hR : lT h) (z1 : zRun D TLw 614 162 0 (h, zargs 0 [(2, 0), (0, n)], []) (h1, some (0, v1))) (f1 : aFr lM_162 h h1) (z2 : zRun D TLw 614 268 0 (h1, zargs 0 [(2, 121), (0, n)], []) (h2, some (0, v2))) (f2 : aFr lM_268 h1 h2) : (v1 = -1 ∧ v2 = -1 ∧ h1 = zset h 0 0 (0, 5) ∧ (∀ a b, ¬ (a = 121 ∧ b ≤ 1) → h2 a b = h1 a b)) ∨ (cLf r h h1 ∧ h1 0 10 = h 0 10 ∧ ((∃ e : Er, v1 = -1 ∧ v2 = -1 ∧ h1 10 9 = (0, e.1) ∧ h1 10 10 = (0, e.2) ∧ h1 0 7 = (2, (c : Int)) ∧ h1 0 8 = (2, (r : Int)) ∧ h2 121 10 = (0, e.1) ∧ h2 121 11 = (0, e.2) ∧ rG 0 h1 h2) ∨ (∃ P, pV P ∧ v1 = P 0 3 ∧ v2 = P 0 3 ∧ h1 10 9 = (0, 0) ∧ h1 10 10 = (0, -1) ∧ h1 0 7 = (2, (r : Int)) ∧ h1 0 8 = (2, (c : Int)) ∧ cP r P h1 ∧ lB P ∧ h1 (r + 10) 0 = (0, -1) ∧ h1 (r + 10) 1 = (0, 0) ∧ h2 121 10 = (0, 0) ∧ h2 121 11 = (0, -1) ∧ rP 0 P h2 ∧ rD 0 P h2 ∧ rG 1 h1 h2))) := by
  have b10 := hZ.b10
  have k1 : h1 121 8 = h 121 8 := f1.keep (S := tpR) (by decide +kernel) tpR_in
  have kr : tK (tR h1) (tR h) := tK_r f1 (by decide +kernel)
  have hR1 : (h 10 1).2 = (h 121 8).2 := hR.1
  by_cases hn : n < 0
  · have a1 := hZ.run 4 z1 (Q := fun x => x = (zset h 0 0 (0, 5), some (0, -1))) (fun N => vP_hv (fun hv => qc_landn TLw_T vOK_T n hv hn rfl))
    have a2 := hZ1.run 3 z2 (Q := fun x => x = (zset (zset (zset h1 121 1 (0, 0)) 121 0 (0, 0)) 121 0 (0, 5), some (0, -1))) (fun N => vP_hv (fun hv => qr_landn TLw_T vOK_T n hv hn rfl))
    refine Or.inl ⟨?_, ?_, congrArg Prod.fst a1, fun a b hab => ?_⟩
    · cases (congrArg Prod.snd a1 : some ((0, v1) : zV) = some (0, -1)); rfl
    · cases (congrArg Prod.snd a2 : some ((0, v2) : zV) = some (0, -1)); rfl
    · have a2' : h2 = zset (zset (zset h1 121 1 (0, 0)) 121 0 (0, 0)) 121 0 (0, 5) := congrArg Prod.fst a2
      rw [a2', zset_ne (fun c => hab (by omega)), zset_ne (fun c => hab (by omega)), zset_ne (fun c => hab (by omega))]
  · obtain ⟨m', rfl⟩ : ∃ m' : Nat, n = (m' : Int) := ⟨n.toNat, by omega⟩
    by_cases hl : (h 10 1).2 < (m' : Int)
    · have q0 : vP D TLw 1 0 0 h [] [] (fun _ => True) := fun _ _ _ _ _ => trivial
      have a1 : (h1, some ((0, v1) : zV)) = (zset h 0 0 (0, 5), some (0, -1)) := by
        rcases hrc with ⟨rfl, rfl⟩ | ⟨rfl, rfl⟩
        · exact hZ.run 4 z1 (Q := fun x => x = (zset h 0 0 (0, 5), some (0, -1))) (fun N => vP_hv (fun hv => qc_landH TLw_T vOK_T m' hv hl rfl))
        · exact hZ.run 4 z1 (Q := fun x => x = (zset h 0 0 (0, 5), some (0, -1))) (fun N => vP_hv (fun hv => qc_landH TLw_T vOK_T m' hv hl rfl))
      have a2 := hZ1.run 3 z2 (Q := fun x => x = (zset (zset (zset h1 121 1 (0, 0)) 121 0 (0, 0)) 121 0 (0, 5), some (0, -1))) (fun N => vP_hv (fun hv => qr_landH TLw_T vOK_T m' hv (by rw [k1, ← hR1]; exact hl) rfl))
      refine Or.inl ⟨?_, ?_, congrArg Prod.fst a1, fun a b hab => ?_⟩
      · cases (congrArg Prod.snd a1 : some ((0, v1) : zV) = some (0, -1)); rfl
      · cases (congrArg Prod.snd a2 : some ((0, v2) : zV) = some (0, -1)); rfl
      · have a2' : h2 = zset (zset (zset h1 121 1 (0, 0)) 121 0 (0, 0)) 121 0 (0, 5) := congrArg Prod.fst a2
        rw [a2', zset_ne (fun c => hab (by omega)), zset_ne (fun c => hab (by omega)), zset_ne (fun c => hab (by omega))]
    · have hn9 : m' ≤ 900 := by omega
      have a1 : cLd r c (lB2 h) m' h (h1, some (0, v1)) := by
        rcases hrc with ⟨rfl, rfl⟩ | ⟨rfl, rfl⟩
        · exact hZ.run 4 z1 (Q := cLd 24 39 (lB2 h) m' h) (fun N => cx_land_24 TLw_T vOK_T (hZ.tx hn9) e7 e8)
        · exact hZ.run 4 z1 (Q := cLd 39 24 (lB2 h) m' h) (fun N => cx_land_39 TLw_T vOK_T (hZ.tx hn9) e7 e8)
      rcases a1 with ⟨d, _⟩ | ⟨_, lf, e10, m, τ, hK, hh⟩
      · exact absurd d hl
      · have a2 := hZ1.run 3 z2 (Q := rLr τ h1) (fun N => rx_land TLw_T vOK_T hK (hZ.tx hn9).1 (fun q hq => by
          rw [hZ1.bt q (by omega)]
          refine congrArg (Prod.mk (0 : Nat)) ?_
          have w := kr.2 q (by omega)
          exact w.trans (hR.2 q (by omega) (by show (q : Int) < (h 10 1).2; omega)).symm) (by rw [k1, ← hR1]; omega))
        refine Or.inr ⟨lf, e10, ?_⟩
        rcases hh with ⟨e, q1, q2, q3, q4, q5, q6⟩ | ⟨P, q1, q2, q3, q4, q5, q6, q7, q8, q9, q10⟩
        · rcases a2 with ⟨e', p1, p2, p3, p4, p5⟩ | ⟨P', p1, _⟩
          · rw [q1] at p1
            cases p1
            refine Or.inl ⟨e, ?_, ?_, q3, q4, q5, q6, p3, p4, p5⟩
            · cases (q2 : some ((0, v1) : zV) = some (0, -1)); rfl
            · cases (p2 : some ((0, v2) : zV) = some (0, -1)); rfl
          · rw [q1] at p1; cases p1
        · rcases a2 with ⟨e', p1, _⟩ | ⟨P', p1, p2, p3, p4, p5, p6, p7, p8⟩
          · rw [q1] at p1; cases p1
          · rw [q1] at p1
            cases p1
            refine Or.inr ⟨P, pLand_V q1, ?_, ?_, q3, q4, q5, q6, q7, q8, q9, q10, p3, p4, p5, p6, p8⟩
            · cases (q2 : some ((0, v1) : zV) = some (0, P 0 3)); rfl
            · cases (p2 : some ((0, v2) : zV) = some (0, P 0 3)); rfl
theorem rBk_land {P : PT} {h : zH} (v : pV P) (lb : lB P) (g : rP 0 P h) (d : rD 0 P h) : rBk 0 P h := by
  obtain ⟨a1, a2, a3, a4, a5, a6, a7, a8⟩ := v
  obtain ⟨⟨g0, g1, g2, g3⟩, g4, g5⟩ := g
  obtain ⟨d1, d2⟩ := d
  have w0 := lb.1.1
  have ec : ∀ x : Int, 0 ≤ x → cc (P 0 0) x = ((gJ P x.toNat : Nat) : Int) := fun x hx => by
    unfold cc
    rw [gJ_i w0, show ((x.toNat / 8 : Nat) : Int) = x / 8 from by omega, show ((x.toNat % 8 : Nat) : Int) = x % 8 from by omega]
  refine ⟨⟨g0, g1, g2, g3, by rw [a6]; exact d2 4 (Or.inl rfl)⟩, fun q gq => ?_, fun k q hk gq => ?_, fun k hk => ?_⟩
  · have j := gJ_i w0 q
    have l := gJ_lt lb gq
    obtain ⟨q0, q1, q2⟩ := gq
    have r6 := lb.2.1.2
    obtain ⟨x1, x2⟩ := g4 ((q % 8 : Nat) : Int) ((q / 8 : Nat) : Int) (by omega) q1 (by omega) (by omega)
    rw [← j] at x1 x2
    have ep : pCl ((q % 8 : Nat) : Int) ((q / 8 : Nat) : Int) = q := by unfold pCl; omega
    rw [ep] at x1 x2
    rw [show 0 + 5 + gJ P q = 550 * 0 + (5 + ((gJ P q : Nat) : Int)).toNat from by omega, show 0 + 53 + gJ P q = 550 * 0 + (53 + ((gJ P q : Nat) : Int)).toNat from by omega]
    exact ⟨x1, x2⟩
  · have l := gJ_lt lb gq
    have x := d2 (101 + 48 * k + gJ P q) (Or.inr (Or.inl (by omega)))
    rw [a7, show 0 + 101 + 48 * k + gJ P q = 550 * 0 + (101 + 48 * k + gJ P q) from by omega]
    exact x
  · have k6 : k < 6 := by have := lb.2.2.2.2; omega
    obtain ⟨⟨b5, _⟩, ⟨b6, _⟩, ⟨b7, _⟩, _, b9⟩ := a8 k hk
    obtain ⟨x1, x2, x3⟩ := g5 k hk
    obtain ⟨y1, y2⟩ := d1 k hk
    have z := d2 (269 + k) (Or.inr (Or.inr (by omega)))
    rw [ec _ b5] at x2
    rw [ec _ b7] at x3
    rw [ec _ b6] at y1
    rw [show 0 + 245 + k = 550 * 0 + (245 + k) from by omega, show 0 + 251 + k = 550 * 0 + (251 + k) from by omega, show 0 + 257 + k = 550 * 0 + (257 + k) from by omega, show 0 + 263 + k = 550 * 0 + (263 + k) from by omega, show 0 + 269 + k = 550 * 0 + (269 + k) from by omega]
    exact ⟨y1, x3, x2, y2, by rw [b9]; exact z⟩
theorem fB_land {D : zD} {h : zH} (hZ : lZ D h) {r : Nat} (hr : r = 24 ∨ r = 39) {P : PT} (v : pV P) (lb : lB P) (g : cP r P h) : fB P := by
  obtain ⟨a1, a2, a3, a4, a5, a6, a7, a8⟩ := v
  refine ⟨lb, fun q hq => ?_, fun i _ => by rw [a7]; decide, fun k hk => ?_⟩
  · have e1 := g.2.1 q hq
    have e2 := g.2.2.1 q hq
    rcases hr with rfl | rfl
    · have b1 := (hZ.bd (r := 25) (lo := 0) (hi := 47) (k := 0) (a := 0) (b := 4) ty_25 rfl (by decide +kernel) q (Nat.zero_le _) (by omega)).2
      have b2 := (hZ.bd (r := 26) (lo := 0) (hi := 47) (k := 0) (a := 0) (b := 9) ty_26 rfl (by decide +kernel) q (Nat.zero_le _) (by omega)).2
      rw [show h 25 q = _ from e1] at b1
      rw [show h 26 q = _ from e2] at b2
      exact ⟨b1, b2⟩
    · have b1 := (hZ.bd (r := 40) (lo := 0) (hi := 47) (k := 0) (a := 0) (b := 4) ty_40 rfl (by decide +kernel) q (Nat.zero_le _) (by omega)).2
      have b2 := (hZ.bd (r := 41) (lo := 0) (hi := 47) (k := 0) (a := 0) (b := 9) ty_41 rfl (by decide +kernel) q (Nat.zero_le _) (by omega)).2
      rw [show h 40 q = _ from e1] at b1
      rw [show h 41 q = _ from e2] at b2
      exact ⟨b1, b2⟩
  · obtain ⟨b1, b2, b3, b4, _⟩ := a8 k hk
    exact ⟨b1, b2, b3, b4⟩
theorem fRk_land {D : zD} (hD : ∀ i, -2147483648 ≤ D.2 i ∧ D.2 i ≤ 2147483647) {h h1 h2 : zH} {n v1 v2 : Int} (hZ : lZ D h) (hZ1 : lZ D h1) (hR : fR h) (z1 : zRun D TLw 614 162 0 (h, zargs 0 [(2, 0), (0, n)], []) (h1, some (0, v1))) (f1 : aFr lM_162 h h1) (z2 : zRun D TLw 614 268 0 (h1, zargs 0 [(2, 121), (0, n)], []) (h2, some (0, v2))) (f2 : aFr lM_268 h1 h2) : fR h2 ∧ v1 = v2 := by
  have hR' := hR
  obtain ⟨hL0, hM, r, c, s1, s2, s3, hL⟩ := hR'
  have R0 := lRk_land hD hZ hZ1 hL0 z1 f1 z2 f2
  refine ⟨⟨R0.1, ?_⟩, R0.2⟩
  have hc : ∀ c, cOb c → cKf c c h1 h2 := fun c hc => cKf_S (fun a k hi => f2.keep (by decide +kernel) hi) hc
  have hb : ∀ b, b < 4 → bKf (550 * b) (550 * b) h h1 := fun b hb => bKf_S (fun a k hi => f1.keep (by decide +kernel) hi) hb
  have k2 : ∀ a k, aIn [(0, 7, 8), (0, 10, 10)] a k → h2 a k = h1 a k := fun a k hi => f2.keep (S := [(0, 7, 8), (0, 10, 10)]) (by decide +kernel) hi
  have e7 := k2 0 7 ⟨(0, 7, 8), by decide, rfl, by decide, by decide⟩
  have e8 := k2 0 8 ⟨(0, 7, 8), by decide, rfl, by decide, by decide⟩
  have e10 := k2 0 10 ⟨(0, 10, 10), by decide, rfl, by decide, by decide⟩
  have j14 : ∀ {j k : Nat}, cJ j k → j ≤ 14 := fun hj => by
    unfold cJ at hj
    omega
  rcases land_both7 s1 s2 s3 hZ hZ1 hL0.1 z1 f1 z2 f2 with ⟨a1, a2, a3, a4⟩ | ⟨lf, q10, hh⟩
  · refine (hR.off (M := [(0, 0, 0), (121, 0, 1)]) (by decide +kernel) (fun a b hn => ?_)).2
    rw [a4 a b (fun e => hn ⟨(121, 0, 1), by decide, e.1.symm, Nat.zero_le _, e.2⟩), a3]
    exact zset_ne (fun e => hn ⟨(0, 0, 0), by decide, e.1.symm, Nat.zero_le _, Nat.le_of_eq e.2⟩)
  · have lm : ∀ m, m < 3 → cKf (55 + 15 * m) (55 + 15 * m) h h2 := fun m hm => by
      refine cKf.trans (fun j k hj => lf _ _ ?_) (hc _ (mOb hm))
      have := j14 hj
      rcases s1 with ⟨rfl, rfl⟩ | ⟨rfl, rfl⟩ <;> omega
    rcases hh with ⟨e, a1, a2, a3, a4, a5, a6, a7, a8, a9⟩ | ⟨P, pv, a1, a2, a3, a4, a5, a6, a7, a8, a9, a10, a11, a12, a13, a14, a15⟩
    · have gb : ∀ b, b < 4 → bKf (550 * b) (550 * b) h h2 := fun b hb4 => (hb b hb4).trans (fun j hj => a9 _ _ (fun c => by omega))
      refine ⟨fun m hm hq => ?_, r, c, s1, e7.trans a5, e8.trans a6, hL.tr ?_ (gb 0 (by decide))⟩
      · rw [e10, q10] at hq
        exact (hM m hm hq).tr (lm m hm) (gb _ (by omega))
      · refine cKf.trans (fun j k hj => lf _ _ ?_) (hc _ s1.ob)
        have := j14 hj
        rcases s1 with ⟨rfl, rfl⟩ | ⟨rfl, rfl⟩ <;> omega
    · have gb : ∀ b, b < 4 → 1 ≤ b → bKf (550 * b) (550 * b) h h2 := fun b hb4 h1b => (hb b hb4).trans (fun j hj => a15 _ _ (fun c => by omega))
      have ho := hc r s1.symm.ob
      have c2 : r = 24 ∨ r = 39 := s1.symm.c2
      refine ⟨fun m hm hq => ?_, c, r, s1.symm, e7.trans a5, e8.trans a6, P, a7.tr a8.2.2.2.2 ho, rBk_land pv a8 a13 a14, fB_land hZ1 c2 pv a8 a7, ⟨by have := pv.1.1; omega, pv.2.1.1⟩, Or.inl ⟨(ho 10 0 (by unfold cJ; omega)).trans a9, a14.2 275 (Or.inr (Or.inr (by omega)))⟩⟩
      rw [e10, q10] at hq
      exact (hM m hm hq).tr (lm m hm) (gb _ (by omega) (by omega))
end
section
/-! arrivals, all contents -/
abbrev fz0 : aM := [(0, 7, 8), (0, 10, 10)]
abbrev fzX (c : Nat) : aM := fz0 ++ (kLf c ++ (kLf 55 ++ (kLf 70 ++ (kLf 85 ++ bAf))))
abbrev fzR : aM := fz0 ++ (cAf ++ ([(126, 275, 546)] ++ (kLb 550 ++ (kLb 1100 ++ kLb 1650))))
theorem fX_arr {h h1 h2 : zH} {r c : Nat} (hX : fX h) (s1 : lSw r c) (s2 : h 0 7 = (2, (c : Int))) (k1 : ∀ a k, aIn (fzX c) a k → h1 a k = h a k) (k2 : ∀ a k, aIn fzR a k → h2 a k = h1 a k) (k3 : ∀ j, j < 275 → h2 126 j = h1 126 j) : fX h2 := by
  obtain ⟨hM, r', c', t1, t2, t3, hL⟩ := hX
  have ec : c' = c := by
    rw [s2] at t2
    have := congrArg Prod.snd t2
    have : (c : Int) = (c' : Int) := this
    omega
  subst ec
  have h0 : ∀ a k, aIn fz0 a k → h2 a k = h a k := fun a k hi => (k2 a k (aIn_l hi)).trans (k1 a k (aIn_l hi))
  have kc2 : ∀ d, cOb d → cKf d d h1 h2 := fun d hd => cKf_S (fun a k hi => k2 a k (aIn_r (aIn_l hi))) hd
  have kc1 : cKf c' c' h h1 := fun j k hj => k1 _ _ (aIn_r (aIn_l (kLf_in hj)))
  have km1 : ∀ m, m < 3 → cKf (55 + 15 * m) (55 + 15 * m) h h1 := fun m hm j k hj => by
    have : m = 0 ∨ m = 1 ∨ m = 2 := by omega
    rcases this with rfl | rfl | rfl
    · exact k1 _ _ (aIn_r (aIn_r (aIn_l (kLf_in hj))))
    · exact k1 _ _ (aIn_r (aIn_r (aIn_r (aIn_l (kLf_in hj)))))
    · exact k1 _ _ (aIn_r (aIn_r (aIn_r (aIn_r (aIn_l (kLf_in hj))))))
  have kb1 : ∀ b, b < 4 → bKf (550 * b) (550 * b) h h1 := fun b hb => bKf_S (fun a k hi => k1 a k (aIn_r (aIn_r (aIn_r (aIn_r (aIn_r hi)))))) hb
  have l : ∀ o j, j < 547 → aIn (kLb o) 126 (o + j) := fun o j hj => aIn_of (lo := o) (hi := o + 546) List.mem_cons_self (by omega) (by omega)
  have kb2 : ∀ m, m < 3 → bKf (550 * (m + 1)) (550 * (m + 1)) h1 h2 := fun m hm j hj => by
    have : m = 0 ∨ m = 1 ∨ m = 2 := by omega
    rcases this with rfl | rfl | rfl
    · exact k2 _ _ (aIn_r (aIn_r (aIn_r (aIn_l (l 550 j hj)))))
    · exact k2 _ _ (aIn_r (aIn_r (aIn_r (aIn_r (aIn_l (l 1100 j hj))))))
    · exact k2 _ _ (aIn_r (aIn_r (aIn_r (aIn_r (aIn_r (l 1650 j hj))))))
  have kb0 : bKf 0 0 h1 h2 := fun j hj => by
    rw [Nat.zero_add]
    by_cases c : j < 275
    · exact k3 j c
    · exact k2 _ _ (aIn_r (aIn_r (aIn_l (aIn_of (lo := 275) (hi := 546) List.mem_cons_self (by omega) (by omega)))))
  refine ⟨fun m hm hq => ?_, r', c', t1, (h0 _ _ ⟨(0, 7, 8), by decide, rfl, by decide, by decide⟩).trans t2, (h0 _ _ ⟨(0, 7, 8), by decide, rfl, by decide, by decide⟩).trans t3, hL.tr (kc1.trans (kc2 c' t1.ob)) ((kb1 0 (by decide)).trans kb0)⟩
  rw [h0 0 10 ⟨(0, 10, 10), by decide, rfl, by decide, by decide⟩] at hq
  exact (hM m hm hq).tr ((km1 m hm).trans (kc2 _ (mOb hm))) ((kb1 _ (by omega)).trans (kb2 m hm))
theorem fRk_arrivals {D : zD} (hD : ∀ i, -2147483648 ≤ D.2 i ∧ D.2 i ≤ 2147483647) {h h1 h2 : zH} {x y z : Nat} {v1 v2 : Int} (hZ : lZ D h) (hZ1 : lZ D h1) (hR : fR h) (z1 : zRun D TLw 614 143 0 (h, zargs 0 [(2, 0), (0, D.2 x), (0, D.2 y), (0, D.2 z)], []) (h1, some (0, v1))) (f1 : aFr lM_143 h h1) (z2 : zRun D TLw 614 196 0 (h1, zargs 0 [(2, 121), (0, D.2 x), (0, D.2 y), (0, D.2 z)], []) (h2, some (0, v2))) (f2 : aFr lM_196 h1 h2) : fR h2 ∧ True := by
  refine ⟨⟨(lRk_arrivals hD hZ hZ1 hR.1 z1 f1 z2 f2).1, ?_⟩, trivial⟩
  have hR' := hR
  obtain ⟨_, _, r, c, s1, s2, s3, P, _, hp, fb, _, _⟩ := hR'
  have lb := fb.1
  have b3 : 0 ≤ (h1 126 3).2 ∧ (h1 126 3).2 ≤ 6 := by
    have e : h1 126 3 = h 126 3 := f1.keep (S := [(126, 3, 3)]) (by decide +kernel) ⟨(126, 3, 3), by decide, rfl, by decide, by decide⟩
    rw [e, hp.m]
    exact lb.2.2.2
  have k3 : ∀ j, j < 275 → h2 126 j = h1 126 j := by
    rcases arr_r hZ1 b3 z2 with ⟨_, _, q⟩ | ⟨_, _, q⟩
    · exact fun j _ => q j
    · exact q
  have k2 : ∀ a k, aIn fzR a k → h2 a k = h1 a k := fun a k hi => f2.keep (by decide +kernel) hi
  rcases s1 with ⟨rfl, rfl⟩ | ⟨rfl, rfl⟩
  · have g := arr_b hD lckB_143 (lQB_of hZ s2 s3) z1
    exact fX_arr hR.2 (Or.inl ⟨rfl, rfl⟩) s2 (fun a k hi => g.keep (by decide +kernel) hi) k2 k3
  · have g := arr_b hD lckA_143 (lQA_of hZ s2 s3) z1
    exact fX_arr hR.2 (Or.inr ⟨rfl, rfl⟩) s2 (fun a k hi => g.keep (by decide +kernel) hi) k2 k3
end
section
theorem qr_cw0 {D : zD} {T : zT} (hT : hTab T) (hO : vOK T) {N : Nat} {h : zH} {Q : zR → Prop} {P : PT} {m : Nat} (hv0 : zHv h) (hR : rBk 0 P h) (hm : (m : Int) < P 0 3) (m6 : m < 6) (eb : h 126 (263 + (m : Int)).toNat = (0, P 8 m)) (ea : h 126 (245 + (m : Int)).toNat = (0, ((gJ P (P 6 m).toNat : Nat) : Int))) (eg : h 126 (251 + (m : Int)).toNat = (0, ((gJ P (P 7 m).toNat : Nat) : Int)))
    (k0 : (0 ≤ (263 + (m : Int))) → ((263 + (m : Int)) < 2750) → (0 ≤ (245 + (m : Int))) → ((245 + (m : Int)) < 2750) → (0 ≤ (251 + (m : Int))) → ((251 + (m : Int)) < 2750) → vP D T N 336 0 h [some (2, 121), some (0, (P 8 m)), some (0, ((gJ P (P 6 m).toNat : Nat) : Int)), some (0, ((gJ P (P 7 m).toNat : Nat) : Int)), none, none, none, none] [] (fun r1 => vP D T N 210 34 r1.1 [some (2, 121), some (0, (m : Int))] (zpush r1.2 []) Q)) :
    vP D T N 210 0 h [some (2, 121), some (0, (m : Int))] [] Q := by
  refine v_load (v := (2, 121)) (hz_X12_companyWay hT _ _ rfl) rfl rfl ?_
  refine v_load (v := (2, 121)) (hz_X12_companyWay hT _ _ rfl) rfl rfl ?_
  refine v_getR (c := 126) (r := 121) (hz_X12_companyWay hT _ _ rfl) rfl rfl rfl ?_
  refine v_push (263) (hz_X12_companyWay hT _ _ rfl) rfl ?_
  refine v_load (v := (0, (m : Int))) (hz_X12_companyWay hT _ _ rfl) rfl rfl ?_
  refine v_bin (w := (263 + (m : Int))) (hz_X12_companyWay hT _ _ rfl) (hq_add (by omega) (by omega)) ?_
  refine v_aldB (t := 0) (r := 126) (w := (P 8 m)) (hz_X12_companyWay hT _ _ rfl) rfl rfl rfl (fun _ _ => (congrArg Prod.snd eb)) (fun ha1 hb2 => ?_)
  refine v_load (v := (2, 121)) (hz_X12_companyWay hT _ _ rfl) rfl rfl ?_
  refine v_getR (c := 126) (r := 121) (hz_X12_companyWay hT _ _ rfl) rfl rfl rfl ?_
  refine v_push (245) (hz_X12_companyWay hT _ _ rfl) rfl ?_
  refine v_load (v := (0, (m : Int))) (hz_X12_companyWay hT _ _ rfl) rfl rfl ?_
  refine v_bin (w := (245 + (m : Int))) (hz_X12_companyWay hT _ _ rfl) (hq_add (by omega) (by omega)) ?_
  refine v_aldB (t := 0) (r := 126) (w := ((gJ P (P 6 m).toNat : Nat) : Int)) (hz_X12_companyWay hT _ _ rfl) rfl rfl rfl (fun _ _ => (congrArg Prod.snd ea)) (fun ha3 hb4 => ?_)
  refine v_load (v := (2, 121)) (hz_X12_companyWay hT _ _ rfl) rfl rfl ?_
  refine v_getR (c := 126) (r := 121) (hz_X12_companyWay hT _ _ rfl) rfl rfl rfl ?_
  refine v_push (251) (hz_X12_companyWay hT _ _ rfl) rfl ?_
  refine v_load (v := (0, (m : Int))) (hz_X12_companyWay hT _ _ rfl) rfl rfl ?_
  refine v_bin (w := (251 + (m : Int))) (hz_X12_companyWay hT _ _ rfl) (hq_add (by omega) (by omega)) ?_
  refine v_aldB (t := 0) (r := 126) (w := ((gJ P (P 7 m).toNat : Nat) : Int)) (hz_X12_companyWay hT _ _ rfl) rfl rfl rfl (fun _ _ => (congrArg Prod.snd eg)) (fun ha5 hb6 => ?_)
  refine v_call (w := 8) [some (2, 121), some (0, (P 8 m)), some (0, ((gJ P (P 6 m).toNat : Nat) : Int)), some (0, ((gJ P (P 7 m).toNat : Nat) : Int)), none, none, none, none] hO (hz_X12_companyWay hT _ _ rfl) rfl rfl ?_
  exact k0 ha1 hb2 ha3 hb4 ha5 hb6
theorem qr_cw34 {D : zD} {T : zT} (hT : hTab T) (hO : vOK T) {N : Nat} {h : zH} {Q : zR → Prop} {m : Nat} (p : Int) (hv0 : zHv h)
    (k0 : Q (h, some (0, p))) :
    vP D T N 210 34 h [some (2, 121), some (0, (m : Int))] [(0, p)] Q := by
  refine v_ret (hz_X12_companyWay hT _ _ rfl) (Or.inl rfl) ?_
  exact k0 
theorem qr_iw0 {D : zD} {T : zT} (hT : hTab T) (hO : vOK T) {N : Nat} {h : zH} {Q : zR → Prop} {P : PT} {j q : Nat} (hv0 : zHv h)
    (k0 : vP D T N 264 2 h [some (2, 121), some (0, (j : Int)), some (0, ((gJ P q : Nat) : Int)), some (0, 0)] [] Q) :
    vP D T N 264 0 h [some (2, 121), some (0, (j : Int)), some (0, ((gJ P q : Nat) : Int)), none] [] Q := by
  refine v_push (0) (hz_X12_isWanted hT _ _ rfl) rfl ?_
  refine v_store1 [some (2, 121), some (0, (j : Int)), some (0, ((gJ P q : Nat) : Int)), some (0, 0)] (hz_X12_isWanted hT _ _ rfl) ⟨rfl, Nat.ne_of_beq_eq_false rfl⟩ (Nat.le_of_ble_eq_true rfl) rfl ?_
  exact k0 
theorem qr_iw2 {D : zD} {T : zT} (hT : hTab T) (hO : vOK T) {N : Nat} {h : zH} {Q : zR → Prop} {P : PT} {j q m : Nat} (hv0 : zHv h) (hR : rBk 0 P h) (hm : (m : Int) < P 0 3) (m6 : m < 6) (eb : h 126 (263 + (m : Int)).toNat = (0, P 8 m)) (ea : h 126 (245 + (m : Int)).toNat = (0, ((gJ P (P 6 m).toNat : Nat) : Int))) (eg : h 126 (251 + (m : Int)).toNat = (0, ((gJ P (P 7 m).toNat : Nat) : Int)))
    (k0 : (0 ≤ (263 + (m : Int))) → ((263 + (m : Int)) < 2750) → ((P 8 m) = (j : Int)) → (0 ≤ (245 + (m : Int))) → ((245 + (m : Int)) < 2750) → (((gJ P (P 6 m).toNat : Nat) : Int) = ((gJ P q : Nat) : Int)) → Q (h, some (0, 1)))
    (k1 : (0 ≤ (263 + (m : Int))) → ((263 + (m : Int)) < 2750) → ((P 8 m) = (j : Int)) → (0 ≤ (245 + (m : Int))) → ((245 + (m : Int)) < 2750) → (((gJ P (P 6 m).toNat : Nat) : Int) ≠ ((gJ P q : Nat) : Int)) → (0 ≤ (251 + (m : Int))) → ((251 + (m : Int)) < 2750) → (((gJ P (P 7 m).toNat : Nat) : Int) = ((gJ P q : Nat) : Int)) → Q (h, some (0, 1)))
    (k2 : (0 ≤ (263 + (m : Int))) → ((263 + (m : Int)) < 2750) → ((P 8 m) = (j : Int)) → (0 ≤ (245 + (m : Int))) → ((245 + (m : Int)) < 2750) → (((gJ P (P 6 m).toNat : Nat) : Int) ≠ ((gJ P q : Nat) : Int)) → (0 ≤ (251 + (m : Int))) → ((251 + (m : Int)) < 2750) → (((gJ P (P 7 m).toNat : Nat) : Int) ≠ ((gJ P q : Nat) : Int)) → vP D T N 264 2 h [some (2, 121), some (0, (j : Int)), some (0, ((gJ P q : Nat) : Int)), some (0, ((m : Int) + 1))] [] Q)
    (k3 : (0 ≤ (263 + (m : Int))) → ((263 + (m : Int)) < 2750) → ((P 8 m) ≠ (j : Int)) → vP D T N 264 2 h [some (2, 121), some (0, (j : Int)), some (0, ((gJ P q : Nat) : Int)), some (0, ((m : Int) + 1))] [] Q) :
    vP D T (N + 1) 264 2 h [some (2, 121), some (0, (j : Int)), some (0, ((gJ P q : Nat) : Int)), some (0, (m : Int))] [] Q := by
  refine v_loadS (v := (0, (m : Int))) (hz_X12_isWanted hT _ _ rfl) rfl rfl ?_
  refine v_load (v := (2, 121)) (hz_X12_isWanted hT _ _ rfl) rfl rfl ?_
  refine v_getR (c := 126) (r := 121) (hz_X12_isWanted hT _ _ rfl) rfl rfl rfl ?_
  refine v_push (3) (hz_X12_isWanted hT _ _ rfl) rfl ?_
  refine v_aldV (v := (0, (P 0 3))) (r := 126) (hz_X12_isWanted hT _ _ rfl) rfl rfl (fun _ _ _ => hR.m) (fun ha1 hb2 => ?_)
  refine v_ic (hz_X12_isWanted hT _ _ rfl) (fun _ => ?_) (fun hc3 => absurd (show (m : Int) < (P 0 3) from hm) hc3)
  refine v_load (v := (2, 121)) (hz_X12_isWanted hT _ _ rfl) rfl rfl ?_
  refine v_getR (c := 126) (r := 121) (hz_X12_isWanted hT _ _ rfl) rfl rfl rfl ?_
  refine v_push (263) (hz_X12_isWanted hT _ _ rfl) rfl ?_
  refine v_load (v := (0, (m : Int))) (hz_X12_isWanted hT _ _ rfl) rfl rfl ?_
  refine v_bin (w := (263 + (m : Int))) (hz_X12_isWanted hT _ _ rfl) (hq_add (by omega) (by omega)) ?_
  refine v_aldB (t := 0) (r := 126) (w := (P 8 m)) (hz_X12_isWanted hT _ _ rfl) rfl rfl rfl (fun _ _ => (congrArg Prod.snd eb)) (fun ha4 hb5 => ?_)
  refine v_load (v := (0, (j : Int))) (hz_X12_isWanted hT _ _ rfl) rfl rfl ?_
  refine v_ic (hz_X12_isWanted hT _ _ rfl) (fun hc6 => ?_) (fun hc6 => ?_)
  · have hc6 : (P 8 m) = (j : Int) := hc6
    refine v_load (v := (2, 121)) (hz_X12_isWanted hT _ _ rfl) rfl rfl ?_
    refine v_getR (c := 126) (r := 121) (hz_X12_isWanted hT _ _ rfl) rfl rfl rfl ?_
    refine v_push (245) (hz_X12_isWanted hT _ _ rfl) rfl ?_
    refine v_load (v := (0, (m : Int))) (hz_X12_isWanted hT _ _ rfl) rfl rfl ?_
    refine v_bin (w := (245 + (m : Int))) (hz_X12_isWanted hT _ _ rfl) (hq_add (by omega) (by omega)) ?_
    refine v_aldB (t := 0) (r := 126) (w := ((gJ P (P 6 m).toNat : Nat) : Int)) (hz_X12_isWanted hT _ _ rfl) rfl rfl rfl (fun _ _ => (congrArg Prod.snd ea)) (fun ha7 hb8 => ?_)
    refine v_load (v := (0, ((gJ P q : Nat) : Int))) (hz_X12_isWanted hT _ _ rfl) rfl rfl ?_
    refine v_ic (hz_X12_isWanted hT _ _ rfl) (fun hc9 => ?_) (fun hc9 => ?_)
    · have hc9 : ((gJ P (P 6 m).toNat : Nat) : Int) = ((gJ P q : Nat) : Int) := hc9
      refine v_push (1) (hz_X12_isWanted hT _ _ rfl) rfl ?_
      refine v_ret (hz_X12_isWanted hT _ _ rfl) (Or.inl rfl) ?_
      exact k0 ha4 hb5 hc6 ha7 hb8 hc9
    · have hc9 : ((gJ P (P 6 m).toNat : Nat) : Int) ≠ ((gJ P q : Nat) : Int) := hc9
      refine v_load (v := (2, 121)) (hz_X12_isWanted hT _ _ rfl) rfl rfl ?_
      refine v_getR (c := 126) (r := 121) (hz_X12_isWanted hT _ _ rfl) rfl rfl rfl ?_
      refine v_push (251) (hz_X12_isWanted hT _ _ rfl) rfl ?_
      refine v_load (v := (0, (m : Int))) (hz_X12_isWanted hT _ _ rfl) rfl rfl ?_
      refine v_bin (w := (251 + (m : Int))) (hz_X12_isWanted hT _ _ rfl) (hq_add (by omega) (by omega)) ?_
      refine v_aldB (t := 0) (r := 126) (w := ((gJ P (P 7 m).toNat : Nat) : Int)) (hz_X12_isWanted hT _ _ rfl) rfl rfl rfl (fun _ _ => (congrArg Prod.snd eg)) (fun ha10 hb11 => ?_)
      refine v_load (v := (0, ((gJ P q : Nat) : Int))) (hz_X12_isWanted hT _ _ rfl) rfl rfl ?_
      refine v_ic (hz_X12_isWanted hT _ _ rfl) (fun hc12 => ?_) (fun hc12 => ?_)
      · have hc12 : ((gJ P (P 7 m).toNat : Nat) : Int) = ((gJ P q : Nat) : Int) := hc12
        refine v_push (1) (hz_X12_isWanted hT _ _ rfl) rfl ?_
        refine v_ret (hz_X12_isWanted hT _ _ rfl) (Or.inl rfl) ?_
        exact k1 ha4 hb5 hc6 ha7 hb8 hc9 ha10 hb11 hc12
      · have hc12 : ((gJ P (P 7 m).toNat : Nat) : Int) ≠ ((gJ P q : Nat) : Int) := hc12
        refine v_iinc (x := (m : Int)) (u := 1) (w := ((m : Int) + 1)) [some (2, 121), some (0, (j : Int)), some (0, ((gJ P q : Nat) : Int)), some (0, ((m : Int) + 1))] (hz_X12_isWanted hT _ _ rfl) rfl rfl (Nat.le_of_ble_eq_true rfl) (vz_inc (by omega) (by omega)) rfl ?_
        refine v_goto (hz_X12_isWanted hT _ _ rfl) ?_
        exact k2 ha4 hb5 hc6 ha7 hb8 hc9 ha10 hb11 hc12
  · have hc6 : (P 8 m) ≠ (j : Int) := hc6
    refine v_iinc (x := (m : Int)) (u := 1) (w := ((m : Int) + 1)) [some (2, 121), some (0, (j : Int)), some (0, ((gJ P q : Nat) : Int)), some (0, ((m : Int) + 1))] (hz_X12_isWanted hT _ _ rfl) rfl rfl (Nat.le_of_ble_eq_true rfl) (vz_inc (by omega) (by omega)) rfl ?_
    refine v_goto (hz_X12_isWanted hT _ _ rfl) ?_
    exact k3 ha4 hb5 hc6
theorem qr_iw9 {D : zD} {T : zT} (hT : hTab T) (hO : vOK T) {N : Nat} {h : zH} {Q : zR → Prop} {P : PT} {j q m : Nat} (hv0 : zHv h) (p3 : h 126 3 = (0, P 0 3)) (hm : P 0 3 ≤ (m : Int))
    (k0 : Q (h, some (0, 0))) :
    vP D T (N + 1) 264 2 h [some (2, 121), some (0, (j : Int)), some (0, ((gJ P q : Nat) : Int)), some (0, (m : Int))] [] Q := by
  refine v_loadS (v := (0, (m : Int))) (hz_X12_isWanted hT _ _ rfl) rfl rfl ?_
  refine v_load (v := (2, 121)) (hz_X12_isWanted hT _ _ rfl) rfl rfl ?_
  refine v_getR (c := 126) (r := 121) (hz_X12_isWanted hT _ _ rfl) rfl rfl rfl ?_
  refine v_push (3) (hz_X12_isWanted hT _ _ rfl) rfl ?_
  refine v_aldV (v := (0, (P 0 3))) (r := 126) (hz_X12_isWanted hT _ _ rfl) rfl rfl (fun _ _ _ => p3) (fun ha1 hb2 => ?_)
  refine v_ic (hz_X12_isWanted hT _ _ rfl) (fun hc3 => absurd (show (m : Int) < (P 0 3) from hc3) (by omega)) (fun _ => ?_)
  refine v_push (0) (hz_X12_isWanted hT _ _ rfl) rfl ?_
  refine v_ret (hz_X12_isWanted hT _ _ rfl) (Or.inl rfl) ?_
  exact k0 
theorem qr_if0 {D : zD} {T : zT} (hT : hTab T) (hO : vOK T) {N : Nat} {h : zH} {Q : zR → Prop} {P : PT} {j q : Nat} (hv0 : zHv h) (hR : rBk 0 P h) (hb : fB P) (hj : j < 3) (gq : gIn P q) (hn : gJ P q < 48)
    (k0 : ((P 3 (48 * j + q)) = 1) → Q (h, some (0, 0)))
    (k1 : ((P 3 (48 * j + q)) ≠ 1) → vP D T N 264 0 h [some (2, 121), some (0, (j : Int)), some (0, ((gJ P q : Nat) : Int)), none] [] (fun r1 => vP D T N 251 16 r1.1 [some (2, 121), some (0, (j : Int)), some (0, ((gJ P q : Nat) : Int))] (zpush r1.2 []) Q)) :
    vP D T N 251 0 h [some (2, 121), some (0, (j : Int)), some (0, ((gJ P q : Nat) : Int))] [] Q := by
  refine v_load (v := (2, 121)) (hz_X12_isFood hT _ _ rfl) rfl rfl ?_
  refine v_load (v := (0, (j : Int))) (hz_X12_isFood hT _ _ rfl) rfl rfl ?_
  refine v_load (v := (0, ((gJ P q : Nat) : Int))) (hz_X12_isFood hT _ _ rfl) rfl rfl ?_
  refine v_call (w := 3) [some (2, 121), some (0, (j : Int)), some (0, ((gJ P q : Nat) : Int))] hO (hz_X12_isFood hT _ _ rfl) rfl rfl (rb_st hT hO ((j : Int)) j q rfl (by omega) gq hR hb ?_)
  show vP D T N 251 6 h [some (2, 121), some (0, (j : Int)), some (0, ((gJ P q : Nat) : Int))] [(0, (P 3 (48 * j + q)))] _
  refine v_push (1) (hz_X12_isFood hT _ _ rfl) rfl ?_
  refine v_ic (hz_X12_isFood hT _ _ rfl) (fun hc1 => ?_) (fun hc1 => ?_)
  · have hc1 : (P 3 (48 * j + q)) = 1 := hc1
    refine v_push (0) (hz_X12_isFood hT _ _ rfl) rfl ?_
    refine v_ret (hz_X12_isFood hT _ _ rfl) (Or.inl rfl) ?_
    exact k0 hc1
  · have hc1 : (P 3 (48 * j + q)) ≠ 1 := hc1
    refine v_load (v := (2, 121)) (hz_X12_isFood hT _ _ rfl) rfl rfl ?_
    refine v_load (v := (0, (j : Int))) (hz_X12_isFood hT _ _ rfl) rfl rfl ?_
    refine v_load (v := (0, ((gJ P q : Nat) : Int))) (hz_X12_isFood hT _ _ rfl) rfl rfl ?_
    refine v_call (w := 4) [some (2, 121), some (0, (j : Int)), some (0, ((gJ P q : Nat) : Int)), none] hO (hz_X12_isFood hT _ _ rfl) rfl rfl ?_
    exact k1 hc1
theorem qr_if16_0 {D : zD} {T : zT} (hT : hTab T) (hO : vOK T) {N : Nat} {h : zH} {Q : zR → Prop} {P : PT} {j q : Nat} (hv0 : zHv h)
    (k0 : Q (h, some (0, 1))) :
    vP D T N 251 16 h [some (2, 121), some (0, (j : Int)), some (0, ((gJ P q : Nat) : Int))] [(0, 0)] Q := by
  refine v_if (hz_X12_isFood hT _ _ rfl) (fun _ => ?_) (fun hc1 => absurd (show (0 : Int) = 0 from (by decide)) hc1)
  refine v_push (1) (hz_X12_isFood hT _ _ rfl) rfl ?_
  refine v_goto (hz_X12_isFood hT _ _ rfl) ?_
  refine v_ret (hz_X12_isFood hT _ _ rfl) (Or.inl rfl) ?_
  exact k0 
theorem qr_if16_1 {D : zD} {T : zT} (hT : hTab T) (hO : vOK T) {N : Nat} {h : zH} {Q : zR → Prop} {P : PT} {j q : Nat} (hv0 : zHv h)
    (k0 : Q (h, some (0, 0))) :
    vP D T N 251 16 h [some (2, 121), some (0, (j : Int)), some (0, ((gJ P q : Nat) : Int))] [(0, 1)] Q := by
  refine v_if (hz_X12_isFood hT _ _ rfl) (fun hc1 => absurd (show (1 : Int) = 0 from hc1) (by decide)) (fun _ => ?_)
  refine v_push (0) (hz_X12_isFood hT _ _ rfl) rfl ?_
  refine v_ret (hz_X12_isFood hT _ _ rfl) (Or.inl rfl) ?_
  exact k0 
/-! what to eat: the reference's helpers -/
noncomputable def cwC (P : PT) (m : Nat) : Int := if mC P m = -1 then 1000000 else mC P m
theorem rx_cw {D : zD} {T : zT} (hT : hTab T) (hO : vOK T) {N : Nat} {h : zH} {Q : zR → Prop} {P : PT} (m : Nat) (hR : rBk 0 P h) (hb : fB P) (hm : (m : Int) < P 0 3) (k : ∀ g : zH, (∀ a b, a ≠ 130 → g a b = h a b) → Q (g, some (0, cwC P m))) : vP D T N 210 0 h [some (2, 121), some (0, (m : Int))] [] Q := by
  obtain ⟨lb, _, _, hk⟩ := id hb
  obtain ⟨_, ⟨b6, g6⟩, ⟨b7, g7⟩, b8, c8⟩ := hk m hm
  have m6 : m < 6 := by have := lb.2.2.2.2; omega
  have l3 := lb.2.2.1.2
  refine vP_hv (fun hv => qr_cw0 hT hO hv hR hm m6 (hR.by hm) (hR.at hm) (hR.go hm) ?_)
  intros
  refine rx_wo hT hO (co := gCo P (P 8 m).toNat) (P 8 m) (P 6 m).toNat (P 7 m).toNat hR hb (by omega) (by omega) g6 g7 (fun q gq => ?_) (fun g d u hd _ => ?_)
  · have e1 : gCo P (P 8 m).toNat q = gSh P (P 8 m).toNat q := if_neg (by rw [gIx_y gq]; decide)
    have e2 : rC P (P 8 m) q = gSh P (P 8 m).toNat q := if_neg (by omega)
    rw [e1, e2]
  · have e : d (P 6 m).toNat = dW P (gCo P (P 8 m).toNat) (P 7 m).toNat (P 6 m).toNat := wD_uni g100_p hd dW_ok g6
    have w6 : wFar = 1000000 := rfl
    have bd := (dW_ok (P := P) (co := gCo P (P 8 m).toNat) (to := (P 7 m).toNat)).2.1.1 _ g6
    have ev : (if d (P 6 m).toNat = 1000000 then (1000000 : Int) else d (P 6 m).toNat / 100) = cwC P m := by
      unfold cwC mC yCost
      rw [e]
      by_cases c : dW P (gCo P (P 8 m).toNat) (P 7 m).toNat (P 6 m).toNat < wFar
      · rw [if_pos c, if_neg (by omega), if_neg (by omega)]
      · rw [if_neg c, if_pos rfl, if_pos (by omega)]
    rw [ev]
    exact vP_hv (fun hv => qr_cw34 hT hO _ hv (k g u))
def iwP (P : PT) (j q : Nat) : Prop := ∃ m : Nat, (m : Int) < P 0 3 ∧ P 8 m = (j : Int) ∧ (P 6 m = (q : Int) ∨ P 7 m = (q : Int))
theorem rx_iwL {D : zD} {T : zT} (hT : hTab T) (hO : vOK T) {N : Nat} {h : zH} {Q : zR → Prop} {P : PT} {j q : Nat} (hR : rBk 0 P h) (hb : fB P) (gq : gIn P q) (k1 : iwP P j q → Q (h, some (0, 1))) (k2 : ¬ iwP P j q → Q (h, some (0, 0))) : ∀ (r m : Nat), (m : Int) + (r : Int) = P 0 3 → (∀ n : Nat, n < m → ¬ (P 8 n = (j : Int) ∧ (P 6 n = (q : Int) ∨ P 7 n = (q : Int)))) → vP D T N 264 2 h [some (2, 121), some (0, (j : Int)), some (0, ((gJ P q : Nat) : Int)), some (0, (m : Int))] [] Q
  | 0, m, hm, hn => by
    refine vP_dn (vP_hv (fun hv => qr_iw9 hT hO hv hR.m (by omega) (k2 ?_)))
    rintro ⟨n, c1, c2⟩
    exact hn n (by omega) c2
  | r + 1, m, hm, hn => by
    have lb := hb.1
    have h3 : (m : Int) < P 0 3 := by omega
    obtain ⟨_, ⟨b6, g6⟩, ⟨b7, g7⟩, b8, c8⟩ := hb.2.2.2 m h3
    have m6 : m < 6 := by have := lb.2.2.2.2; omega
    have nx : ¬ (P 8 m = (j : Int) ∧ (P 6 m = (q : Int) ∨ P 7 m = (q : Int))) → vP D T N 264 2 h [some (2, 121), some (0, (j : Int)), some (0, ((gJ P q : Nat) : Int)), some (0, ((m + 1 : Nat) : Int))] [] Q := fun c => rx_iwL hT hO hR hb gq k1 k2 r (m + 1) (by omega) (fun n hn' => by
      by_cases e : n = m
      · rw [e]; exact c
      · exact hn n (by omega))
    refine vP_dn (vP_hv (fun hv => qr_iw2 hT hO hv hR h3 m6 (hR.by h3) (hR.at h3) (hR.go h3) (fun _ _ c1 _ _ c2 => k1 ⟨m, h3, c1, Or.inl ?_⟩) (fun _ _ c1 _ _ _ _ _ c2 => k1 ⟨m, h3, c1, Or.inr ?_⟩) (fun _ _ _ _ _ c1 _ _ c2 => nx ?_) (fun _ _ c1 => nx (fun d => c1 d.1))))
    · have := gJ_inj lb g6 gq (by omega)
      omega
    · have := gJ_inj lb g7 gq (by omega)
      omega
    · rintro ⟨_, d | d⟩
      · exact c1 (by rw [d, Int.toNat_natCast])
      · exact c2 (by rw [d, Int.toNat_natCast])
def ifP (P : PT) (j q : Nat) : Prop := P 3 (48 * j + q) ≠ 1 ∧ ¬ iwP P j q
theorem rx_if {D : zD} {T : zT} (hT : hTab T) (hO : vOK T) {N : Nat} {h : zH} {Q : zR → Prop} {P : PT} {j q : Nat} (hR : rBk 0 P h) (hb : fB P) (hj : j < 3) (gq : gIn P q) (k1 : ifP P j q → Q (h, some (0, 1))) (k2 : ¬ ifP P j q → Q (h, some (0, 0))) : vP D T N 251 0 h [some (2, 121), some (0, (j : Int)), some (0, ((gJ P q : Nat) : Int))] [] Q := by
  have l0 := hb.1.2.2.2.1
  refine vP_hv (fun hv => qr_if0 hT hO hv hR hb hj gq (gJ_lt hb.1 gq) (fun c => k2 (fun d => d.1 c)) (fun c => ?_))
  refine vP_hv (fun hv => qr_iw0 hT hO hv ?_)
  refine rx_iwL hT hO hR hb gq (fun d => ?_) (fun d => ?_) (P 0 3).toNat 0 (by omega) (fun n hn => absurd hn (Nat.not_lt_zero _))
  · exact vP_hv (fun hv => qr_if16_1 hT hO hv (k2 (fun f => f.2 d)))
  · exact vP_hv (fun hv => qr_if16_0 hT hO hv (k1 ⟨c, d⟩))
end
