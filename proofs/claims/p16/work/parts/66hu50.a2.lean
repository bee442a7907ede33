theorem qk_kd_39 {D : zD} {T : zT} (hT : hTab T) (hO : vOK T) {N : Nat} {h : zH} {Q : zR → Prop} {P : PT} {j q : Nat} (hv0 : zHv h) (hP : cP 39 P h) (hb : fB P) (hj : j < 3) (hq : q < 48)
    (k0 : ((P 3 (48 * j + q)) = 1) → Q (h, some (0, 5)))
    (k1 : ((P 3 (48 * j + q)) ≠ 1) → ((P 3 (48 * j + q)) = 2) → Q (h, some (0, 6)))
    (k2 : ((P 3 (48 * j + q)) ≠ 1) → ((P 3 (48 * j + q)) ≠ 2) → ((P 3 (48 * j + q)) = 3) → Q (h, some (0, 7)))
    (k3 : ((P 3 (48 * j + q)) ≠ 1) → ((P 3 (48 * j + q)) ≠ 2) → ((P 3 (48 * j + q)) ≠ 3) → (0 ≤ (q : Int)) → ((q : Int) < 48) → Q (h, some (0, (P 1 q)))) :
    vP D T N 54 0 h [some (2, 39), some (0, (j : Int)), some (0, (q : Int))] [] Q := by
  refine v_load (v := (2, 39)) (hz_X2_shownKind hT _ _ rfl) rfl rfl ?_
  refine v_load (v := (0, (j : Int))) (hz_X2_shownKind hT _ _ rfl) rfl rfl ?_
  refine v_load (v := (0, (q : Int))) (hz_X2_shownKind hT _ _ rfl) rfl rfl ?_
  refine v_call (w := 3) [some (2, 39), some (0, (j : Int)), some (0, (q : Int))] hO (hz_X2_shownKind hT _ _ rfl) rfl rfl (cb_st_39 hT hO ((j : Int)) ((q : Int)) j q rfl rfl (by omega) (by omega) hP.2.2.2.1 ?_)
  show vP D T N 54 6 h [some (2, 39), some (0, (j : Int)), some (0, (q : Int))] [(0, (P 3 (48 * j + q)))] _
  refine v_sw (hz_X2_shownKind hT _ _ rfl) ?_
  refine ⟨fun hc1 => ?_, fun hc1 => ?_⟩
  · have hc1 : (P 3 (48 * j + q)) = 1 := hc1
    refine v_push (5) (hz_X2_shownKind hT _ _ rfl) rfl ?_
    refine v_ret (hz_X2_shownKind hT _ _ rfl) (Or.inl rfl) ?_
    exact k0 hc1
  refine ⟨fun hc2 => ?_, fun hc2 => ?_⟩
  · have hc2 : (P 3 (48 * j + q)) = 2 := hc2
    refine v_push (6) (hz_X2_shownKind hT _ _ rfl) rfl ?_
    refine v_ret (hz_X2_shownKind hT _ _ rfl) (Or.inl rfl) ?_
    exact k1 hc1 hc2
  refine ⟨fun hc3 => ?_, fun hc3 => ?_⟩
  · have hc3 : (P 3 (48 * j + q)) = 3 := hc3
    refine v_push (7) (hz_X2_shownKind hT _ _ rfl) rfl ?_
    refine v_ret (hz_X2_shownKind hT _ _ rfl) (Or.inl rfl) ?_
    exact k2 hc1 hc2 hc3
  show vP _ _ _ _ _ _ _ _ _
  refine v_load (v := (2, 39)) (hz_X2_shownKind hT _ _ rfl) rfl rfl ?_
  refine v_getR (c := 40) (r := 39) (hz_X2_shownKind hT _ _ rfl) rfl rfl rfl ?_
  refine v_load (v := (0, (q : Int))) (hz_X2_shownKind hT _ _ rfl) rfl rfl ?_
  refine v_aldB (t := 0) (r := 40) (w := (P 1 q)) (hz_X2_shownKind hT _ _ rfl) rfl rfl rfl (fun _ _ => (congrArg Prod.snd (hP.2.1 q (by omega)))) (fun ha4 hb5 => ?_)
  refine v_ret (hz_X2_shownKind hT _ _ rfl) (Or.inl rfl) ?_
  exact k3 hc1 hc2 hc3 ha4 hb5
theorem qt_shows0_39 {D : zD} {T : zT} (hT : hTab T) (hO : vOK T) {N : Nat} {h : zH} {Q : zR → Prop} {P : PT} (x y z : Int) (hv0 : zHv h) (e7 : h 0 7 = (2, 39)) (p0 : h 39 0 = (0, P 0 0)) (p1 : h 39 1 = (0, P 0 1)) (p2 : h 39 2 = (0, P 0 2)) (p3 : h 39 3 = (0, P 0 3)) (lb : (0 ≤ P 0 0 ∧ P 0 0 ≤ 8) ∧ (0 ≤ P 0 1 ∧ P 0 1 ≤ 6) ∧ (0 ≤ P 0 2 ∧ P 0 2 ≤ 3) ∧ (0 ≤ P 0 3 ∧ P 0 3 ≤ 6))
    (k0 : (x < 0) → Q (zset h 0 0 (0, 2), some (0, -1)))
    (k1 : (0 ≤ x) → (x < (P 0 2)) → (y < 0) → Q (zset h 0 0 (0, 2), some (0, -1)))
    (k2 : (0 ≤ x) → (x < (P 0 2)) → (0 ≤ y) → (y < (P 0 0)) → (z < 0) → Q (zset h 0 0 (0, 2), some (0, -1)))
    (k3 : (0 ≤ x) → (x < (P 0 2)) → (0 ≤ y) → (y < (P 0 0)) → (0 ≤ z) → (z < (P 0 1)) → vP D T N 180 19 h [some (2, 0), some (0, x), some (0, y), some (0, z)] [] Q)
    (k4 : (0 ≤ x) → (x < (P 0 2)) → (0 ≤ y) → (y < (P 0 0)) → (0 ≤ z) → ((P 0 1) ≤ z) → Q (zset h 0 0 (0, 2), some (0, -1)))
    (k5 : (0 ≤ x) → (x < (P 0 2)) → (0 ≤ y) → ((P 0 0) ≤ y) → Q (zset h 0 0 (0, 2), some (0, -1)))
    (k6 : (0 ≤ x) → ((P 0 2) ≤ x) → Q (zset h 0 0 (0, 2), some (0, -1))) :
    vP D T N 180 0 h [some (2, 0), some (0, x), some (0, y), some (0, z)] [] Q := by
  refine v_load (v := (2, 0)) (hz_X11_shows hT _ _ rfl) rfl rfl ?_
  refine v_getf (v := (2, 39)) (r := 0) (hz_X11_shows hT _ _ rfl) rfl rfl (fun _ => e7) ?_
  refine v_load (v := (0, x)) (hz_X11_shows hT _ _ rfl) rfl rfl ?_
  refine v_load (v := (0, y)) (hz_X11_shows hT _ _ rfl) rfl rfl ?_
  refine v_load (v := (0, z)) (hz_X11_shows hT _ _ rfl) rfl rfl ?_
  refine v_call (w := 4) [some (2, 39), some (0, x), some (0, y), some (0, z)] hO (hz_X11_shows hT _ _ rfl) rfl rfl ?_
  refine v_load (v := (2, 39)) (hi_X2_hasCopyCell_0 hT) rfl rfl ?_
  refine v_load (v := (0, x)) (hi_X2_hasCopyCell_1 hT) rfl rfl ?_
  refine v_call (w := 2) [some (2, 39), some (0, x)] hO (hi_X2_hasCopyCell_2 hT) rfl rfl ?_
  refine v_load (v := (0, x)) (hi_X2_hasCopy_0 hT) rfl rfl ?_
  refine v_if (hi_X2_hasCopy_1 hT) (fun hc1 => ?_) (fun hc1 => ?_)
  · have hc1 : x < 0 := hc1
    refine v_push (0) (hi_X2_hasCopy_16 hT) rfl ?_
    refine v_ret (hi_X2_hasCopy_17 hT) (Or.inl rfl) ?_
    show vP D T N 44 5 h [some (2, 39), some (0, x), some (0, y), some (0, z)] [(0, 0)] _
    refine v_if (hi_X2_hasCopyCell_5 hT) (fun _ => ?_) (fun hc2 => absurd (show (0 : Int) = 0 from (by decide)) hc2)
    refine v_push (0) (hi_X2_hasCopyCell_21 hT) rfl ?_
    refine v_ret (hi_X2_hasCopyCell_22 hT) (Or.inl rfl) ?_
    show vP D T N 180 10 h [some (2, 0), some (0, x), some (0, y), some (0, z)] [(0, 0)] _
    refine v_if (hi_X11_shows_10 hT) (fun _ => ?_) (fun hc3 => absurd (show (0 : Int) = 0 from (by decide)) hc3)
    refine v_load (v := (2, 0)) (hi_X11_shows_13 hT) rfl rfl ?_
    refine v_push (2) (hi_X11_shows_14 hT) rfl ?_
    refine v_call (w := 2) [some (2, 0), some (0, 2)] hO (hi_X11_shows_15 hT) rfl rfl ?_
    refine v_load (v := (2, 0)) (hi_X11_refused_0 hT) rfl rfl ?_
    refine v_load (v := (0, 2)) (hi_X11_refused_1 hT) rfl rfl ?_
    refine v_putf (r := 0) hO (hi_X11_refused_2 hT) rfl (fun hf4 => ?_)
    refine v_push (-1) (hi_X11_refused_5 hT) rfl ?_
    refine v_ret (hi_X11_refused_6 hT) (Or.inl rfl) ?_
    show vP D T N 180 18 (zset h 0 0 (0, 2)) [some (2, 0), some (0, x), some (0, y), some (0, z)] [(0, -1)] _
    refine v_ret (hi_X11_shows_18 hT) (Or.inl rfl) ?_
    exact k0 hc1
  · have hc1 : 0 ≤ x := Int.not_lt.mp hc1
    refine v_load (v := (0, x)) (hi_X2_hasCopy_4 hT) rfl rfl ?_
    refine v_load (v := (2, 39)) (hi_X2_hasCopy_5 hT) rfl rfl ?_
    refine v_getf (v := (0, (P 0 2))) (r := 39) (hi_X2_hasCopy_6 hT) rfl rfl (fun _ => p2) ?_
    refine v_ic (hi_X2_hasCopy_9 hT) (fun hc5 => ?_) (fun hc5 => ?_)
    · have hc5 : x < (P 0 2) := hc5
      refine v_push (1) (hi_X2_hasCopy_12 hT) rfl ?_
      refine v_goto (hi_X2_hasCopy_13 hT) ?_
      refine v_ret (hi_X2_hasCopy_17 hT) (Or.inl rfl) ?_
      show vP D T N 44 5 h [some (2, 39), some (0, x), some (0, y), some (0, z)] [(0, 1)] _
      refine v_if (hi_X2_hasCopyCell_5 hT) (fun hc6 => absurd (show (1 : Int) = 0 from hc6) (by decide)) (fun _ => ?_)
      refine v_load (v := (2, 39)) (hi_X2_hasCopyCell_8 hT) rfl rfl ?_
      refine v_load (v := (0, y)) (hi_X2_hasCopyCell_9 hT) rfl rfl ?_
      refine v_load (v := (0, z)) (hi_X2_hasCopyCell_10 hT) rfl rfl ?_
      refine v_call (w := 3) [some (2, 39), some (0, y), some (0, z)] hO (hi_X2_hasCopyCell_11 hT) rfl rfl ?_
      refine v_load (v := (0, y)) (hi_X2_hasCell_0 hT) rfl rfl ?_
      refine v_if (hi_X2_hasCell_1 hT) (fun hc7 => ?_) (fun hc7 => ?_)
      · have hc7 : y < 0 := hc7
        refine v_push (0) (hi_X2_hasCell_28 hT) rfl ?_
        refine v_ret (hi_X2_hasCell_29 hT) (Or.inl rfl) ?_
        show vP D T N 44 14 h [some (2, 39), some (0, x), some (0, y), some (0, z)] [(0, 0)] _
        refine v_if (hi_X2_hasCopyCell_14 hT) (fun _ => ?_) (fun hc8 => absurd (show (0 : Int) = 0 from (by decide)) hc8)
        refine v_push (0) (hi_X2_hasCopyCell_21 hT) rfl ?_
        refine v_ret (hi_X2_hasCopyCell_22 hT) (Or.inl rfl) ?_
        show vP D T N 180 10 h [some (2, 0), some (0, x), some (0, y), some (0, z)] [(0, 0)] _
        refine v_if (hi_X11_shows_10 hT) (fun _ => ?_) (fun hc9 => absurd (show (0 : Int) = 0 from (by decide)) hc9)
        refine v_load (v := (2, 0)) (hi_X11_shows_13 hT) rfl rfl ?_
        refine v_push (2) (hi_X11_shows_14 hT) rfl ?_
        refine v_call (w := 2) [some (2, 0), some (0, 2)] hO (hi_X11_shows_15 hT) rfl rfl ?_
        refine v_load (v := (2, 0)) (hi_X11_refused_0 hT) rfl rfl ?_
        refine v_load (v := (0, 2)) (hi_X11_refused_1 hT) rfl rfl ?_
        refine v_putf (r := 0) hO (hi_X11_refused_2 hT) rfl (fun hf10 => ?_)
        refine v_push (-1) (hi_X11_refused_5 hT) rfl ?_
        refine v_ret (hi_X11_refused_6 hT) (Or.inl rfl) ?_
        show vP D T N 180 18 (zset h 0 0 (0, 2)) [some (2, 0), some (0, x), some (0, y), some (0, z)] [(0, -1)] _
        refine v_ret (hi_X11_shows_18 hT) (Or.inl rfl) ?_
        exact k1 hc1 hc5 hc7
      · have hc7 : 0 ≤ y := Int.not_lt.mp hc7
        refine v_load (v := (0, y)) (hi_X2_hasCell_4 hT) rfl rfl ?_
        refine v_load (v := (2, 39)) (hi_X2_hasCell_5 hT) rfl rfl ?_
        refine v_getf (v := (0, (P 0 0))) (r := 39) (hi_X2_hasCell_6 hT) rfl rfl (fun _ => p0) ?_
        refine v_ic (hi_X2_hasCell_9 hT) (fun hc11 => ?_) (fun hc11 => ?_)
        · have hc11 : y < (P 0 0) := hc11
          refine v_load (v := (0, z)) (hi_X2_hasCell_12 hT) rfl rfl ?_
          refine v_if (hi_X2_hasCell_13 hT) (fun hc12 => ?_) (fun hc12 => ?_)
          · have hc12 : z < 0 := hc12
            refine v_push (0) (hi_X2_hasCell_28 hT) rfl ?_
            refine v_ret (hi_X2_hasCell_29 hT) (Or.inl rfl) ?_
            show vP D T N 44 14 h [some (2, 39), some (0, x), some (0, y), some (0, z)] [(0, 0)] _
            refine v_if (hi_X2_hasCopyCell_14 hT) (fun _ => ?_) (fun hc13 => absurd (show (0 : Int) = 0 from (by decide)) hc13)
            refine v_push (0) (hi_X2_hasCopyCell_21 hT) rfl ?_
            refine v_ret (hi_X2_hasCopyCell_22 hT) (Or.inl rfl) ?_
            show vP D T N 180 10 h [some (2, 0), some (0, x), some (0, y), some (0, z)] [(0, 0)] _
            refine v_if (hi_X11_shows_10 hT) (fun _ => ?_) (fun hc14 => absurd (show (0 : Int) = 0 from (by decide)) hc14)
            refine v_load (v := (2, 0)) (hi_X11_shows_13 hT) rfl rfl ?_
            refine v_push (2) (hi_X11_shows_14 hT) rfl ?_
            refine v_call (w := 2) [some (2, 0), some (0, 2)] hO (hi_X11_shows_15 hT) rfl rfl ?_
            refine v_load (v := (2, 0)) (hi_X11_refused_0 hT) rfl rfl ?_
            refine v_load (v := (0, 2)) (hi_X11_refused_1 hT) rfl rfl ?_
            refine v_putf (r := 0) hO (hi_X11_refused_2 hT) rfl (fun hf15 => ?_)
            refine v_push (-1) (hi_X11_refused_5 hT) rfl ?_
            refine v_ret (hi_X11_refused_6 hT) (Or.inl rfl) ?_
            show vP D T N 180 18 (zset h 0 0 (0, 2)) [some (2, 0), some (0, x), some (0, y), some (0, z)] [(0, -1)] _
            refine v_ret (hi_X11_shows_18 hT) (Or.inl rfl) ?_
            exact k2 hc1 hc5 hc7 hc11 hc12
          · have hc12 : 0 ≤ z := Int.not_lt.mp hc12
            refine v_load (v := (0, z)) (hi_X2_hasCell_16 hT) rfl rfl ?_
            refine v_load (v := (2, 39)) (hi_X2_hasCell_17 hT) rfl rfl ?_
            refine v_getf (v := (0, (P 0 1))) (r := 39) (hi_X2_hasCell_18 hT) rfl rfl (fun _ => p1) ?_
            refine v_ic (hi_X2_hasCell_21 hT) (fun hc16 => ?_) (fun hc16 => ?_)
            · have hc16 : z < (P 0 1) := hc16
              refine v_push (1) (hi_X2_hasCell_24 hT) rfl ?_
              refine v_goto (hi_X2_hasCell_25 hT) ?_
              refine v_ret (hi_X2_hasCell_29 hT) (Or.inl rfl) ?_
              show vP D T N 44 14 h [some (2, 39), some (0, x), some (0, y), some (0, z)] [(0, 1)] _
              refine v_if (hi_X2_hasCopyCell_14 hT) (fun hc17 => absurd (show (1 : Int) = 0 from hc17) (by decide)) (fun _ => ?_)
              refine v_push (1) (hi_X2_hasCopyCell_17 hT) rfl ?_
              refine v_goto (hi_X2_hasCopyCell_18 hT) ?_
              refine v_ret (hi_X2_hasCopyCell_22 hT) (Or.inl rfl) ?_
              show vP D T N 180 10 h [some (2, 0), some (0, x), some (0, y), some (0, z)] [(0, 1)] _
              refine v_if (hi_X11_shows_10 hT) (fun hc18 => absurd (show (1 : Int) = 0 from hc18) (by decide)) (fun _ => ?_)
              exact k3 hc1 hc5 hc7 hc11 hc12 hc16
            · have hc16 : (P 0 1) ≤ z := Int.not_lt.mp hc16
              refine v_push (0) (hi_X2_hasCell_28 hT) rfl ?_
              refine v_ret (hi_X2_hasCell_29 hT) (Or.inl rfl) ?_
              show vP D T N 44 14 h [some (2, 39), some (0, x), some (0, y), some (0, z)] [(0, 0)] _
              refine v_if (hi_X2_hasCopyCell_14 hT) (fun _ => ?_) (fun hc19 => absurd (show (0 : Int) = 0 from (by decide)) hc19)
              refine v_push (0) (hi_X2_hasCopyCell_21 hT) rfl ?_
              refine v_ret (hi_X2_hasCopyCell_22 hT) (Or.inl rfl) ?_
              show vP D T N 180 10 h [some (2, 0), some (0, x), some (0, y), some (0, z)] [(0, 0)] _
              refine v_if (hi_X11_shows_10 hT) (fun _ => ?_) (fun hc20 => absurd (show (0 : Int) = 0 from (by decide)) hc20)
              refine v_load (v := (2, 0)) (hi_X11_shows_13 hT) rfl rfl ?_
              refine v_push (2) (hi_X11_shows_14 hT) rfl ?_
              refine v_call (w := 2) [some (2, 0), some (0, 2)] hO (hi_X11_shows_15 hT) rfl rfl ?_
              refine v_load (v := (2, 0)) (hi_X11_refused_0 hT) rfl rfl ?_
              refine v_load (v := (0, 2)) (hi_X11_refused_1 hT) rfl rfl ?_
              refine v_putf (r := 0) hO (hi_X11_refused_2 hT) rfl (fun hf21 => ?_)
              refine v_push (-1) (hi_X11_refused_5 hT) rfl ?_
              refine v_ret (hi_X11_refused_6 hT) (Or.inl rfl) ?_
              show vP D T N 180 18 (zset h 0 0 (0, 2)) [some (2, 0), some (0, x), some (0, y), some (0, z)] [(0, -1)] _
              refine v_ret (hi_X11_shows_18 hT) (Or.inl rfl) ?_
              exact k4 hc1 hc5 hc7 hc11 hc12 hc16
        · have hc11 : (P 0 0) ≤ y := Int.not_lt.mp hc11
          refine v_push (0) (hi_X2_hasCell_28 hT) rfl ?_
          refine v_ret (hi_X2_hasCell_29 hT) (Or.inl rfl) ?_
          show vP D T N 44 14 h [some (2, 39), some (0, x), some (0, y), some (0, z)] [(0, 0)] _
          refine v_if (hi_X2_hasCopyCell_14 hT) (fun _ => ?_) (fun hc22 => absurd (show (0 : Int) = 0 from (by decide)) hc22)
          refine v_push (0) (hi_X2_hasCopyCell_21 hT) rfl ?_
          refine v_ret (hi_X2_hasCopyCell_22 hT) (Or.inl rfl) ?_
          show vP D T N 180 10 h [some (2, 0), some (0, x), some (0, y), some (0, z)] [(0, 0)] _
          refine v_if (hi_X11_shows_10 hT) (fun _ => ?_) (fun hc23 => absurd (show (0 : Int) = 0 from (by decide)) hc23)
          refine v_load (v := (2, 0)) (hi_X11_shows_13 hT) rfl rfl ?_
          refine v_push (2) (hi_X11_shows_14 hT) rfl ?_
          refine v_call (w := 2) [some (2, 0), some (0, 2)] hO (hi_X11_shows_15 hT) rfl rfl ?_
          refine v_load (v := (2, 0)) (hi_X11_refused_0 hT) rfl rfl ?_
          refine v_load (v := (0, 2)) (hi_X11_refused_1 hT) rfl rfl ?_
          refine v_putf (r := 0) hO (hi_X11_refused_2 hT) rfl (fun hf24 => ?_)
          refine v_push (-1) (hi_X11_refused_5 hT) rfl ?_
          refine v_ret (hi_X11_refused_6 hT) (Or.inl rfl) ?_
          show vP D T N 180 18 (zset h 0 0 (0, 2)) [some (2, 0), some (0, x), some (0, y), some (0, z)] [(0, -1)] _
          refine v_ret (hi_X11_shows_18 hT) (Or.inl rfl) ?_
          exact k5 hc1 hc5 hc7 hc11
    · have hc5 : (P 0 2) ≤ x := Int.not_lt.mp hc5
      refine v_push (0) (hi_X2_hasCopy_16 hT) rfl ?_
      refine v_ret (hi_X2_hasCopy_17 hT) (Or.inl rfl) ?_
      show vP D T N 44 5 h [some (2, 39), some (0, x), some (0, y), some (0, z)] [(0, 0)] _
      refine v_if (hi_X2_hasCopyCell_5 hT) (fun _ => ?_) (fun hc25 => absurd (show (0 : Int) = 0 from (by decide)) hc25)
      refine v_push (0) (hi_X2_hasCopyCell_21 hT) rfl ?_
      refine v_ret (hi_X2_hasCopyCell_22 hT) (Or.inl rfl) ?_
      show vP D T N 180 10 h [some (2, 0), some (0, x), some (0, y), some (0, z)] [(0, 0)] _
      refine v_if (hi_X11_shows_10 hT) (fun _ => ?_) (fun hc26 => absurd (show (0 : Int) = 0 from (by decide)) hc26)
      refine v_load (v := (2, 0)) (hi_X11_shows_13 hT) rfl rfl ?_
      refine v_push (2) (hi_X11_shows_14 hT) rfl ?_
      refine v_call (w := 2) [some (2, 0), some (0, 2)] hO (hi_X11_shows_15 hT) rfl rfl ?_
      refine v_load (v := (2, 0)) (hi_X11_refused_0 hT) rfl rfl ?_
      refine v_load (v := (0, 2)) (hi_X11_refused_1 hT) rfl rfl ?_
      refine v_putf (r := 0) hO (hi_X11_refused_2 hT) rfl (fun hf27 => ?_)
      refine v_push (-1) (hi_X11_refused_5 hT) rfl ?_
      refine v_ret (hi_X11_refused_6 hT) (Or.inl rfl) ?_
      show vP D T N 180 18 (zset h 0 0 (0, 2)) [some (2, 0), some (0, x), some (0, y), some (0, z)] [(0, -1)] _
      refine v_ret (hi_X11_shows_18 hT) (Or.inl rfl) ?_
      exact k6 hc1 hc5
theorem qt_shows19_39 {D : zD} {T : zT} (hT : hTab T) (hO : vOK T) {N : Nat} {h : zH} {Q : zR → Prop} {j u v : Nat} (hv0 : zHv h) (e7 : h 0 7 = (2, 39)) (bu : u < 8) (bv : v < 6)
    (k0 : vP D T N 54 0 h [some (2, 39), some (0, (j : Int)), some (0, (((v : Int) * 8) + (u : Int)))] [] (fun r1 => vP D T N 180 33 r1.1 [some (2, 0), some (0, (j : Int)), some (0, (u : Int)), some (0, (v : Int))] (zpush r1.2 [(2, 0)]) Q)) :
    vP D T N 180 19 h [some (2, 0), some (0, (j : Int)), some (0, (u : Int)), some (0, (v : Int))] [] Q := by
  refine v_load (v := (2, 0)) (hz_X11_shows hT _ _ rfl) rfl rfl ?_
  refine v_load (v := (2, 0)) (hz_X11_shows hT _ _ rfl) rfl rfl ?_
  refine v_getf (v := (2, 39)) (r := 0) (hz_X11_shows hT _ _ rfl) rfl rfl (fun _ => e7) ?_
  refine v_load (v := (0, (j : Int))) (hz_X11_shows hT _ _ rfl) rfl rfl ?_
  refine v_load (v := (0, (u : Int))) (hz_X11_shows hT _ _ rfl) rfl rfl ?_
  refine v_load (v := (0, (v : Int))) (hz_X11_shows hT _ _ rfl) rfl rfl ?_
  refine v_call (w := 2) [some (0, (u : Int)), some (0, (v : Int))] hO (hz_X11_shows hT _ _ rfl) rfl rfl ?_
  refine v_load (v := (0, (v : Int))) (hi_X2_cellAt_0 hT) rfl rfl ?_
  refine v_push (8) (hi_X2_cellAt_1 hT) rfl ?_
  refine v_bin (w := ((v : Int) * 8)) (hi_X2_cellAt_3 hT) (hq_mul (by omega) (by omega)) ?_
  refine v_load (v := (0, (u : Int))) (hi_X2_cellAt_4 hT) rfl rfl ?_
  refine v_bin (w := (((v : Int) * 8) + (u : Int))) (hi_X2_cellAt_5 hT) (hq_add (by omega) (by omega)) ?_
  refine v_ret (hi_X2_cellAt_6 hT) (Or.inl rfl) ?_
  show vP D T N 180 30 h [some (2, 0), some (0, (j : Int)), some (0, (u : Int)), some (0, (v : Int))] [(0, (((v : Int) * 8) + (u : Int))), (0, (j : Int)), (2, 39), (2, 0)] _
  refine v_call (w := 3) [some (2, 39), some (0, (j : Int)), some (0, (((v : Int) * 8) + (u : Int)))] hO (hz_X11_shows hT _ _ rfl) rfl rfl ?_
  exact k0 
theorem cb_kd_39 {D : zD} {T : zT} (hT : hTab T) (hO : vOK T) {N : Nat} {h : zH} {Q : zR → Prop} {P : PT} (x y : Int) (j q : Nat) (ex : x = (j : Int)) (ey : y = (q : Int)) (hj : j < 3) (hq : q < 48) (hP : cP 39 P h) (hb : fB P) (k : Q (h, some (0, gKd P j q))) : vP D T N 54 0 h [some (2, 39), some (0, x), some (0, y)] [] Q := by
  subst ex ey
  refine vP_hv (fun hv => qk_kd_39 hT hO hv hP hb hj hq ?_ ?_ ?_ ?_)
  · intro c; exact cb_eq k (if_pos c)
  · intro c d; exact cb_eq k ((if_neg c).trans (if_pos d))
  · intro c d e; exact cb_eq k ((if_neg c).trans ((if_neg d).trans (if_pos e)))
  · intro c d e _ _; exact cb_eq k ((if_neg c).trans ((if_neg d).trans (if_neg e)))
section CA_39
variable {D : zD} {T : zT} {N : Nat} {h : zH} {P : PT}
theorem cq_shows_39 (hT : hTab T) (hO : vOK T) (hP : cP 39 P h) (hb : fB P) (e7 : h 0 7 = (2, 39)) (x y z : Int) : vP D T N 180 0 h [some (2, 0), some (0, x), some (0, y), some (0, z)] [] (fun r => r.2 = some (0, shV P x y z)) := by
  have lb := hb.1
  have l3 := lb.2.2.1.2
  have no : ¬ okC P x y z → (some ((0, -1) : zV)) = some (0, shV P x y z) := fun c => by
    unfold shV
    rw [if_neg c]
  refine vP_hv (fun hv => qt_shows0_39 (P := P) hT hO x y z hv e7 hP.1.1 hP.1.2.1 hP.1.2.2.1 hP.1.2.2.2.1 lb ?k0 ?k1 ?k2 ?k3 ?k4 ?k5 ?k6)
  case k3 =>
    intro c1 c2 c3 c4 c5 c6
    obtain ⟨j, rfl⟩ : ∃ j : Nat, x = (j : Int) := ⟨x.toNat, by omega⟩
    obtain ⟨u, rfl⟩ : ∃ u : Nat, y = (u : Int) := ⟨y.toNat, by omega⟩
    obtain ⟨v, rfl⟩ : ∃ v : Nat, z = (v : Int) := ⟨z.toNat, by omega⟩
    have w8 := lb.1.2
    have r6 := lb.2.1.2
    have e2 : shV P (j : Int) (u : Int) (v : Int) = gKd P j (8 * v + u) := if_pos ⟨c1, c2, c3, c4, c5, c6⟩
    rw [e2]
    refine vP_hv (fun hv => qt_shows19_39 hT hO hv e7 (by omega) (by omega) ?_)
    refine cb_kd_39 hT hO _ _ j (8 * v + u) rfl (by omega) (by omega) (by omega) hP hb ?_
    exact vP_hv (fun hv => qt_shows33 hT hO _ hv rfl)
  all_goals
    intros
    exact no (by rintro ⟨o1, o2, o3, o4, o5, o6⟩; omega)
end CA_39
