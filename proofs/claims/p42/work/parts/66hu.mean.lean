theorem qc_mean_24 {D : zD} {T : zT} (hT : hTab T) (hO : vOK T) {N : Nat} {h : zH} {Q : zR → Prop} {P : PT} (x y n : Int) (hv0 : zHv h) (e7 : h 0 7 = (2, 24)) (g0 : h 24 0 = (0, P 0 0)) (g1 : h 24 1 = (0, P 0 1)) (g2 : h 24 2 = (0, P 0 2)) (g3 : h 24 3 = (0, P 0 3)) (lb : (0 ≤ P 0 0 ∧ P 0 0 ≤ 8) ∧ (0 ≤ P 0 1 ∧ P 0 1 ≤ 6) ∧ (0 ≤ P 0 2 ∧ P 0 2 ≤ 3) ∧ (0 ≤ P 0 3 ∧ P 0 3 ≤ 6)) (hL : ∀ (N : Nat) (g : zH) (l : List (Option zV)), vP D T N 70 0 g l [] (fun r => rtK 2 r.2)) (hM : ∀ (N : Nat) (g : zH) (l : List (Option zV)), vP D T N 71 0 g l [] (fun r => rtK 2 r.2)) (hF : ∀ (N : Nat) (g : zH) (l : List (Option zV)), vP D T N 185 0 g l [] (fun r => rtK 0 r.2))
    (k0 : (x < 0) → Q (zset h 0 0 (0, 2), some (0, 0)))
    (k1 : (0 ≤ x) → (x < (P 0 0)) → (y < 0) → Q (zset h 0 0 (0, 2), some (0, 0)))
    (k2 : (0 ≤ x) → (x < (P 0 0)) → (0 ≤ y) → (y < (P 0 1)) → (n < 0) → Q (zset h 0 0 (0, 5), some (0, 0)))
    (k3 : (0 ≤ x) → (x < (P 0 0)) → (0 ≤ y) → (y < (P 0 1)) → (0 ≤ n) → (8 < n) → Q (zset h 0 0 (0, 5), some (0, 0)))
    (k4 : (0 ≤ x) → (x < (P 0 0)) → (0 ≤ y) → (y < (P 0 1)) → (0 ≤ n) → (n ≤ 8) → ∀ (g14 : zH) (z14 : Int), ∀ (g15 : zH) (z15 : Int), ∀ (g16 : zH), Q (zset g16 0 0 (0, 0), some (0, 1)))
    (k5 : (0 ≤ x) → (x < (P 0 0)) → (0 ≤ y) → ((P 0 1) ≤ y) → Q (zset h 0 0 (0, 2), some (0, 0)))
    (k6 : (0 ≤ x) → ((P 0 0) ≤ x) → Q (zset h 0 0 (0, 2), some (0, 0))) :
    vP D T N 166 0 h [some (2, 0), some (0, x), some (0, y), some (0, n)] [] Q := by
  refine v_load (v := (2, 0)) (hz_X11_mean hT _ _ rfl) rfl rfl ?_
  refine v_getf (v := (2, 24)) (r := 0) (hz_X11_mean hT _ _ rfl) rfl rfl (fun _ => e7) ?_
  refine v_load (v := (0, x)) (hz_X11_mean hT _ _ rfl) rfl rfl ?_
  refine v_load (v := (0, y)) (hz_X11_mean hT _ _ rfl) rfl rfl ?_
  refine v_call (w := 3) [some (2, 24), some (0, x), some (0, y)] hO (hz_X11_mean hT _ _ rfl) rfl rfl ?_
  refine v_load (v := (0, x)) (hz_X2_hasCell hT _ _ rfl) rfl rfl ?_
  refine v_if (hz_X2_hasCell hT _ _ rfl) (fun hc1 => ?_) (fun hc1 => ?_)
  · have hc1 : x < 0 := hc1
    refine v_push (0) (hz_X2_hasCell hT _ _ rfl) rfl ?_
    refine v_ret (hz_X2_hasCell hT _ _ rfl) (Or.inl rfl) ?_
    show vP D T N 166 9 h [some (2, 0), some (0, x), some (0, y), some (0, n)] [(0, 0)] _
    refine v_if (hz_X11_mean hT _ _ rfl) (fun _ => ?_) (fun hc2 => absurd (show (0 : Int) = 0 from (by omega)) hc2)
    refine v_load (v := (2, 0)) (hz_X11_mean hT _ _ rfl) rfl rfl ?_
    refine v_push (2) (hz_X11_mean hT _ _ rfl) rfl ?_
    refine v_call (w := 2) [some (2, 0), some (0, 2)] hO (hz_X11_mean hT _ _ rfl) rfl rfl ?_
    refine v_load (v := (2, 0)) (hz_X11_refuse hT _ _ rfl) rfl rfl ?_
    refine v_load (v := (0, 2)) (hz_X11_refuse hT _ _ rfl) rfl rfl ?_
    refine v_putf (r := 0) hO (hz_X11_refuse hT _ _ rfl) rfl (fun hf3 => ?_)
    refine v_push (0) (hz_X11_refuse hT _ _ rfl) rfl ?_
    refine v_ret (hz_X11_refuse hT _ _ rfl) (Or.inl rfl) ?_
    show vP D T N 166 17 (zset h 0 0 (0, 2)) [some (2, 0), some (0, x), some (0, y), some (0, n)] [(0, 0)] _
    refine v_ret (hz_X11_mean hT _ _ rfl) (Or.inl rfl) ?_
    exact k0 hc1
  · have hc1 : 0 ≤ x := Int.not_lt.mp hc1
    refine v_load (v := (0, x)) (hz_X2_hasCell hT _ _ rfl) rfl rfl ?_
    refine v_load (v := (2, 24)) (hz_X2_hasCell hT _ _ rfl) rfl rfl ?_
    refine v_getf (v := (0, (P 0 0))) (r := 24) (hz_X2_hasCell hT _ _ rfl) rfl rfl (fun _ => g0) ?_
    refine v_ic (hz_X2_hasCell hT _ _ rfl) (fun hc4 => ?_) (fun hc4 => ?_)
    · have hc4 : x < (P 0 0) := hc4
      refine v_load (v := (0, y)) (hz_X2_hasCell hT _ _ rfl) rfl rfl ?_
      refine v_if (hz_X2_hasCell hT _ _ rfl) (fun hc5 => ?_) (fun hc5 => ?_)
      · have hc5 : y < 0 := hc5
        refine v_push (0) (hz_X2_hasCell hT _ _ rfl) rfl ?_
        refine v_ret (hz_X2_hasCell hT _ _ rfl) (Or.inl rfl) ?_
        show vP D T N 166 9 h [some (2, 0), some (0, x), some (0, y), some (0, n)] [(0, 0)] _
        refine v_if (hz_X11_mean hT _ _ rfl) (fun _ => ?_) (fun hc6 => absurd (show (0 : Int) = 0 from (by omega)) hc6)
        refine v_load (v := (2, 0)) (hz_X11_mean hT _ _ rfl) rfl rfl ?_
        refine v_push (2) (hz_X11_mean hT _ _ rfl) rfl ?_
        refine v_call (w := 2) [some (2, 0), some (0, 2)] hO (hz_X11_mean hT _ _ rfl) rfl rfl ?_
        refine v_load (v := (2, 0)) (hz_X11_refuse hT _ _ rfl) rfl rfl ?_
        refine v_load (v := (0, 2)) (hz_X11_refuse hT _ _ rfl) rfl rfl ?_
        refine v_putf (r := 0) hO (hz_X11_refuse hT _ _ rfl) rfl (fun hf7 => ?_)
        refine v_push (0) (hz_X11_refuse hT _ _ rfl) rfl ?_
        refine v_ret (hz_X11_refuse hT _ _ rfl) (Or.inl rfl) ?_
        show vP D T N 166 17 (zset h 0 0 (0, 2)) [some (2, 0), some (0, x), some (0, y), some (0, n)] [(0, 0)] _
        refine v_ret (hz_X11_mean hT _ _ rfl) (Or.inl rfl) ?_
        exact k1 hc1 hc4 hc5
      · have hc5 : 0 ≤ y := Int.not_lt.mp hc5
        refine v_load (v := (0, y)) (hz_X2_hasCell hT _ _ rfl) rfl rfl ?_
        refine v_load (v := (2, 24)) (hz_X2_hasCell hT _ _ rfl) rfl rfl ?_
        refine v_getf (v := (0, (P 0 1))) (r := 24) (hz_X2_hasCell hT _ _ rfl) rfl rfl (fun _ => g1) ?_
        refine v_ic (hz_X2_hasCell hT _ _ rfl) (fun hc8 => ?_) (fun hc8 => ?_)
        · have hc8 : y < (P 0 1) := hc8
          refine v_push (1) (hz_X2_hasCell hT _ _ rfl) rfl ?_
          refine v_goto (hz_X2_hasCell hT _ _ rfl) ?_
          refine v_ret (hz_X2_hasCell hT _ _ rfl) (Or.inl rfl) ?_
          show vP D T N 166 9 h [some (2, 0), some (0, x), some (0, y), some (0, n)] [(0, 1)] _
          refine v_if (hz_X11_mean hT _ _ rfl) (fun hc9 => absurd (show (1 : Int) = 0 from hc9) (by omega)) (fun _ => ?_)
          refine v_load (v := (0, n)) (hz_X11_mean hT _ _ rfl) rfl rfl ?_
          refine v_if (hz_X11_mean hT _ _ rfl) (fun hc10 => ?_) (fun hc10 => ?_)
          · have hc10 : n < 0 := hc10
            refine v_load (v := (2, 0)) (hz_X11_mean hT _ _ rfl) rfl rfl ?_
            refine v_push (5) (hz_X11_mean hT _ _ rfl) rfl ?_
            refine v_call (w := 2) [some (2, 0), some (0, 5)] hO (hz_X11_mean hT _ _ rfl) rfl rfl ?_
            refine v_load (v := (2, 0)) (hz_X11_refuse hT _ _ rfl) rfl rfl ?_
            refine v_load (v := (0, 5)) (hz_X11_refuse hT _ _ rfl) rfl rfl ?_
            refine v_putf (r := 0) hO (hz_X11_refuse hT _ _ rfl) rfl (fun hf11 => ?_)
            refine v_push (0) (hz_X11_refuse hT _ _ rfl) rfl ?_
            refine v_ret (hz_X11_refuse hT _ _ rfl) (Or.inl rfl) ?_
            show vP D T N 166 33 (zset h 0 0 (0, 5)) [some (2, 0), some (0, x), some (0, y), some (0, n)] [(0, 0)] _
            refine v_ret (hz_X11_mean hT _ _ rfl) (Or.inl rfl) ?_
            exact k2 hc1 hc4 hc5 hc8 hc10
          · have hc10 : 0 ≤ n := Int.not_lt.mp hc10
            refine v_load (v := (0, n)) (hz_X11_mean hT _ _ rfl) rfl rfl ?_
            refine v_push (8) (hz_X11_mean hT _ _ rfl) rfl ?_
            refine v_ic (hz_X11_mean hT _ _ rfl) (fun hc12 => ?_) (fun hc12 => ?_)
            · have hc12 : 8 < n := hc12
              refine v_load (v := (2, 0)) (hz_X11_mean hT _ _ rfl) rfl rfl ?_
              refine v_push (5) (hz_X11_mean hT _ _ rfl) rfl ?_
              refine v_call (w := 2) [some (2, 0), some (0, 5)] hO (hz_X11_mean hT _ _ rfl) rfl rfl ?_
              refine v_load (v := (2, 0)) (hz_X11_refuse hT _ _ rfl) rfl rfl ?_
              refine v_load (v := (0, 5)) (hz_X11_refuse hT _ _ rfl) rfl rfl ?_
              refine v_putf (r := 0) hO (hz_X11_refuse hT _ _ rfl) rfl (fun hf13 => ?_)
              refine v_push (0) (hz_X11_refuse hT _ _ rfl) rfl ?_
              refine v_ret (hz_X11_refuse hT _ _ rfl) (Or.inl rfl) ?_
              show vP D T N 166 33 (zset h 0 0 (0, 5)) [some (2, 0), some (0, x), some (0, y), some (0, n)] [(0, 0)] _
              refine v_ret (hz_X11_mean hT _ _ rfl) (Or.inl rfl) ?_
              exact k3 hc1 hc4 hc5 hc8 hc10 hc12
            · have hc12 : n ≤ 8 := Int.not_lt.mp hc12
              refine v_load (v := (2, 0)) (hz_X11_mean hT _ _ rfl) rfl rfl ?_
              refine v_load (v := (2, 0)) (hz_X11_mean hT _ _ rfl) rfl rfl ?_
              refine v_getR (c := 114) (r := 0) (hz_X11_mean hT _ _ rfl) rfl rfl rfl ?_
              refine v_load (v := (2, 0)) (hz_X11_mean hT _ _ rfl) rfl rfl ?_
              refine v_getf (v := (2, 24)) (r := 0) (hz_X11_mean hT _ _ rfl) rfl rfl (fun _ => e7) ?_
              refine v_load (v := (0, x)) (hz_X11_mean hT _ _ rfl) rfl rfl ?_
              refine v_load (v := (0, y)) (hz_X11_mean hT _ _ rfl) rfl rfl ?_
              refine v_call (w := 2) [some (0, x), some (0, y)] hO (hz_X11_mean hT _ _ rfl) rfl rfl ?_
              refine v_load (v := (0, y)) (hz_X2_cellAt hT _ _ rfl) rfl rfl ?_
              refine v_push (8) (hz_X2_cellAt hT _ _ rfl) rfl ?_
              refine v_bin (w := (y * 8)) (hz_X2_cellAt hT _ _ rfl) (hq_mul (by omega) (by omega)) ?_
              refine v_load (v := (0, x)) (hz_X2_cellAt hT _ _ rfl) rfl rfl ?_
              refine v_bin (w := ((y * 8) + x)) (hz_X2_cellAt hT _ _ rfl) (hq_add (by omega) (by omega)) ?_
              refine v_ret (hz_X2_cellAt hT _ _ rfl) (Or.inl rfl) ?_
              show vP D T N 166 48 h [some (2, 0), some (0, x), some (0, y), some (0, n)] [(0, ((y * 8) + x)), (2, 24), (2, 114), (2, 0)] _
              refine v_load (v := (0, n)) (hz_X11_mean hT _ _ rfl) rfl rfl ?_
              refine v_call (w := 7) [some (2, 114), some (2, 24), some (0, ((y * 8) + x)), some (0, n), none, none, none] hO (hz_X11_mean hT _ _ rfl) rfl rfl (vK2_k (hM _ _ _) (fun g14 z14 => ?_))
              · show vP D T N 166 52 g14 [some (2, 0), some (0, x), some (0, y), some (0, n)] [(1, z14), (2, 0)] _
                refine vP_hv (fun hv14 => ?_)
                refine v_load (v := (0, n)) (hz_X11_mean hT _ _ rfl) rfl rfl ?_
                refine v_call (w := 1) [some (0, n)] hO (hz_X11_mean hT _ _ rfl) rfl rfl (vK2_k (hL _ _ _) (fun g15 z15 => ?_))
                · show vP D T N 166 56 g15 [some (2, 0), some (0, x), some (0, y), some (0, n)] [(1, z15), (1, z14), (2, 0)] _
                  refine vP_hv (fun hv15 => ?_)
                  refine v_call (w := 7) [some (2, 0), some (1, z14), none, some (1, z15), none, none, none] hO (hz_X11_mean hT _ _ rfl) rfl rfl (vK0_k (hF _ _ _) (fun g16 => ?_))
                  · show vP D T N 166 59 g16 [some (2, 0), some (0, x), some (0, y), some (0, n)] [] _
                    refine vP_hv (fun hv16 => ?_)
                    refine v_load (v := (2, 0)) (hz_X11_mean hT _ _ rfl) rfl rfl ?_
                    refine v_call (w := 1) [some (2, 0)] hO (hz_X11_mean hT _ _ rfl) rfl rfl ?_
                    refine v_load (v := (2, 0)) (hz_X11_accept hT _ _ rfl) rfl rfl ?_
                    refine v_push (0) (hz_X11_accept hT _ _ rfl) rfl ?_
                    refine v_putf (r := 0) hO (hz_X11_accept hT _ _ rfl) rfl (fun hf17 => ?_)
                    refine v_push (1) (hz_X11_accept hT _ _ rfl) rfl ?_
                    refine v_ret (hz_X11_accept hT _ _ rfl) (Or.inl rfl) ?_
                    show vP D T N 166 63 (zset g16 0 0 (0, 0)) [some (2, 0), some (0, x), some (0, y), some (0, n)] [(0, 1)] _
                    refine v_ret (hz_X11_mean hT _ _ rfl) (Or.inl rfl) ?_
                    exact k4 hc1 hc4 hc5 hc8 hc10 hc12 g14 z14 g15 z15 g16
        · have hc8 : (P 0 1) ≤ y := Int.not_lt.mp hc8
          refine v_push (0) (hz_X2_hasCell hT _ _ rfl) rfl ?_
          refine v_ret (hz_X2_hasCell hT _ _ rfl) (Or.inl rfl) ?_
          show vP D T N 166 9 h [some (2, 0), some (0, x), some (0, y), some (0, n)] [(0, 0)] _
          refine v_if (hz_X11_mean hT _ _ rfl) (fun _ => ?_) (fun hc18 => absurd (show (0 : Int) = 0 from (by omega)) hc18)
          refine v_load (v := (2, 0)) (hz_X11_mean hT _ _ rfl) rfl rfl ?_
          refine v_push (2) (hz_X11_mean hT _ _ rfl) rfl ?_
          refine v_call (w := 2) [some (2, 0), some (0, 2)] hO (hz_X11_mean hT _ _ rfl) rfl rfl ?_
          refine v_load (v := (2, 0)) (hz_X11_refuse hT _ _ rfl) rfl rfl ?_
          refine v_load (v := (0, 2)) (hz_X11_refuse hT _ _ rfl) rfl rfl ?_
          refine v_putf (r := 0) hO (hz_X11_refuse hT _ _ rfl) rfl (fun hf19 => ?_)
          refine v_push (0) (hz_X11_refuse hT _ _ rfl) rfl ?_
          refine v_ret (hz_X11_refuse hT _ _ rfl) (Or.inl rfl) ?_
          show vP D T N 166 17 (zset h 0 0 (0, 2)) [some (2, 0), some (0, x), some (0, y), some (0, n)] [(0, 0)] _
          refine v_ret (hz_X11_mean hT _ _ rfl) (Or.inl rfl) ?_
          exact k5 hc1 hc4 hc5 hc8
    · have hc4 : (P 0 0) ≤ x := Int.not_lt.mp hc4
      refine v_push (0) (hz_X2_hasCell hT _ _ rfl) rfl ?_
      refine v_ret (hz_X2_hasCell hT _ _ rfl) (Or.inl rfl) ?_
      show vP D T N 166 9 h [some (2, 0), some (0, x), some (0, y), some (0, n)] [(0, 0)] _
      refine v_if (hz_X11_mean hT _ _ rfl) (fun _ => ?_) (fun hc20 => absurd (show (0 : Int) = 0 from (by omega)) hc20)
      refine v_load (v := (2, 0)) (hz_X11_mean hT _ _ rfl) rfl rfl ?_
      refine v_push (2) (hz_X11_mean hT _ _ rfl) rfl ?_
      refine v_call (w := 2) [some (2, 0), some (0, 2)] hO (hz_X11_mean hT _ _ rfl) rfl rfl ?_
      refine v_load (v := (2, 0)) (hz_X11_refuse hT _ _ rfl) rfl rfl ?_
      refine v_load (v := (0, 2)) (hz_X11_refuse hT _ _ rfl) rfl rfl ?_
      refine v_putf (r := 0) hO (hz_X11_refuse hT _ _ rfl) rfl (fun hf21 => ?_)
      refine v_push (0) (hz_X11_refuse hT _ _ rfl) rfl ?_
      refine v_ret (hz_X11_refuse hT _ _ rfl) (Or.inl rfl) ?_
      show vP D T N 166 17 (zset h 0 0 (0, 2)) [some (2, 0), some (0, x), some (0, y), some (0, n)] [(0, 0)] _
      refine v_ret (hz_X11_mean hT _ _ rfl) (Or.inl rfl) ?_
      exact k6 hc1 hc4
theorem qc_mean_39 {D : zD} {T : zT} (hT : hTab T) (hO : vOK T) {N : Nat} {h : zH} {Q : zR → Prop} {P : PT} (x y n : Int) (hv0 : zHv h) (e7 : h 0 7 = (2, 39)) (g0 : h 39 0 = (0, P 0 0)) (g1 : h 39 1 = (0, P 0 1)) (g2 : h 39 2 = (0, P 0 2)) (g3 : h 39 3 = (0, P 0 3)) (lb : (0 ≤ P 0 0 ∧ P 0 0 ≤ 8) ∧ (0 ≤ P 0 1 ∧ P 0 1 ≤ 6) ∧ (0 ≤ P 0 2 ∧ P 0 2 ≤ 3) ∧ (0 ≤ P 0 3 ∧ P 0 3 ≤ 6)) (hL : ∀ (N : Nat) (g : zH) (l : List (Option zV)), vP D T N 70 0 g l [] (fun r => rtK 2 r.2)) (hM : ∀ (N : Nat) (g : zH) (l : List (Option zV)), vP D T N 71 0 g l [] (fun r => rtK 2 r.2)) (hF : ∀ (N : Nat) (g : zH) (l : List (Option zV)), vP D T N 185 0 g l [] (fun r => rtK 0 r.2))
    (k0 : (x < 0) → Q (zset h 0 0 (0, 2), some (0, 0)))
    (k1 : (0 ≤ x) → (x < (P 0 0)) → (y < 0) → Q (zset h 0 0 (0, 2), some (0, 0)))
    (k2 : (0 ≤ x) → (x < (P 0 0)) → (0 ≤ y) → (y < (P 0 1)) → (n < 0) → Q (zset h 0 0 (0, 5), some (0, 0)))
    (k3 : (0 ≤ x) → (x < (P 0 0)) → (0 ≤ y) → (y < (P 0 1)) → (0 ≤ n) → (8 < n) → Q (zset h 0 0 (0, 5), some (0, 0)))
    (k4 : (0 ≤ x) → (x < (P 0 0)) → (0 ≤ y) → (y < (P 0 1)) → (0 ≤ n) → (n ≤ 8) → ∀ (g14 : zH) (z14 : Int), ∀ (g15 : zH) (z15 : Int), ∀ (g16 : zH), Q (zset g16 0 0 (0, 0), some (0, 1)))
    (k5 : (0 ≤ x) → (x < (P 0 0)) → (0 ≤ y) → ((P 0 1) ≤ y) → Q (zset h 0 0 (0, 2), some (0, 0)))
    (k6 : (0 ≤ x) → ((P 0 0) ≤ x) → Q (zset h 0 0 (0, 2), some (0, 0))) :
    vP D T N 166 0 h [some (2, 0), some (0, x), some (0, y), some (0, n)] [] Q := by
  refine v_load (v := (2, 0)) (hz_X11_mean hT _ _ rfl) rfl rfl ?_
  refine v_getf (v := (2, 39)) (r := 0) (hz_X11_mean hT _ _ rfl) rfl rfl (fun _ => e7) ?_
  refine v_load (v := (0, x)) (hz_X11_mean hT _ _ rfl) rfl rfl ?_
  refine v_load (v := (0, y)) (hz_X11_mean hT _ _ rfl) rfl rfl ?_
  refine v_call (w := 3) [some (2, 39), some (0, x), some (0, y)] hO (hz_X11_mean hT _ _ rfl) rfl rfl ?_
  refine v_load (v := (0, x)) (hz_X2_hasCell hT _ _ rfl) rfl rfl ?_
  refine v_if (hz_X2_hasCell hT _ _ rfl) (fun hc1 => ?_) (fun hc1 => ?_)
  · have hc1 : x < 0 := hc1
    refine v_push (0) (hz_X2_hasCell hT _ _ rfl) rfl ?_
    refine v_ret (hz_X2_hasCell hT _ _ rfl) (Or.inl rfl) ?_
    show vP D T N 166 9 h [some (2, 0), some (0, x), some (0, y), some (0, n)] [(0, 0)] _
    refine v_if (hz_X11_mean hT _ _ rfl) (fun _ => ?_) (fun hc2 => absurd (show (0 : Int) = 0 from (by omega)) hc2)
    refine v_load (v := (2, 0)) (hz_X11_mean hT _ _ rfl) rfl rfl ?_
    refine v_push (2) (hz_X11_mean hT _ _ rfl) rfl ?_
    refine v_call (w := 2) [some (2, 0), some (0, 2)] hO (hz_X11_mean hT _ _ rfl) rfl rfl ?_
    refine v_load (v := (2, 0)) (hz_X11_refuse hT _ _ rfl) rfl rfl ?_
    refine v_load (v := (0, 2)) (hz_X11_refuse hT _ _ rfl) rfl rfl ?_
    refine v_putf (r := 0) hO (hz_X11_refuse hT _ _ rfl) rfl (fun hf3 => ?_)
    refine v_push (0) (hz_X11_refuse hT _ _ rfl) rfl ?_
    refine v_ret (hz_X11_refuse hT _ _ rfl) (Or.inl rfl) ?_
    show vP D T N 166 17 (zset h 0 0 (0, 2)) [some (2, 0), some (0, x), some (0, y), some (0, n)] [(0, 0)] _
    refine v_ret (hz_X11_mean hT _ _ rfl) (Or.inl rfl) ?_
    exact k0 hc1
  · have hc1 : 0 ≤ x := Int.not_lt.mp hc1
    refine v_load (v := (0, x)) (hz_X2_hasCell hT _ _ rfl) rfl rfl ?_
    refine v_load (v := (2, 39)) (hz_X2_hasCell hT _ _ rfl) rfl rfl ?_
    refine v_getf (v := (0, (P 0 0))) (r := 39) (hz_X2_hasCell hT _ _ rfl) rfl rfl (fun _ => g0) ?_
    refine v_ic (hz_X2_hasCell hT _ _ rfl) (fun hc4 => ?_) (fun hc4 => ?_)
    · have hc4 : x < (P 0 0) := hc4
      refine v_load (v := (0, y)) (hz_X2_hasCell hT _ _ rfl) rfl rfl ?_
      refine v_if (hz_X2_hasCell hT _ _ rfl) (fun hc5 => ?_) (fun hc5 => ?_)
      · have hc5 : y < 0 := hc5
        refine v_push (0) (hz_X2_hasCell hT _ _ rfl) rfl ?_
        refine v_ret (hz_X2_hasCell hT _ _ rfl) (Or.inl rfl) ?_
        show vP D T N 166 9 h [some (2, 0), some (0, x), some (0, y), some (0, n)] [(0, 0)] _
        refine v_if (hz_X11_mean hT _ _ rfl) (fun _ => ?_) (fun hc6 => absurd (show (0 : Int) = 0 from (by omega)) hc6)
        refine v_load (v := (2, 0)) (hz_X11_mean hT _ _ rfl) rfl rfl ?_
        refine v_push (2) (hz_X11_mean hT _ _ rfl) rfl ?_
        refine v_call (w := 2) [some (2, 0), some (0, 2)] hO (hz_X11_mean hT _ _ rfl) rfl rfl ?_
        refine v_load (v := (2, 0)) (hz_X11_refuse hT _ _ rfl) rfl rfl ?_
        refine v_load (v := (0, 2)) (hz_X11_refuse hT _ _ rfl) rfl rfl ?_
        refine v_putf (r := 0) hO (hz_X11_refuse hT _ _ rfl) rfl (fun hf7 => ?_)
        refine v_push (0) (hz_X11_refuse hT _ _ rfl) rfl ?_
        refine v_ret (hz_X11_refuse hT _ _ rfl) (Or.inl rfl) ?_
        show vP D T N 166 17 (zset h 0 0 (0, 2)) [some (2, 0), some (0, x), some (0, y), some (0, n)] [(0, 0)] _
        refine v_ret (hz_X11_mean hT _ _ rfl) (Or.inl rfl) ?_
        exact k1 hc1 hc4 hc5
      · have hc5 : 0 ≤ y := Int.not_lt.mp hc5
        refine v_load (v := (0, y)) (hz_X2_hasCell hT _ _ rfl) rfl rfl ?_
        refine v_load (v := (2, 39)) (hz_X2_hasCell hT _ _ rfl) rfl rfl ?_
        refine v_getf (v := (0, (P 0 1))) (r := 39) (hz_X2_hasCell hT _ _ rfl) rfl rfl (fun _ => g1) ?_
        refine v_ic (hz_X2_hasCell hT _ _ rfl) (fun hc8 => ?_) (fun hc8 => ?_)
        · have hc8 : y < (P 0 1) := hc8
          refine v_push (1) (hz_X2_hasCell hT _ _ rfl) rfl ?_
          refine v_goto (hz_X2_hasCell hT _ _ rfl) ?_
          refine v_ret (hz_X2_hasCell hT _ _ rfl) (Or.inl rfl) ?_
          show vP D T N 166 9 h [some (2, 0), some (0, x), some (0, y), some (0, n)] [(0, 1)] _
          refine v_if (hz_X11_mean hT _ _ rfl) (fun hc9 => absurd (show (1 : Int) = 0 from hc9) (by omega)) (fun _ => ?_)
          refine v_load (v := (0, n)) (hz_X11_mean hT _ _ rfl) rfl rfl ?_
          refine v_if (hz_X11_mean hT _ _ rfl) (fun hc10 => ?_) (fun hc10 => ?_)
          · have hc10 : n < 0 := hc10
            refine v_load (v := (2, 0)) (hz_X11_mean hT _ _ rfl) rfl rfl ?_
            refine v_push (5) (hz_X11_mean hT _ _ rfl) rfl ?_
            refine v_call (w := 2) [some (2, 0), some (0, 5)] hO (hz_X11_mean hT _ _ rfl) rfl rfl ?_
            refine v_load (v := (2, 0)) (hz_X11_refuse hT _ _ rfl) rfl rfl ?_
            refine v_load (v := (0, 5)) (hz_X11_refuse hT _ _ rfl) rfl rfl ?_
            refine v_putf (r := 0) hO (hz_X11_refuse hT _ _ rfl) rfl (fun hf11 => ?_)
            refine v_push (0) (hz_X11_refuse hT _ _ rfl) rfl ?_
            refine v_ret (hz_X11_refuse hT _ _ rfl) (Or.inl rfl) ?_
            show vP D T N 166 33 (zset h 0 0 (0, 5)) [some (2, 0), some (0, x), some (0, y), some (0, n)] [(0, 0)] _
            refine v_ret (hz_X11_mean hT _ _ rfl) (Or.inl rfl) ?_
            exact k2 hc1 hc4 hc5 hc8 hc10
          · have hc10 : 0 ≤ n := Int.not_lt.mp hc10
            refine v_load (v := (0, n)) (hz_X11_mean hT _ _ rfl) rfl rfl ?_
            refine v_push (8) (hz_X11_mean hT _ _ rfl) rfl ?_
            refine v_ic (hz_X11_mean hT _ _ rfl) (fun hc12 => ?_) (fun hc12 => ?_)
            · have hc12 : 8 < n := hc12
              refine v_load (v := (2, 0)) (hz_X11_mean hT _ _ rfl) rfl rfl ?_
              refine v_push (5) (hz_X11_mean hT _ _ rfl) rfl ?_
              refine v_call (w := 2) [some (2, 0), some (0, 5)] hO (hz_X11_mean hT _ _ rfl) rfl rfl ?_
              refine v_load (v := (2, 0)) (hz_X11_refuse hT _ _ rfl) rfl rfl ?_
              refine v_load (v := (0, 5)) (hz_X11_refuse hT _ _ rfl) rfl rfl ?_
              refine v_putf (r := 0) hO (hz_X11_refuse hT _ _ rfl) rfl (fun hf13 => ?_)
              refine v_push (0) (hz_X11_refuse hT _ _ rfl) rfl ?_
              refine v_ret (hz_X11_refuse hT _ _ rfl) (Or.inl rfl) ?_
              show vP D T N 166 33 (zset h 0 0 (0, 5)) [some (2, 0), some (0, x), some (0, y), some (0, n)] [(0, 0)] _
              refine v_ret (hz_X11_mean hT _ _ rfl) (Or.inl rfl) ?_
              exact k3 hc1 hc4 hc5 hc8 hc10 hc12
            · have hc12 : n ≤ 8 := Int.not_lt.mp hc12
              refine v_load (v := (2, 0)) (hz_X11_mean hT _ _ rfl) rfl rfl ?_
              refine v_load (v := (2, 0)) (hz_X11_mean hT _ _ rfl) rfl rfl ?_
              refine v_getR (c := 114) (r := 0) (hz_X11_mean hT _ _ rfl) rfl rfl rfl ?_
              refine v_load (v := (2, 0)) (hz_X11_mean hT _ _ rfl) rfl rfl ?_
              refine v_getf (v := (2, 39)) (r := 0) (hz_X11_mean hT _ _ rfl) rfl rfl (fun _ => e7) ?_
              refine v_load (v := (0, x)) (hz_X11_mean hT _ _ rfl) rfl rfl ?_
              refine v_load (v := (0, y)) (hz_X11_mean hT _ _ rfl) rfl rfl ?_
              refine v_call (w := 2) [some (0, x), some (0, y)] hO (hz_X11_mean hT _ _ rfl) rfl rfl ?_
              refine v_load (v := (0, y)) (hz_X2_cellAt hT _ _ rfl) rfl rfl ?_
              refine v_push (8) (hz_X2_cellAt hT _ _ rfl) rfl ?_
              refine v_bin (w := (y * 8)) (hz_X2_cellAt hT _ _ rfl) (hq_mul (by omega) (by omega)) ?_
              refine v_load (v := (0, x)) (hz_X2_cellAt hT _ _ rfl) rfl rfl ?_
              refine v_bin (w := ((y * 8) + x)) (hz_X2_cellAt hT _ _ rfl) (hq_add (by omega) (by omega)) ?_
              refine v_ret (hz_X2_cellAt hT _ _ rfl) (Or.inl rfl) ?_
              show vP D T N 166 48 h [some (2, 0), some (0, x), some (0, y), some (0, n)] [(0, ((y * 8) + x)), (2, 39), (2, 114), (2, 0)] _
              refine v_load (v := (0, n)) (hz_X11_mean hT _ _ rfl) rfl rfl ?_
              refine v_call (w := 7) [some (2, 114), some (2, 39), some (0, ((y * 8) + x)), some (0, n), none, none, none] hO (hz_X11_mean hT _ _ rfl) rfl rfl (vK2_k (hM _ _ _) (fun g14 z14 => ?_))
              · show vP D T N 166 52 g14 [some (2, 0), some (0, x), some (0, y), some (0, n)] [(1, z14), (2, 0)] _
                refine vP_hv (fun hv14 => ?_)
                refine v_load (v := (0, n)) (hz_X11_mean hT _ _ rfl) rfl rfl ?_
                refine v_call (w := 1) [some (0, n)] hO (hz_X11_mean hT _ _ rfl) rfl rfl (vK2_k (hL _ _ _) (fun g15 z15 => ?_))
                · show vP D T N 166 56 g15 [some (2, 0), some (0, x), some (0, y), some (0, n)] [(1, z15), (1, z14), (2, 0)] _
                  refine vP_hv (fun hv15 => ?_)
                  refine v_call (w := 7) [some (2, 0), some (1, z14), none, some (1, z15), none, none, none] hO (hz_X11_mean hT _ _ rfl) rfl rfl (vK0_k (hF _ _ _) (fun g16 => ?_))
                  · show vP D T N 166 59 g16 [some (2, 0), some (0, x), some (0, y), some (0, n)] [] _
                    refine vP_hv (fun hv16 => ?_)
                    refine v_load (v := (2, 0)) (hz_X11_mean hT _ _ rfl) rfl rfl ?_
                    refine v_call (w := 1) [some (2, 0)] hO (hz_X11_mean hT _ _ rfl) rfl rfl ?_
                    refine v_load (v := (2, 0)) (hz_X11_accept hT _ _ rfl) rfl rfl ?_
                    refine v_push (0) (hz_X11_accept hT _ _ rfl) rfl ?_
                    refine v_putf (r := 0) hO (hz_X11_accept hT _ _ rfl) rfl (fun hf17 => ?_)
                    refine v_push (1) (hz_X11_accept hT _ _ rfl) rfl ?_
                    refine v_ret (hz_X11_accept hT _ _ rfl) (Or.inl rfl) ?_
                    show vP D T N 166 63 (zset g16 0 0 (0, 0)) [some (2, 0), some (0, x), some (0, y), some (0, n)] [(0, 1)] _
                    refine v_ret (hz_X11_mean hT _ _ rfl) (Or.inl rfl) ?_
                    exact k4 hc1 hc4 hc5 hc8 hc10 hc12 g14 z14 g15 z15 g16
        · have hc8 : (P 0 1) ≤ y := Int.not_lt.mp hc8
          refine v_push (0) (hz_X2_hasCell hT _ _ rfl) rfl ?_
          refine v_ret (hz_X2_hasCell hT _ _ rfl) (Or.inl rfl) ?_
          show vP D T N 166 9 h [some (2, 0), some (0, x), some (0, y), some (0, n)] [(0, 0)] _
          refine v_if (hz_X11_mean hT _ _ rfl) (fun _ => ?_) (fun hc18 => absurd (show (0 : Int) = 0 from (by omega)) hc18)
          refine v_load (v := (2, 0)) (hz_X11_mean hT _ _ rfl) rfl rfl ?_
          refine v_push (2) (hz_X11_mean hT _ _ rfl) rfl ?_
          refine v_call (w := 2) [some (2, 0), some (0, 2)] hO (hz_X11_mean hT _ _ rfl) rfl rfl ?_
          refine v_load (v := (2, 0)) (hz_X11_refuse hT _ _ rfl) rfl rfl ?_
          refine v_load (v := (0, 2)) (hz_X11_refuse hT _ _ rfl) rfl rfl ?_
          refine v_putf (r := 0) hO (hz_X11_refuse hT _ _ rfl) rfl (fun hf19 => ?_)
          refine v_push (0) (hz_X11_refuse hT _ _ rfl) rfl ?_
          refine v_ret (hz_X11_refuse hT _ _ rfl) (Or.inl rfl) ?_
          show vP D T N 166 17 (zset h 0 0 (0, 2)) [some (2, 0), some (0, x), some (0, y), some (0, n)] [(0, 0)] _
          refine v_ret (hz_X11_mean hT _ _ rfl) (Or.inl rfl) ?_
          exact k5 hc1 hc4 hc5 hc8
    · have hc4 : (P 0 0) ≤ x := Int.not_lt.mp hc4
      refine v_push (0) (hz_X2_hasCell hT _ _ rfl) rfl ?_
      refine v_ret (hz_X2_hasCell hT _ _ rfl) (Or.inl rfl) ?_
      show vP D T N 166 9 h [some (2, 0), some (0, x), some (0, y), some (0, n)] [(0, 0)] _
      refine v_if (hz_X11_mean hT _ _ rfl) (fun _ => ?_) (fun hc20 => absurd (show (0 : Int) = 0 from (by omega)) hc20)
      refine v_load (v := (2, 0)) (hz_X11_mean hT _ _ rfl) rfl rfl ?_
      refine v_push (2) (hz_X11_mean hT _ _ rfl) rfl ?_
      refine v_call (w := 2) [some (2, 0), some (0, 2)] hO (hz_X11_mean hT _ _ rfl) rfl rfl ?_
      refine v_load (v := (2, 0)) (hz_X11_refuse hT _ _ rfl) rfl rfl ?_
      refine v_load (v := (0, 2)) (hz_X11_refuse hT _ _ rfl) rfl rfl ?_
      refine v_putf (r := 0) hO (hz_X11_refuse hT _ _ rfl) rfl (fun hf21 => ?_)
      refine v_push (0) (hz_X11_refuse hT _ _ rfl) rfl ?_
      refine v_ret (hz_X11_refuse hT _ _ rfl) (Or.inl rfl) ?_
      show vP D T N 166 17 (zset h 0 0 (0, 2)) [some (2, 0), some (0, x), some (0, y), some (0, n)] [(0, 0)] _
      refine v_ret (hz_X11_mean hT _ _ rfl) (Or.inl rfl) ?_
      exact k6 hc1 hc4
theorem qr_mean0 {D : zD} {T : zT} (hT : hTab T) (hO : vOK T) {N : Nat} {h : zH} {Q : zR → Prop} {P : PT} (x y n : Int) (hv0 : zHv h) (g0 : h 126 0 = (0, P 0 0)) (g1 : h 126 1 = (0, P 0 1)) (g2 : h 126 2 = (0, P 0 2)) (g3 : h 126 3 = (0, P 0 3)) (lb : (0 ≤ P 0 0 ∧ P 0 0 ≤ 8) ∧ (0 ≤ P 0 1 ∧ P 0 1 ≤ 6) ∧ (0 ≤ P 0 2 ∧ P 0 2 ≤ 3) ∧ (0 ≤ P 0 3 ∧ P 0 3 ≤ 6))
    (k0 : (x < 0) → Q (zset (zset (zset h 121 1 (0, 0)) 121 0 (0, 0)) 121 0 (0, 2), some (0, 0)))
    (k1 : (0 ≤ x) → (((P 0 0) - 1) < x) → Q (zset (zset (zset h 121 1 (0, 0)) 121 0 (0, 0)) 121 0 (0, 2), some (0, 0)))
    (k2 : (0 ≤ x) → (x ≤ ((P 0 0) - 1)) → (y < 0) → Q (zset (zset (zset h 121 1 (0, 0)) 121 0 (0, 0)) 121 0 (0, 2), some (0, 0)))
    (k3 : (0 ≤ x) → (x ≤ ((P 0 0) - 1)) → (0 ≤ y) → (((P 0 1) - 1) < y) → Q (zset (zset (zset h 121 1 (0, 0)) 121 0 (0, 0)) 121 0 (0, 2), some (0, 0)))
    (k4 : (0 ≤ x) → (x ≤ ((P 0 0) - 1)) → (0 ≤ y) → (y ≤ ((P 0 1) - 1)) → (n < 0) → Q (zset (zset (zset h 121 1 (0, 0)) 121 0 (0, 0)) 121 0 (0, 5), some (0, 0)))
    (k5 : (0 ≤ x) → (x ≤ ((P 0 0) - 1)) → (0 ≤ y) → (y ≤ ((P 0 1) - 1)) → (0 ≤ n) → (8 < n) → Q (zset (zset (zset h 121 1 (0, 0)) 121 0 (0, 0)) 121 0 (0, 5), some (0, 0)))
    (k6 : (0 ≤ x) → (x ≤ ((P 0 0) - 1)) → (0 ≤ y) → (y ≤ ((P 0 1) - 1)) → (0 ≤ n) → (n ≤ 8) → vP D T N 277 49 (zset (zset h 121 1 (0, 0)) 121 0 (0, 0)) [some (2, 121), some (0, x), some (0, y), some (0, n), some (1, 0), none, some (0, 0)] [] Q) :
    vP D T N 277 0 h [some (2, 121), some (0, x), some (0, y), some (0, n), none, none, none] [] Q := by
  refine v_load (v := (2, 121)) (hz_X12_mean hT _ _ rfl) rfl rfl ?_
  refine v_push (0) (hz_X12_mean hT _ _ rfl) rfl ?_
  refine v_putf (r := 121) hO (hz_X12_mean hT _ _ rfl) rfl (fun hf1 => ?_)
  refine v_load (v := (2, 121)) (hz_X12_mean hT _ _ rfl) rfl rfl ?_
  refine v_push (0) (hz_X12_mean hT _ _ rfl) rfl ?_
  refine v_putf (r := 121) hO (hz_X12_mean hT _ _ rfl) rfl (fun hf2 => ?_)
  refine v_load (v := (2, 121)) (hz_X12_mean hT _ _ rfl) rfl rfl ?_
  refine v_load (v := (0, x)) (hz_X12_mean hT _ _ rfl) rfl rfl ?_
  refine v_load (v := (0, y)) (hz_X12_mean hT _ _ rfl) rfl rfl ?_
  refine v_call (w := 3) [some (2, 121), some (0, x), some (0, y)] hO (hz_X12_mean hT _ _ rfl) rfl rfl ?_
  refine v_load (v := (0, x)) (hz_X12_isCell hT _ _ rfl) rfl rfl ?_
  refine v_i2l (hz_X12_isCell hT _ _ rfl) ?_
  refine v_push (0) (hz_X12_isCell hT _ _ rfl) rfl ?_
  refine v_load (v := (2, 121)) (hz_X12_isCell hT _ _ rfl) rfl rfl ?_
  refine v_getR (c := 126) (r := 121) (hz_X12_isCell hT _ _ rfl) rfl rfl rfl ?_
  refine v_push (0) (hz_X12_isCell hT _ _ rfl) rfl ?_
  refine v_aldV (v := (0, (P 0 0))) (r := 126) (hz_X12_isCell hT _ _ rfl) rfl rfl (fun _ _ _ => (Eq.trans (Eq.trans (zset_ne (fun c => absurd c.1 (by decide))) (zset_ne (fun c => absurd c.1 (by decide)))) (g0))) (fun ha3 hb4 => ?_)
  refine v_push (1) (hz_X12_isCell hT _ _ rfl) rfl ?_
  refine v_bin (w := ((P 0 0) - 1)) (hz_X12_isCell hT _ _ rfl) (hq_sub (by omega) (by omega)) ?_
  refine v_i2l (hz_X12_isCell hT _ _ rfl) ?_
  refine v_call (w := 6) [some (1, x), none, some (1, 0), none, some (1, ((P 0 0) - 1)), none] hO (hz_X12_isCell hT _ _ rfl) rfl rfl ?_
  refine v_load (v := (1, x)) (hz_X12_isIn hT _ _ rfl) rfl rfl ?_
  refine v_load (v := (1, 0)) (hz_X12_isIn hT _ _ rfl) rfl rfl ?_
  refine v_lif (hz_X12_isIn hT _ _ rfl) (hz_X12_isIn hT _ _ rfl) (fun hc5 => ?_) (fun hc5 => ?_)
  · have hc5 : x < 0 := hc5
    refine v_push (0) (hz_X12_isIn hT _ _ rfl) rfl ?_
    refine v_ret (hz_X12_isIn hT _ _ rfl) (Or.inl rfl) ?_
    show vP D T N 244 15 (zset (zset h 121 1 (0, 0)) 121 0 (0, 0)) [some (2, 121), some (0, x), some (0, y)] [(0, 0)] _
    refine v_if (hz_X12_isCell hT _ _ rfl) (fun _ => ?_) (fun hc6 => absurd (show (0 : Int) = 0 from (by omega)) hc6)
    refine v_push (0) (hz_X12_isCell hT _ _ rfl) rfl ?_
    refine v_ret (hz_X12_isCell hT _ _ rfl) (Or.inl rfl) ?_
    show vP D T N 277 16 (zset (zset h 121 1 (0, 0)) 121 0 (0, 0)) [some (2, 121), some (0, x), some (0, y), some (0, n), none, none, none] [(0, 0)] _
    refine v_if (hz_X12_mean hT _ _ rfl) (fun _ => ?_) (fun hc7 => absurd (show (0 : Int) = 0 from (by omega)) hc7)
    refine v_load (v := (2, 121)) (hz_X12_mean hT _ _ rfl) rfl rfl ?_
    refine v_push (2) (hz_X12_mean hT _ _ rfl) rfl ?_
    refine v_call (w := 2) [some (2, 121), some (0, 2)] hO (hz_X12_mean hT _ _ rfl) rfl rfl ?_
    refine v_load (v := (2, 121)) (hz_X12_no hT _ _ rfl) rfl rfl ?_
    refine v_load (v := (0, 2)) (hz_X12_no hT _ _ rfl) rfl rfl ?_
    refine v_putf (r := 121) hO (hz_X12_no hT _ _ rfl) rfl (fun hf8 => ?_)
    refine v_push (0) (hz_X12_no hT _ _ rfl) rfl ?_
    refine v_ret (hz_X12_no hT _ _ rfl) (Or.inl rfl) ?_
    show vP D T N 277 24 (zset (zset (zset h 121 1 (0, 0)) 121 0 (0, 0)) 121 0 (0, 2)) [some (2, 121), some (0, x), some (0, y), some (0, n), none, none, none] [(0, 0)] _
    refine v_ret (hz_X12_mean hT _ _ rfl) (Or.inl rfl) ?_
    exact k0 hc5
  · have hc5 : 0 ≤ x := Int.not_lt.mp hc5
    refine v_load (v := (1, x)) (hz_X12_isIn hT _ _ rfl) rfl rfl ?_
    refine v_load (v := (1, ((P 0 0) - 1))) (hz_X12_isIn hT _ _ rfl) rfl rfl ?_
    refine v_lif (hz_X12_isIn hT _ _ rfl) (hz_X12_isIn hT _ _ rfl) (fun hc9 => ?_) (fun hc9 => ?_)
    · have hc9 : ((P 0 0) - 1) < x := hc9
      refine v_push (0) (hz_X12_isIn hT _ _ rfl) rfl ?_
      refine v_ret (hz_X12_isIn hT _ _ rfl) (Or.inl rfl) ?_
      show vP D T N 244 15 (zset (zset h 121 1 (0, 0)) 121 0 (0, 0)) [some (2, 121), some (0, x), some (0, y)] [(0, 0)] _
      refine v_if (hz_X12_isCell hT _ _ rfl) (fun _ => ?_) (fun hc10 => absurd (show (0 : Int) = 0 from (by omega)) hc10)
      refine v_push (0) (hz_X12_isCell hT _ _ rfl) rfl ?_
      refine v_ret (hz_X12_isCell hT _ _ rfl) (Or.inl rfl) ?_
      show vP D T N 277 16 (zset (zset h 121 1 (0, 0)) 121 0 (0, 0)) [some (2, 121), some (0, x), some (0, y), some (0, n), none, none, none] [(0, 0)] _
      refine v_if (hz_X12_mean hT _ _ rfl) (fun _ => ?_) (fun hc11 => absurd (show (0 : Int) = 0 from (by omega)) hc11)
      refine v_load (v := (2, 121)) (hz_X12_mean hT _ _ rfl) rfl rfl ?_
      refine v_push (2) (hz_X12_mean hT _ _ rfl) rfl ?_
      refine v_call (w := 2) [some (2, 121), some (0, 2)] hO (hz_X12_mean hT _ _ rfl) rfl rfl ?_
      refine v_load (v := (2, 121)) (hz_X12_no hT _ _ rfl) rfl rfl ?_
      refine v_load (v := (0, 2)) (hz_X12_no hT _ _ rfl) rfl rfl ?_
      refine v_putf (r := 121) hO (hz_X12_no hT _ _ rfl) rfl (fun hf12 => ?_)
      refine v_push (0) (hz_X12_no hT _ _ rfl) rfl ?_
      refine v_ret (hz_X12_no hT _ _ rfl) (Or.inl rfl) ?_
      show vP D T N 277 24 (zset (zset (zset h 121 1 (0, 0)) 121 0 (0, 0)) 121 0 (0, 2)) [some (2, 121), some (0, x), some (0, y), some (0, n), none, none, none] [(0, 0)] _
      refine v_ret (hz_X12_mean hT _ _ rfl) (Or.inl rfl) ?_
      exact k1 hc5 hc9
    · have hc9 : x ≤ ((P 0 0) - 1) := Int.not_lt.mp hc9
      refine v_push (1) (hz_X12_isIn hT _ _ rfl) rfl ?_
      refine v_goto (hz_X12_isIn hT _ _ rfl) ?_
      refine v_ret (hz_X12_isIn hT _ _ rfl) (Or.inl rfl) ?_
      show vP D T N 244 15 (zset (zset h 121 1 (0, 0)) 121 0 (0, 0)) [some (2, 121), some (0, x), some (0, y)] [(0, 1)] _
      refine v_if (hz_X12_isCell hT _ _ rfl) (fun hc13 => absurd (show (1 : Int) = 0 from hc13) (by omega)) (fun _ => ?_)
      refine v_load (v := (0, y)) (hz_X12_isCell hT _ _ rfl) rfl rfl ?_
      refine v_i2l (hz_X12_isCell hT _ _ rfl) ?_
      refine v_push (0) (hz_X12_isCell hT _ _ rfl) rfl ?_
      refine v_load (v := (2, 121)) (hz_X12_isCell hT _ _ rfl) rfl rfl ?_
      refine v_getR (c := 126) (r := 121) (hz_X12_isCell hT _ _ rfl) rfl rfl rfl ?_
      refine v_push (1) (hz_X12_isCell hT _ _ rfl) rfl ?_
      refine v_aldV (v := (0, (P 0 1))) (r := 126) (hz_X12_isCell hT _ _ rfl) rfl rfl (fun _ _ _ => (Eq.trans (Eq.trans (zset_ne (fun c => absurd c.1 (by decide))) (zset_ne (fun c => absurd c.1 (by decide)))) (g1))) (fun ha14 hb15 => ?_)
      refine v_push (1) (hz_X12_isCell hT _ _ rfl) rfl ?_
      refine v_bin (w := ((P 0 1) - 1)) (hz_X12_isCell hT _ _ rfl) (hq_sub (by omega) (by omega)) ?_
      refine v_i2l (hz_X12_isCell hT _ _ rfl) ?_
      refine v_call (w := 6) [some (1, y), none, some (1, 0), none, some (1, ((P 0 1) - 1)), none] hO (hz_X12_isCell hT _ _ rfl) rfl rfl ?_
      refine v_load (v := (1, y)) (hz_X12_isIn hT _ _ rfl) rfl rfl ?_
      refine v_load (v := (1, 0)) (hz_X12_isIn hT _ _ rfl) rfl rfl ?_
      refine v_lif (hz_X12_isIn hT _ _ rfl) (hz_X12_isIn hT _ _ rfl) (fun hc16 => ?_) (fun hc16 => ?_)
      · have hc16 : y < 0 := hc16
        refine v_push (0) (hz_X12_isIn hT _ _ rfl) rfl ?_
        refine v_ret (hz_X12_isIn hT _ _ rfl) (Or.inl rfl) ?_
        show vP D T N 244 33 (zset (zset h 121 1 (0, 0)) 121 0 (0, 0)) [some (2, 121), some (0, x), some (0, y)] [(0, 0)] _
        refine v_if (hz_X12_isCell hT _ _ rfl) (fun _ => ?_) (fun hc17 => absurd (show (0 : Int) = 0 from (by omega)) hc17)
        refine v_push (0) (hz_X12_isCell hT _ _ rfl) rfl ?_
        refine v_ret (hz_X12_isCell hT _ _ rfl) (Or.inl rfl) ?_
        show vP D T N 277 16 (zset (zset h 121 1 (0, 0)) 121 0 (0, 0)) [some (2, 121), some (0, x), some (0, y), some (0, n), none, none, none] [(0, 0)] _
        refine v_if (hz_X12_mean hT _ _ rfl) (fun _ => ?_) (fun hc18 => absurd (show (0 : Int) = 0 from (by omega)) hc18)
        refine v_load (v := (2, 121)) (hz_X12_mean hT _ _ rfl) rfl rfl ?_
        refine v_push (2) (hz_X12_mean hT _ _ rfl) rfl ?_
        refine v_call (w := 2) [some (2, 121), some (0, 2)] hO (hz_X12_mean hT _ _ rfl) rfl rfl ?_
        refine v_load (v := (2, 121)) (hz_X12_no hT _ _ rfl) rfl rfl ?_
        refine v_load (v := (0, 2)) (hz_X12_no hT _ _ rfl) rfl rfl ?_
        refine v_putf (r := 121) hO (hz_X12_no hT _ _ rfl) rfl (fun hf19 => ?_)
        refine v_push (0) (hz_X12_no hT _ _ rfl) rfl ?_
        refine v_ret (hz_X12_no hT _ _ rfl) (Or.inl rfl) ?_
        show vP D T N 277 24 (zset (zset (zset h 121 1 (0, 0)) 121 0 (0, 0)) 121 0 (0, 2)) [some (2, 121), some (0, x), some (0, y), some (0, n), none, none, none] [(0, 0)] _
        refine v_ret (hz_X12_mean hT _ _ rfl) (Or.inl rfl) ?_
        exact k2 hc5 hc9 hc16
      · have hc16 : 0 ≤ y := Int.not_lt.mp hc16
        refine v_load (v := (1, y)) (hz_X12_isIn hT _ _ rfl) rfl rfl ?_
        refine v_load (v := (1, ((P 0 1) - 1))) (hz_X12_isIn hT _ _ rfl) rfl rfl ?_
        refine v_lif (hz_X12_isIn hT _ _ rfl) (hz_X12_isIn hT _ _ rfl) (fun hc20 => ?_) (fun hc20 => ?_)
        · have hc20 : ((P 0 1) - 1) < y := hc20
          refine v_push (0) (hz_X12_isIn hT _ _ rfl) rfl ?_
          refine v_ret (hz_X12_isIn hT _ _ rfl) (Or.inl rfl) ?_
          show vP D T N 244 33 (zset (zset h 121 1 (0, 0)) 121 0 (0, 0)) [some (2, 121), some (0, x), some (0, y)] [(0, 0)] _
          refine v_if (hz_X12_isCell hT _ _ rfl) (fun _ => ?_) (fun hc21 => absurd (show (0 : Int) = 0 from (by omega)) hc21)
          refine v_push (0) (hz_X12_isCell hT _ _ rfl) rfl ?_
          refine v_ret (hz_X12_isCell hT _ _ rfl) (Or.inl rfl) ?_
          show vP D T N 277 16 (zset (zset h 121 1 (0, 0)) 121 0 (0, 0)) [some (2, 121), some (0, x), some (0, y), some (0, n), none, none, none] [(0, 0)] _
          refine v_if (hz_X12_mean hT _ _ rfl) (fun _ => ?_) (fun hc22 => absurd (show (0 : Int) = 0 from (by omega)) hc22)
          refine v_load (v := (2, 121)) (hz_X12_mean hT _ _ rfl) rfl rfl ?_
          refine v_push (2) (hz_X12_mean hT _ _ rfl) rfl ?_
          refine v_call (w := 2) [some (2, 121), some (0, 2)] hO (hz_X12_mean hT _ _ rfl) rfl rfl ?_
          refine v_load (v := (2, 121)) (hz_X12_no hT _ _ rfl) rfl rfl ?_
          refine v_load (v := (0, 2)) (hz_X12_no hT _ _ rfl) rfl rfl ?_
          refine v_putf (r := 121) hO (hz_X12_no hT _ _ rfl) rfl (fun hf23 => ?_)
          refine v_push (0) (hz_X12_no hT _ _ rfl) rfl ?_
          refine v_ret (hz_X12_no hT _ _ rfl) (Or.inl rfl) ?_
          show vP D T N 277 24 (zset (zset (zset h 121 1 (0, 0)) 121 0 (0, 0)) 121 0 (0, 2)) [some (2, 121), some (0, x), some (0, y), some (0, n), none, none, none] [(0, 0)] _
          refine v_ret (hz_X12_mean hT _ _ rfl) (Or.inl rfl) ?_
          exact k3 hc5 hc9 hc16 hc20
        · have hc20 : y ≤ ((P 0 1) - 1) := Int.not_lt.mp hc20
          refine v_push (1) (hz_X12_isIn hT _ _ rfl) rfl ?_
          refine v_goto (hz_X12_isIn hT _ _ rfl) ?_
          refine v_ret (hz_X12_isIn hT _ _ rfl) (Or.inl rfl) ?_
          show vP D T N 244 33 (zset (zset h 121 1 (0, 0)) 121 0 (0, 0)) [some (2, 121), some (0, x), some (0, y)] [(0, 1)] _
          refine v_if (hz_X12_isCell hT _ _ rfl) (fun hc24 => absurd (show (1 : Int) = 0 from hc24) (by omega)) (fun _ => ?_)
          refine v_push (1) (hz_X12_isCell hT _ _ rfl) rfl ?_
          refine v_goto (hz_X12_isCell hT _ _ rfl) ?_
          refine v_ret (hz_X12_isCell hT _ _ rfl) (Or.inl rfl) ?_
          show vP D T N 277 16 (zset (zset h 121 1 (0, 0)) 121 0 (0, 0)) [some (2, 121), some (0, x), some (0, y), some (0, n), none, none, none] [(0, 1)] _
          refine v_if (hz_X12_mean hT _ _ rfl) (fun hc25 => absurd (show (1 : Int) = 0 from hc25) (by omega)) (fun _ => ?_)
          refine v_load (v := (0, n)) (hz_X12_mean hT _ _ rfl) rfl rfl ?_
          refine v_i2l (hz_X12_mean hT _ _ rfl) ?_
          refine v_push (0) (hz_X12_mean hT _ _ rfl) rfl ?_
          refine v_push (8) (hz_X12_mean hT _ _ rfl) rfl ?_
          refine v_call (w := 6) [some (1, n), none, some (1, 0), none, some (1, 8), none] hO (hz_X12_mean hT _ _ rfl) rfl rfl ?_
          refine v_load (v := (1, n)) (hz_X12_isIn hT _ _ rfl) rfl rfl ?_
          refine v_load (v := (1, 0)) (hz_X12_isIn hT _ _ rfl) rfl rfl ?_
          refine v_lif (hz_X12_isIn hT _ _ rfl) (hz_X12_isIn hT _ _ rfl) (fun hc26 => ?_) (fun hc26 => ?_)
          · have hc26 : n < 0 := hc26
            refine v_push (0) (hz_X12_isIn hT _ _ rfl) rfl ?_
            refine v_ret (hz_X12_isIn hT _ _ rfl) (Or.inl rfl) ?_
            show vP D T N 277 34 (zset (zset h 121 1 (0, 0)) 121 0 (0, 0)) [some (2, 121), some (0, x), some (0, y), some (0, n), none, none, none] [(0, 0)] _
            refine v_if (hz_X12_mean hT _ _ rfl) (fun _ => ?_) (fun hc27 => absurd (show (0 : Int) = 0 from (by omega)) hc27)
            refine v_load (v := (2, 121)) (hz_X12_mean hT _ _ rfl) rfl rfl ?_
            refine v_push (5) (hz_X12_mean hT _ _ rfl) rfl ?_
            refine v_call (w := 2) [some (2, 121), some (0, 5)] hO (hz_X12_mean hT _ _ rfl) rfl rfl ?_
            refine v_load (v := (2, 121)) (hz_X12_no hT _ _ rfl) rfl rfl ?_
            refine v_load (v := (0, 5)) (hz_X12_no hT _ _ rfl) rfl rfl ?_
            refine v_putf (r := 121) hO (hz_X12_no hT _ _ rfl) rfl (fun hf28 => ?_)
            refine v_push (0) (hz_X12_no hT _ _ rfl) rfl ?_
            refine v_ret (hz_X12_no hT _ _ rfl) (Or.inl rfl) ?_
            show vP D T N 277 42 (zset (zset (zset h 121 1 (0, 0)) 121 0 (0, 0)) 121 0 (0, 5)) [some (2, 121), some (0, x), some (0, y), some (0, n), none, none, none] [(0, 0)] _
            refine v_ret (hz_X12_mean hT _ _ rfl) (Or.inl rfl) ?_
            exact k4 hc5 hc9 hc16 hc20 hc26
          · have hc26 : 0 ≤ n := Int.not_lt.mp hc26
            refine v_load (v := (1, n)) (hz_X12_isIn hT _ _ rfl) rfl rfl ?_
            refine v_load (v := (1, 8)) (hz_X12_isIn hT _ _ rfl) rfl rfl ?_
            refine v_lif (hz_X12_isIn hT _ _ rfl) (hz_X12_isIn hT _ _ rfl) (fun hc29 => ?_) (fun hc29 => ?_)
            · have hc29 : 8 < n := hc29
              refine v_push (0) (hz_X12_isIn hT _ _ rfl) rfl ?_
              refine v_ret (hz_X12_isIn hT _ _ rfl) (Or.inl rfl) ?_
              show vP D T N 277 34 (zset (zset h 121 1 (0, 0)) 121 0 (0, 0)) [some (2, 121), some (0, x), some (0, y), some (0, n), none, none, none] [(0, 0)] _
              refine v_if (hz_X12_mean hT _ _ rfl) (fun _ => ?_) (fun hc30 => absurd (show (0 : Int) = 0 from (by omega)) hc30)
              refine v_load (v := (2, 121)) (hz_X12_mean hT _ _ rfl) rfl rfl ?_
              refine v_push (5) (hz_X12_mean hT _ _ rfl) rfl ?_
              refine v_call (w := 2) [some (2, 121), some (0, 5)] hO (hz_X12_mean hT _ _ rfl) rfl rfl ?_
              refine v_load (v := (2, 121)) (hz_X12_no hT _ _ rfl) rfl rfl ?_
              refine v_load (v := (0, 5)) (hz_X12_no hT _ _ rfl) rfl rfl ?_
              refine v_putf (r := 121) hO (hz_X12_no hT _ _ rfl) rfl (fun hf31 => ?_)
              refine v_push (0) (hz_X12_no hT _ _ rfl) rfl ?_
              refine v_ret (hz_X12_no hT _ _ rfl) (Or.inl rfl) ?_
              show vP D T N 277 42 (zset (zset (zset h 121 1 (0, 0)) 121 0 (0, 0)) 121 0 (0, 5)) [some (2, 121), some (0, x), some (0, y), some (0, n), none, none, none] [(0, 0)] _
              refine v_ret (hz_X12_mean hT _ _ rfl) (Or.inl rfl) ?_
              exact k5 hc5 hc9 hc16 hc20 hc26 hc29
            · have hc29 : n ≤ 8 := Int.not_lt.mp hc29
              refine v_push (1) (hz_X12_isIn hT _ _ rfl) rfl ?_
              refine v_goto (hz_X12_isIn hT _ _ rfl) ?_
              refine v_ret (hz_X12_isIn hT _ _ rfl) (Or.inl rfl) ?_
              show vP D T N 277 34 (zset (zset h 121 1 (0, 0)) 121 0 (0, 0)) [some (2, 121), some (0, x), some (0, y), some (0, n), none, none, none] [(0, 1)] _
              refine v_if (hz_X12_mean hT _ _ rfl) (fun hc32 => absurd (show (1 : Int) = 0 from hc32) (by omega)) (fun _ => ?_)
              refine v_push (0) (hz_X12_mean hT _ _ rfl) rfl ?_
              refine v_store2 [some (2, 121), some (0, x), some (0, y), some (0, n), some (1, 0), none, none] (hz_X12_mean hT _ _ rfl) (Nat.le_of_ble_eq_true rfl) rfl ?_
              refine v_push (0) (hz_X12_mean hT _ _ rfl) rfl ?_
              refine v_store1 [some (2, 121), some (0, x), some (0, y), some (0, n), some (1, 0), none, some (0, 0)] (hz_X12_mean hT _ _ rfl) ⟨rfl, Nat.ne_of_beq_eq_false rfl⟩ (Nat.le_of_ble_eq_true rfl) rfl ?_
              exact k6 hc5 hc9 hc16 hc20 hc26 hc29
theorem qr_mean49 {D : zD} {T : zT} (hT : hTab T) (hO : vOK T) {N : Nat} {h : zH} {Q : zR → Prop} (x y n s i : Int) (hv0 : zHv h) (hC : ∀ (N : Nat) (g : zH) (l : List (Option zV)), vP D T N 206 0 g l [] (fun r => rtK 1 r.2)) (hA : ∀ (N : Nat) (g : zH) (l : List (Option zV)), vP D T N 197 0 g l [] (fun r => rtK 1 r.2)) (hL : ∀ (N : Nat) (g : zH) (l : List (Option zV)), vP D T N 229 0 g l [] (fun r => rtK 2 r.2)) (hW : ∀ (N : Nat) (g : zH) (l : List (Option zV)), vP D T N 198 0 g l [] (fun r => rtK 2 r.2)) (hFr : ∀ (N : Nat) (t b : Int) (g : zH), vP D T N 230 0 g [some (2, 121), some (1, t), none, some (1, b), none, none, none, none, none, none, none] [] (fun r => r.2 = some (0, 1) ∧ ∀ j, r.1 126 j = g 126 j))
    (k0 : ∀ (g1 : zH) (z1 : Int), (i < z1) → ∀ (g3 : zH) (z3 : Int), ∀ (g4 : zH) (z4 : Int), ∀ (g5 : zH) (z5 : Int), vP D T N 277 49 g5 [some (2, 121), some (0, x), some (0, y), some (0, n), some (1, ((zf64 0 (Int64.ofInt s) (Int64.ofInt ((zf64 1 (Int64.ofInt z3) (Int64.ofInt z5)).toInt))).toInt)), none, some (0, ((Int32.ofInt i + Int32.ofInt 1).toInt))] [] Q)
    (k1 : ∀ (g1 : zH) (z1 : Int), (z1 ≤ i) → ∀ (g6 : zH) (z6 : Int), ∀ (g7 : zH), ((∀ j, g7 126 j = g6 126 j)) → Q (g7, some (0, 1))) :
    vP D T (N + 1) 277 49 h [some (2, 121), some (0, x), some (0, y), some (0, n), some (1, s), none, some (0, i)] [] Q := by
  refine v_loadS (v := (0, i)) (hz_X12_mean hT _ _ rfl) rfl rfl ?_
  refine v_load (v := (2, 121)) (hz_X12_mean hT _ _ rfl) rfl rfl ?_
  refine v_call (w := 1) [some (2, 121)] hO (hz_X12_mean hT _ _ rfl) rfl rfl (vK1_k (hC _ _ _) (fun g1 z1 => ?_))
  · show vP D T N 277 55 g1 [some (2, 121), some (0, x), some (0, y), some (0, n), some (1, s), none, some (0, i)] [(0, z1), (0, i)] _
    refine vP_hv (fun hv1 => ?_)
    refine v_ic (hz_X12_mean hT _ _ rfl) (fun hc2 => ?_) (fun hc2 => ?_)
    · have hc2 : i < z1 := hc2
      refine v_load (v := (1, s)) (hz_X12_mean hT _ _ rfl) rfl rfl ?_
      refine v_load (v := (0, n)) (hz_X12_mean hT _ _ rfl) rfl rfl ?_
      refine v_call (w := 4) [some (0, n), none, none, none] hO (hz_X12_mean hT _ _ rfl) rfl rfl (vK2_k (hL _ _ _) (fun g3 z3 => ?_))
      · show vP D T N 277 64 g3 [some (2, 121), some (0, x), some (0, y), some (0, n), some (1, s), none, some (0, i)] [(1, z3), (1, s)] _
        refine vP_hv (fun hv3 => ?_)
        refine v_load (v := (2, 121)) (hz_X12_mean hT _ _ rfl) rfl rfl ?_
        refine v_load (v := (2, 121)) (hz_X12_mean hT _ _ rfl) rfl rfl ?_
        refine v_load (v := (0, x)) (hz_X12_mean hT _ _ rfl) rfl rfl ?_
        refine v_load (v := (0, y)) (hz_X12_mean hT _ _ rfl) rfl rfl ?_
        refine v_call (w := 3) [some (2, 121), some (0, x), some (0, y)] hO (hz_X12_mean hT _ _ rfl) rfl rfl (vK1_k (hA _ _ _) (fun g4 z4 => ?_))
        · show vP D T N 277 71 g4 [some (2, 121), some (0, x), some (0, y), some (0, n), some (1, s), none, some (0, i)] [(0, z4), (2, 121), (1, z3), (1, s)] _
          refine vP_hv (fun hv4 => ?_)
          refine v_load (v := (0, i)) (hz_X12_mean hT _ _ rfl) rfl rfl ?_
          refine v_load (v := (0, n)) (hz_X12_mean hT _ _ rfl) rfl rfl ?_
          refine v_call (w := 8) [some (2, 121), some (0, z4), some (0, i), some (0, n), none, none, none, none] hO (hz_X12_mean hT _ _ rfl) rfl rfl (vK2_k (hW _ _ _) (fun g5 z5 => ?_))
          · show vP D T N 277 77 g5 [some (2, 121), some (0, x), some (0, y), some (0, n), some (1, s), none, some (0, i)] [(1, z5), (1, z3), (1, s)] _
            refine vP_hv (fun hv5 => ?_)
            refine v_bin64 (w := ((zf64 1 (Int64.ofInt z3) (Int64.ofInt z5)).toInt)) (hz_X12_mean hT _ _ rfl) rfl ?_
            refine v_bin64 (w := ((zf64 0 (Int64.ofInt s) (Int64.ofInt ((zf64 1 (Int64.ofInt z3) (Int64.ofInt z5)).toInt))).toInt)) (hz_X12_mean hT _ _ rfl) rfl ?_
            refine v_store2 [some (2, 121), some (0, x), some (0, y), some (0, n), some (1, ((zf64 0 (Int64.ofInt s) (Int64.ofInt ((zf64 1 (Int64.ofInt z3) (Int64.ofInt z5)).toInt))).toInt)), none, some (0, i)] (hz_X12_mean hT _ _ rfl) (Nat.le_of_ble_eq_true rfl) rfl ?_
            refine v_iinc (x := i) (u := 1) (w := ((Int32.ofInt i + Int32.ofInt 1).toInt)) [some (2, 121), some (0, x), some (0, y), some (0, n), some (1, ((zf64 0 (Int64.ofInt s) (Int64.ofInt ((zf64 1 (Int64.ofInt z3) (Int64.ofInt z5)).toInt))).toInt)), none, some (0, ((Int32.ofInt i + Int32.ofInt 1).toInt))] (hz_X12_mean hT _ _ rfl) rfl rfl (Nat.le_of_ble_eq_true rfl) rfl rfl ?_
            refine v_goto (hz_X12_mean hT _ _ rfl) ?_
            exact k0 g1 z1 hc2 g3 z3 g4 z4 g5 z5
    · have hc2 : z1 ≤ i := Int.not_lt.mp hc2
      refine v_load (v := (2, 121)) (hz_X12_mean hT _ _ rfl) rfl rfl ?_
      refine v_load (v := (1, s)) (hz_X12_mean hT _ _ rfl) rfl rfl ?_
      refine v_load (v := (0, n)) (hz_X12_mean hT _ _ rfl) rfl rfl ?_
      refine v_call (w := 4) [some (0, n), none, none, none] hO (hz_X12_mean hT _ _ rfl) rfl rfl (vK2_k (hL _ _ _) (fun g6 z6 => ?_))
      · show vP D T N 277 94 g6 [some (2, 121), some (0, x), some (0, y), some (0, n), some (1, s), none, some (0, i)] [(1, z6), (1, s), (2, 121)] _
        refine vP_hv (fun hv6 => ?_)
        refine v_call (w := 11) [some (2, 121), some (1, s), none, some (1, z6), none, none, none, none, none, none, none] hO (hz_X12_mean hT _ _ rfl) rfl rfl (vFr_k (hFr _ s z6 _) (fun g7 u7 => ?_))
        · show vP D T N 277 97 g7 [some (2, 121), some (0, x), some (0, y), some (0, n), some (1, s), none, some (0, i)] [(0, 1)] _
          refine vP_hv (fun hv7 => ?_)
          refine v_ret (hz_X12_mean hT _ _ rfl) (Or.inl rfl) ?_
          exact k1 g1 z1 hc2 g6 z6 g7 u7
theorem rx_mean49 {D : zD} {N : Nat} {h : zH} (x y n s i : Int) : vP D TLw N 277 49 h [some (2, 121), some (0, x), some (0, y), some (0, n), some (1, s), none, some (0, i)] [] (fun r => r.2 = some (0, 1)) := by
  refine vP_loop (fun _ l => ∃ s i : Int, l = [some (2, 121), some (0, x), some (0, y), some (0, n), some (1, s), none, some (0, i)]) ?_ N _ _ ⟨s, i, rfl⟩
  rintro N h' l ⟨s, i, rfl⟩ ih
  refine vP_hv (fun hv => qr_mean49 TLw_T vOK_T x y n s i hv (fun _ _ _ => vP_rt (b := 1) zt_X12_cells rfl (by decide +kernel) (by decide)) (fun _ _ _ => vP_rt (b := 1) zt_X12_at2 rfl (by decide +kernel) (by decide)) (fun _ _ _ => vP_rt (b := 2) zt_X12_fours rfl (by decide +kernel) (by decide)) (fun _ _ _ => vP_rt (b := 2) zt_X12_avoids rfl (by decide +kernel) (by decide)) (fun N t b g => rx_frac TLw_T vOK_T t b) ?_ ?_)
  · intros
    exact ih _ _ ⟨_, _, rfl⟩
  · intros
    rfl
theorem lRk_mean {D : zD} (hD : ∀ i, -2147483648 ≤ D.2 i ∧ D.2 i ≤ 2147483647) {h h1 h2 : zH} {x y n v1 v2 : Int} (hZ : lZ D h) (hZ1 : lZ D h1) (hR : lR h) (z1 : zRun D TLw 614 166 0 (h, zargs 0 [(2, 0), (0, x), (0, y), (0, n)], []) (h1, some (0, v1))) (f1 : aFr lM_166 h h1) (z2 : zRun D TLw 614 277 0 (h1, zargs 0 [(2, 121), (0, x), (0, y), (0, n)], []) (h2, some (0, v2))) (f2 : aFr lM_277 h1 h2) : lR h2 ∧ v1 = v2 := by
  refine ⟨lR_S.fr (M := lM_277) (by decide +kernel) f2 (lR_S.fr (M := lM_166) (by decide +kernel) f1 hR), ?_⟩
  obtain ⟨r, c, P, hc, e7, e8, gc, gr, lb, go⟩ := hR.at f1 (by decide +kernel)
  have a1 : v1 = (if 0 ≤ x ∧ x < P 0 0 ∧ 0 ≤ y ∧ y < P 0 1 ∧ 0 ≤ n ∧ n ≤ 8 then 1 else 0) := by
    refine sv_i (hZ.run 4 z1 (Q := fun x_ => x_.2 = some (0, (if 0 ≤ x ∧ x < P 0 0 ∧ 0 ≤ y ∧ y < P 0 1 ∧ 0 ≤ n ∧ n ≤ 8 then 1 else 0))) (fun N => vP_hv (fun hv => ?_)))
    rcases hc with ⟨rfl, rfl⟩ | ⟨rfl, rfl⟩
    · refine qc_mean_24 TLw_T vOK_T x y n hv e7 gc.1.1 gc.1.2.1 gc.1.2.2.1 gc.1.2.2.2 lb (fun _ _ _ => vP_rt (b := 2) zt_X4_allWalks rfl (by decide +kernel) (by decide)) (fun _ _ _ => vP_rt (b := 2) zt_X4_cellsOnAllWalks rfl (by decide +kernel) (by decide)) (fun _ _ _ => vP_rt (b := 0) zt_X11_tellFraction rfl (by decide +kernel) (by decide)) ?_ ?_ ?_ ?_ ?_ ?_ ?_ <;> (intros; exact sv (by omega))
    · refine qc_mean_39 TLw_T vOK_T x y n hv e7 gc.1.1 gc.1.2.1 gc.1.2.2.1 gc.1.2.2.2 lb (fun _ _ _ => vP_rt (b := 2) zt_X4_allWalks rfl (by decide +kernel) (by decide)) (fun _ _ _ => vP_rt (b := 2) zt_X4_cellsOnAllWalks rfl (by decide +kernel) (by decide)) (fun _ _ _ => vP_rt (b := 0) zt_X11_tellFraction rfl (by decide +kernel) (by decide)) ?_ ?_ ?_ ?_ ?_ ?_ ?_ <;> (intros; exact sv (by omega))
  have a2 : v2 = (if 0 ≤ x ∧ x < P 0 0 ∧ 0 ≤ y ∧ y < P 0 1 ∧ 0 ≤ n ∧ n ≤ 8 then 1 else 0) := by
    refine sv_i (hZ1.run 7 z2 (Q := fun x_ => x_.2 = some (0, (if 0 ≤ x ∧ x < P 0 0 ∧ 0 ≤ y ∧ y < P 0 1 ∧ 0 ≤ n ∧ n ≤ 8 then 1 else 0))) (fun N => vP_hv (fun hv => ?_)))
    refine qr_mean0 TLw_T vOK_T x y n hv gr.1.1 gr.1.2.1 gr.1.2.2.1 gr.1.2.2.2 lb ?_ ?_ ?_ ?_ ?_ ?_ ?_
    · intros; exact sv (by omega)
    · intros; exact sv (by omega)
    · intros; exact sv (by omega)
    · intros; exact sv (by omega)
    · intros; exact sv (by omega)
    · intros; exact sv (by omega)
    · intro c1 c2 c3 c4 c5 c6
      refine vP_Q (fun r hr => ?_) (rx_mean49 x y n 0 0)
      show r.2 = _
      rw [if_pos (by omega)]
      exact hr
  rw [a1, a2]
