theorem vKF0_k {D : zD} {T : zT} {N mi pc : Nat} {h h0 : zH} {l : List (Option zV)} {S : List zV} {Q : zR → Prop} (H : vP D T N mi pc h l S (fun r => rtK 0 r.2 ∧ r.1 0 7 = h0 0 7 ∧ r.1 0 8 = h0 0 8)) (k : ∀ g, (g 0 7 = h0 0 7 ∧ g 0 8 = h0 0 8) → Q (g, none)) : vP D T N mi pc h l S Q := vP_Q (fun r hr => by
  obtain ⟨g, v⟩ := r
  obtain ⟨hr, u⟩ := hr
  have hr : v = none := hr
  subst hr
  exact k g u) H
theorem vKF1_k {D : zD} {T : zT} {N mi pc : Nat} {h h0 : zH} {l : List (Option zV)} {S : List zV} {Q : zR → Prop} (H : vP D T N mi pc h l S (fun r => rtK 1 r.2 ∧ r.1 0 7 = h0 0 7 ∧ r.1 0 8 = h0 0 8)) (k : ∀ g z, (g 0 7 = h0 0 7 ∧ g 0 8 = h0 0 8) → Q (g, some (0, z))) : vP D T N mi pc h l S Q := vP_Q (fun r hr => by
  obtain ⟨g, v⟩ := r
  obtain ⟨⟨z, hr⟩, u⟩ := hr
  have hr : v = some (0, z) := hr
  subst hr
  exact k g z u) H
theorem qc_arr0_24 {D : zD} {T : zT} (hT : hTab T) (hO : vOK T) {N : Nat} {h : zH} {Q : zR → Prop} {P : PT} (k sd mn : Int) (hv0 : zHv h) (e7 : h 0 7 = (2, 24)) (g0 : h 24 0 = (0, P 0 0)) (g1 : h 24 1 = (0, P 0 1)) (g2 : h 24 2 = (0, P 0 2)) (g3 : h 24 3 = (0, P 0 3)) (lb : (0 ≤ P 0 0 ∧ P 0 0 ≤ 8) ∧ (0 ≤ P 0 1 ∧ P 0 1 ≤ 6) ∧ (0 ≤ P 0 2 ∧ P 0 2 ≤ 3) ∧ (0 ≤ P 0 3 ∧ P 0 3 ≤ 6))
    (k0 : (k < 0) → Q (zset h 0 0 (0, 2), some (0, 0)))
    (k1 : (0 ≤ k) → (k < (P 0 3)) → (sd < 0) → Q (zset h 0 0 (0, 5), some (0, 0)))
    (k2 : (0 ≤ k) → (k < (P 0 3)) → (0 ≤ sd) → (mn < 1) → Q (zset h 0 0 (0, 5), some (0, 0)))
    (k3 : (0 ≤ k) → (k < (P 0 3)) → (0 ≤ sd) → (1 ≤ mn) → (20 < mn) → Q (zset h 0 0 (0, 5), some (0, 0)))
    (k4 : (0 ≤ k) → (k < (P 0 3)) → (0 ≤ sd) → (1 ≤ mn) → (mn ≤ 20) → (((9999 - mn) + 1) < sd) → Q (zset h 0 0 (0, 5), some (0, 0)))
    (k5 : (0 ≤ k) → (k < (P 0 3)) → (0 ≤ sd) → (1 ≤ mn) → (mn ≤ 20) → (sd ≤ ((9999 - mn) + 1)) → ((h 34 0).2 = -1) → Q (zset h 0 0 (0, 8), some (0, 0)))
    (k6 : (0 ≤ k) → (k < (P 0 3)) → (0 ≤ sd) → (1 ≤ mn) → (mn ≤ 20) → (sd ≤ ((9999 - mn) + 1)) → ((h 34 0).2 ≠ -1) → vP D T N 143 75 h [some (2, 0), some (0, k), some (0, sd), some (0, mn), some (0, 0), some (0, 0)] [] Q)
    (k7 : (0 ≤ k) → ((P 0 3) ≤ k) → Q (zset h 0 0 (0, 2), some (0, 0))) :
    vP D T N 143 0 h [some (2, 0), some (0, k), some (0, sd), some (0, mn), none, none] [] Q := by
  refine v_load (v := (2, 0)) (hz_X11_arrivals hT _ _ rfl) rfl rfl ?_
  refine v_getf (v := (2, 24)) (r := 0) (hz_X11_arrivals hT _ _ rfl) rfl rfl (fun _ => e7) ?_
  refine v_load (v := (0, k)) (hz_X11_arrivals hT _ _ rfl) rfl rfl ?_
  refine v_call (w := 2) [some (2, 24), some (0, k)] hO (hz_X11_arrivals hT _ _ rfl) rfl rfl ?_
  refine v_load (v := (0, k)) (hz_X2_hasCompany hT _ _ rfl) rfl rfl ?_
  refine v_if (hz_X2_hasCompany hT _ _ rfl) (fun hc1 => ?_) (fun hc1 => ?_)
  · have hc1 : k < 0 := hc1
    refine v_push (0) (hz_X2_hasCompany hT _ _ rfl) rfl ?_
    refine v_ret (hz_X2_hasCompany hT _ _ rfl) (Or.inl rfl) ?_
    show vP D T N 143 8 h [some (2, 0), some (0, k), some (0, sd), some (0, mn), none, none] [(0, 0)] _
    refine v_if (hz_X11_arrivals hT _ _ rfl) (fun _ => ?_) (fun hc2 => absurd (show (0 : Int) = 0 from (by omega)) hc2)
    refine v_load (v := (2, 0)) (hz_X11_arrivals hT _ _ rfl) rfl rfl ?_
    refine v_push (2) (hz_X11_arrivals hT _ _ rfl) rfl ?_
    refine v_call (w := 2) [some (2, 0), some (0, 2)] hO (hz_X11_arrivals hT _ _ rfl) rfl rfl ?_
    refine v_load (v := (2, 0)) (hz_X11_refuse hT _ _ rfl) rfl rfl ?_
    refine v_load (v := (0, 2)) (hz_X11_refuse hT _ _ rfl) rfl rfl ?_
    refine v_putf (r := 0) hO (hz_X11_refuse hT _ _ rfl) rfl (fun hf3 => ?_)
    refine v_push (0) (hz_X11_refuse hT _ _ rfl) rfl ?_
    refine v_ret (hz_X11_refuse hT _ _ rfl) (Or.inl rfl) ?_
    show vP D T N 143 16 (zset h 0 0 (0, 2)) [some (2, 0), some (0, k), some (0, sd), some (0, mn), none, none] [(0, 0)] _
    refine v_ret (hz_X11_arrivals hT _ _ rfl) (Or.inl rfl) ?_
    exact k0 hc1
  · have hc1 : 0 ≤ k := Int.not_lt.mp hc1
    refine v_load (v := (0, k)) (hz_X2_hasCompany hT _ _ rfl) rfl rfl ?_
    refine v_load (v := (2, 24)) (hz_X2_hasCompany hT _ _ rfl) rfl rfl ?_
    refine v_getf (v := (0, (P 0 3))) (r := 24) (hz_X2_hasCompany hT _ _ rfl) rfl rfl (fun _ => g3) ?_
    refine v_ic (hz_X2_hasCompany hT _ _ rfl) (fun hc4 => ?_) (fun hc4 => ?_)
    · have hc4 : k < (P 0 3) := hc4
      refine v_push (1) (hz_X2_hasCompany hT _ _ rfl) rfl ?_
      refine v_goto (hz_X2_hasCompany hT _ _ rfl) ?_
      refine v_ret (hz_X2_hasCompany hT _ _ rfl) (Or.inl rfl) ?_
      show vP D T N 143 8 h [some (2, 0), some (0, k), some (0, sd), some (0, mn), none, none] [(0, 1)] _
      refine v_if (hz_X11_arrivals hT _ _ rfl) (fun hc5 => absurd (show (1 : Int) = 0 from hc5) (by omega)) (fun _ => ?_)
      refine v_load (v := (0, sd)) (hz_X11_arrivals hT _ _ rfl) rfl rfl ?_
      refine v_if (hz_X11_arrivals hT _ _ rfl) (fun hc6 => ?_) (fun hc6 => ?_)
      · have hc6 : sd < 0 := hc6
        refine v_load (v := (2, 0)) (hz_X11_arrivals hT _ _ rfl) rfl rfl ?_
        refine v_push (5) (hz_X11_arrivals hT _ _ rfl) rfl ?_
        refine v_call (w := 2) [some (2, 0), some (0, 5)] hO (hz_X11_arrivals hT _ _ rfl) rfl rfl ?_
        refine v_load (v := (2, 0)) (hz_X11_refuse hT _ _ rfl) rfl rfl ?_
        refine v_load (v := (0, 5)) (hz_X11_refuse hT _ _ rfl) rfl rfl ?_
        refine v_putf (r := 0) hO (hz_X11_refuse hT _ _ rfl) rfl (fun hf7 => ?_)
        refine v_push (0) (hz_X11_refuse hT _ _ rfl) rfl ?_
        refine v_ret (hz_X11_refuse hT _ _ rfl) (Or.inl rfl) ?_
        show vP D T N 143 48 (zset h 0 0 (0, 5)) [some (2, 0), some (0, k), some (0, sd), some (0, mn), none, none] [(0, 0)] _
        refine v_ret (hz_X11_arrivals hT _ _ rfl) (Or.inl rfl) ?_
        exact k1 hc1 hc4 hc6
      · have hc6 : 0 ≤ sd := Int.not_lt.mp hc6
        refine v_load (v := (0, mn)) (hz_X11_arrivals hT _ _ rfl) rfl rfl ?_
        refine v_push (1) (hz_X11_arrivals hT _ _ rfl) rfl ?_
        refine v_ic (hz_X11_arrivals hT _ _ rfl) (fun hc8 => ?_) (fun hc8 => ?_)
        · have hc8 : mn < 1 := hc8
          refine v_load (v := (2, 0)) (hz_X11_arrivals hT _ _ rfl) rfl rfl ?_
          refine v_push (5) (hz_X11_arrivals hT _ _ rfl) rfl ?_
          refine v_call (w := 2) [some (2, 0), some (0, 5)] hO (hz_X11_arrivals hT _ _ rfl) rfl rfl ?_
          refine v_load (v := (2, 0)) (hz_X11_refuse hT _ _ rfl) rfl rfl ?_
          refine v_load (v := (0, 5)) (hz_X11_refuse hT _ _ rfl) rfl rfl ?_
          refine v_putf (r := 0) hO (hz_X11_refuse hT _ _ rfl) rfl (fun hf9 => ?_)
          refine v_push (0) (hz_X11_refuse hT _ _ rfl) rfl ?_
          refine v_ret (hz_X11_refuse hT _ _ rfl) (Or.inl rfl) ?_
          show vP D T N 143 48 (zset h 0 0 (0, 5)) [some (2, 0), some (0, k), some (0, sd), some (0, mn), none, none] [(0, 0)] _
          refine v_ret (hz_X11_arrivals hT _ _ rfl) (Or.inl rfl) ?_
          exact k2 hc1 hc4 hc6 hc8
        · have hc8 : 1 ≤ mn := Int.not_lt.mp hc8
          refine v_load (v := (0, mn)) (hz_X11_arrivals hT _ _ rfl) rfl rfl ?_
          refine v_push (20) (hz_X11_arrivals hT _ _ rfl) rfl ?_
          refine v_ic (hz_X11_arrivals hT _ _ rfl) (fun hc10 => ?_) (fun hc10 => ?_)
          · have hc10 : 20 < mn := hc10
            refine v_load (v := (2, 0)) (hz_X11_arrivals hT _ _ rfl) rfl rfl ?_
            refine v_push (5) (hz_X11_arrivals hT _ _ rfl) rfl ?_
            refine v_call (w := 2) [some (2, 0), some (0, 5)] hO (hz_X11_arrivals hT _ _ rfl) rfl rfl ?_
            refine v_load (v := (2, 0)) (hz_X11_refuse hT _ _ rfl) rfl rfl ?_
            refine v_load (v := (0, 5)) (hz_X11_refuse hT _ _ rfl) rfl rfl ?_
            refine v_putf (r := 0) hO (hz_X11_refuse hT _ _ rfl) rfl (fun hf11 => ?_)
            refine v_push (0) (hz_X11_refuse hT _ _ rfl) rfl ?_
            refine v_ret (hz_X11_refuse hT _ _ rfl) (Or.inl rfl) ?_
            show vP D T N 143 48 (zset h 0 0 (0, 5)) [some (2, 0), some (0, k), some (0, sd), some (0, mn), none, none] [(0, 0)] _
            refine v_ret (hz_X11_arrivals hT _ _ rfl) (Or.inl rfl) ?_
            exact k3 hc1 hc4 hc6 hc8 hc10
          · have hc10 : mn ≤ 20 := Int.not_lt.mp hc10
            refine v_load (v := (0, sd)) (hz_X11_arrivals hT _ _ rfl) rfl rfl ?_
            refine v_push (9999) (hz_X11_arrivals hT _ _ rfl) rfl ?_
            refine v_load (v := (0, mn)) (hz_X11_arrivals hT _ _ rfl) rfl rfl ?_
            refine v_bin (w := (9999 - mn)) (hz_X11_arrivals hT _ _ rfl) (hq_sub (by omega) (by omega)) ?_
            refine v_push (1) (hz_X11_arrivals hT _ _ rfl) rfl ?_
            refine v_bin (w := ((9999 - mn) + 1)) (hz_X11_arrivals hT _ _ rfl) (hq_add (by omega) (by omega)) ?_
            refine v_ic (hz_X11_arrivals hT _ _ rfl) (fun hc12 => ?_) (fun hc12 => ?_)
            · have hc12 : ((9999 - mn) + 1) < sd := hc12
              refine v_load (v := (2, 0)) (hz_X11_arrivals hT _ _ rfl) rfl rfl ?_
              refine v_push (5) (hz_X11_arrivals hT _ _ rfl) rfl ?_
              refine v_call (w := 2) [some (2, 0), some (0, 5)] hO (hz_X11_arrivals hT _ _ rfl) rfl rfl ?_
              refine v_load (v := (2, 0)) (hz_X11_refuse hT _ _ rfl) rfl rfl ?_
              refine v_load (v := (0, 5)) (hz_X11_refuse hT _ _ rfl) rfl rfl ?_
              refine v_putf (r := 0) hO (hz_X11_refuse hT _ _ rfl) rfl (fun hf13 => ?_)
              refine v_push (0) (hz_X11_refuse hT _ _ rfl) rfl ?_
              refine v_ret (hz_X11_refuse hT _ _ rfl) (Or.inl rfl) ?_
              show vP D T N 143 48 (zset h 0 0 (0, 5)) [some (2, 0), some (0, k), some (0, sd), some (0, mn), none, none] [(0, 0)] _
              refine v_ret (hz_X11_arrivals hT _ _ rfl) (Or.inl rfl) ?_
              exact k4 hc1 hc4 hc6 hc8 hc10 hc12
            · have hc12 : sd ≤ ((9999 - mn) + 1) := Int.not_lt.mp hc12
              refine v_load (v := (2, 0)) (hz_X11_arrivals hT _ _ rfl) rfl rfl ?_
              refine v_getf (v := (2, 24)) (r := 0) (hz_X11_arrivals hT _ _ rfl) rfl rfl (fun _ => e7) ?_
              refine v_getR (c := 34) (r := 24) (hz_X11_arrivals hT _ _ rfl) rfl rfl rfl ?_
              refine v_call (w := 1) [some (2, 34)] hO (hz_X11_arrivals hT _ _ rfl) rfl rfl ?_
              refine v_load (v := (2, 34)) (hz_X5_areThere hT _ _ rfl) rfl rfl ?_
              refine v_getI (t := 0) (r := 34) (hz_X5_areThere hT _ _ rfl) rfl rfl rfl ?_
              refine v_push (-1) (hz_X5_areThere hT _ _ rfl) rfl ?_
              refine v_ic (hz_X5_areThere hT _ _ rfl) (fun hc14 => ?_) (fun hc14 => ?_)
              · have hc14 : (h 34 0).2 = -1 := hc14
                refine v_push (0) (hz_X5_areThere hT _ _ rfl) rfl ?_
                refine v_ret (hz_X5_areThere hT _ _ rfl) (Or.inl rfl) ?_
                show vP D T N 143 59 h [some (2, 0), some (0, k), some (0, sd), some (0, mn), none, none] [(0, 0)] _
                refine v_if (hz_X11_arrivals hT _ _ rfl) (fun _ => ?_) (fun hc15 => absurd (show (0 : Int) = 0 from (by omega)) hc15)
                refine v_load (v := (2, 0)) (hz_X11_arrivals hT _ _ rfl) rfl rfl ?_
                refine v_push (8) (hz_X11_arrivals hT _ _ rfl) rfl ?_
                refine v_call (w := 2) [some (2, 0), some (0, 8)] hO (hz_X11_arrivals hT _ _ rfl) rfl rfl ?_
                refine v_load (v := (2, 0)) (hz_X11_refuse hT _ _ rfl) rfl rfl ?_
                refine v_load (v := (0, 8)) (hz_X11_refuse hT _ _ rfl) rfl rfl ?_
                refine v_putf (r := 0) hO (hz_X11_refuse hT _ _ rfl) rfl (fun hf16 => ?_)
                refine v_push (0) (hz_X11_refuse hT _ _ rfl) rfl ?_
                refine v_ret (hz_X11_refuse hT _ _ rfl) (Or.inl rfl) ?_
                show vP D T N 143 68 (zset h 0 0 (0, 8)) [some (2, 0), some (0, k), some (0, sd), some (0, mn), none, none] [(0, 0)] _
                refine v_ret (hz_X11_arrivals hT _ _ rfl) (Or.inl rfl) ?_
                exact k5 hc1 hc4 hc6 hc8 hc10 hc12 hc14
              · have hc14 : (h 34 0).2 ≠ -1 := hc14
                refine v_push (1) (hz_X5_areThere hT _ _ rfl) rfl ?_
                refine v_goto (hz_X5_areThere hT _ _ rfl) ?_
                refine v_ret (hz_X5_areThere hT _ _ rfl) (Or.inl rfl) ?_
                show vP D T N 143 59 h [some (2, 0), some (0, k), some (0, sd), some (0, mn), none, none] [(0, 1)] _
                refine v_if (hz_X11_arrivals hT _ _ rfl) (fun hc17 => absurd (show (1 : Int) = 0 from hc17) (by omega)) (fun _ => ?_)
                refine v_push (0) (hz_X11_arrivals hT _ _ rfl) rfl ?_
                refine v_store1 [some (2, 0), some (0, k), some (0, sd), some (0, mn), some (0, 0), none] (hz_X11_arrivals hT _ _ rfl) ⟨rfl, Nat.ne_of_beq_eq_false rfl⟩ (Nat.le_of_ble_eq_true rfl) rfl ?_
                refine v_push (0) (hz_X11_arrivals hT _ _ rfl) rfl ?_
                refine v_store1 [some (2, 0), some (0, k), some (0, sd), some (0, mn), some (0, 0), some (0, 0)] (hz_X11_arrivals hT _ _ rfl) ⟨rfl, Nat.ne_of_beq_eq_false rfl⟩ (Nat.le_of_ble_eq_true rfl) rfl ?_
                exact k6 hc1 hc4 hc6 hc8 hc10 hc12 hc14
    · have hc4 : (P 0 3) ≤ k := Int.not_lt.mp hc4
      refine v_push (0) (hz_X2_hasCompany hT _ _ rfl) rfl ?_
      refine v_ret (hz_X2_hasCompany hT _ _ rfl) (Or.inl rfl) ?_
      show vP D T N 143 8 h [some (2, 0), some (0, k), some (0, sd), some (0, mn), none, none] [(0, 0)] _
      refine v_if (hz_X11_arrivals hT _ _ rfl) (fun _ => ?_) (fun hc18 => absurd (show (0 : Int) = 0 from (by omega)) hc18)
      refine v_load (v := (2, 0)) (hz_X11_arrivals hT _ _ rfl) rfl rfl ?_
      refine v_push (2) (hz_X11_arrivals hT _ _ rfl) rfl ?_
      refine v_call (w := 2) [some (2, 0), some (0, 2)] hO (hz_X11_arrivals hT _ _ rfl) rfl rfl ?_
      refine v_load (v := (2, 0)) (hz_X11_refuse hT _ _ rfl) rfl rfl ?_
      refine v_load (v := (0, 2)) (hz_X11_refuse hT _ _ rfl) rfl rfl ?_
      refine v_putf (r := 0) hO (hz_X11_refuse hT _ _ rfl) rfl (fun hf19 => ?_)
      refine v_push (0) (hz_X11_refuse hT _ _ rfl) rfl ?_
      refine v_ret (hz_X11_refuse hT _ _ rfl) (Or.inl rfl) ?_
      show vP D T N 143 16 (zset h 0 0 (0, 2)) [some (2, 0), some (0, k), some (0, sd), some (0, mn), none, none] [(0, 0)] _
      refine v_ret (hz_X11_arrivals hT _ _ rfl) (Or.inl rfl) ?_
      exact k7 hc1 hc4
theorem qc_arr75_24 {D : zD} {T : zT} (hT : hTab T) (hO : vOK T) {N : Nat} {h : zH} {Q : zR → Prop} (k sd mn n i : Int) (hv0 : zHv h) (e7 : h 0 7 = (2, 24)) (e8 : h 0 8 = (2, 39)) (bs : 0 ≤ sd ∧ sd ≤ 10000) (bn : 0 ≤ n ∧ n ≤ 20) (bi : 0 ≤ i ∧ i ≤ 20) (hB : ∀ (N : Nat) (g : zH) (l : List (Option zV)), vP D T N 25 0 g l [] (fun r => rtK 0 r.2 ∧ r.1 0 7 = g 0 7 ∧ r.1 0 8 = g 0 8)) (hC : ∀ (N : Nat) (g : zH) (l : List (Option zV)), vP D T N 90 0 g l [] (fun r => rtK 1 r.2 ∧ r.1 0 7 = g 0 7 ∧ r.1 0 8 = g 0 8)) (hA : ∀ (N : Nat) (g : zH) (l : List (Option zV)), vP D T N 40 0 g l [] (fun r => rtK 1 r.2 ∧ r.1 0 7 = g 0 7 ∧ r.1 0 8 = g 0 8)) (hF : ∀ (N : Nat) (g : zH) (l : List (Option zV)), vP D T N 185 0 g l [] (fun r => rtK 0 r.2))
    (k0 : (i < mn) → ∀ (g2 : zH), ((g2 0 7 = h 0 7 ∧ g2 0 8 = h 0 8)) → ∀ (g3 : zH) (z3 : Int), ((g3 0 7 = g2 0 7 ∧ g3 0 8 = g2 0 8)) → ∀ (g4 : zH) (z4 : Int), ((g4 0 7 = g3 0 7 ∧ g4 0 8 = g3 0 8)) → (z4 = 0) → vP D T N 143 75 g4 [some (2, 0), some (0, k), some (0, sd), some (0, mn), some (0, n), some (0, (i + 1))] [] Q)
    (k1 : (i < mn) → ∀ (g2 : zH), ((g2 0 7 = h 0 7 ∧ g2 0 8 = h 0 8)) → ∀ (g3 : zH) (z3 : Int), ((g3 0 7 = g2 0 7 ∧ g3 0 8 = g2 0 8)) → ∀ (g4 : zH) (z4 : Int), ((g4 0 7 = g3 0 7 ∧ g4 0 8 = g3 0 8)) → (z4 ≠ 0) → vP D T N 143 75 g4 [some (2, 0), some (0, k), some (0, sd), some (0, mn), some (0, (n + 1)), some (0, (i + 1))] [] Q)
    (k2 : (mn ≤ i) → ∀ (g6 : zH), Q (zset g6 0 0 (0, 0), some (0, 1))) :
    vP D T (N + 1) 143 75 h [some (2, 0), some (0, k), some (0, sd), some (0, mn), some (0, n), some (0, i)] [] Q := by
  refine v_loadS (v := (0, i)) (hz_X11_arrivals hT _ _ rfl) rfl rfl ?_
  refine v_load (v := (0, mn)) (hz_X11_arrivals hT _ _ rfl) rfl rfl ?_
  refine v_ic (hz_X11_arrivals hT _ _ rfl) (fun hc1 => ?_) (fun hc1 => ?_)
  · have hc1 : i < mn := hc1
    refine v_load (v := (2, 0)) (hz_X11_arrivals hT _ _ rfl) rfl rfl ?_
    refine v_getf (v := (2, 39)) (r := 0) (hz_X11_arrivals hT _ _ rfl) rfl rfl (fun _ => e8) ?_
    refine v_load (v := (2, 0)) (hz_X11_arrivals hT _ _ rfl) rfl rfl ?_
    refine v_getf (v := (2, 24)) (r := 0) (hz_X11_arrivals hT _ _ rfl) rfl rfl (fun _ => e7) ?_
    refine v_call (w := 2) [some (2, 39), some (2, 24)] hO (hz_X11_arrivals hT _ _ rfl) rfl rfl (vKF0_k (hB _ _ _) (fun g2 u2 => ?_))
    · show vP D T N 143 92 g2 [some (2, 0), some (0, k), some (0, sd), some (0, mn), some (0, n), some (0, i)] [] _
      refine vP_hv (fun hv2 => ?_)
      refine v_load (v := (2, 0)) (hz_X11_arrivals hT _ _ rfl) rfl rfl ?_
      refine v_getR (c := 117) (r := 0) (hz_X11_arrivals hT _ _ rfl) rfl rfl rfl ?_
      refine v_load (v := (2, 0)) (hz_X11_arrivals hT _ _ rfl) rfl rfl ?_
      refine v_getf (v := (2, 39)) (r := 0) (hz_X11_arrivals hT _ _ rfl) rfl rfl (fun _ => (Eq.trans u2.2 e8)) ?_
      refine v_load (v := (0, sd)) (hz_X11_arrivals hT _ _ rfl) rfl rfl ?_
      refine v_load (v := (0, i)) (hz_X11_arrivals hT _ _ rfl) rfl rfl ?_
      refine v_bin (w := (sd + i)) (hz_X11_arrivals hT _ _ rfl) (hq_add (by omega) (by omega)) ?_
      refine v_call (w := 4) [some (2, 117), some (2, 39), some (0, (sd + i)), none] hO (hz_X11_arrivals hT _ _ rfl) rfl rfl (vKF1_k (hC _ _ _) (fun g3 z3 u3 => ?_))
      · show vP D T N 143 107 g3 [some (2, 0), some (0, k), some (0, sd), some (0, mn), some (0, n), some (0, i)] [(0, z3)] _
        refine vP_hv (fun hv3 => ?_)
        refine v_pop (hz_X11_arrivals hT _ _ rfl) (Nat.ne_of_beq_eq_false rfl) ?_
        refine v_load (v := (2, 0)) (hz_X11_arrivals hT _ _ rfl) rfl rfl ?_
        refine v_getf (v := (2, 39)) (r := 0) (hz_X11_arrivals hT _ _ rfl) rfl rfl (fun _ => (Eq.trans u3.2 (Eq.trans u2.2 e8))) ?_
        refine v_load (v := (0, k)) (hz_X11_arrivals hT _ _ rfl) rfl rfl ?_
        refine v_call (w := 2) [some (2, 39), some (0, k)] hO (hz_X11_arrivals hT _ _ rfl) rfl rfl (vKF1_k (hA _ _ _) (fun g4 z4 u4 => ?_))
        · show vP D T N 143 116 g4 [some (2, 0), some (0, k), some (0, sd), some (0, mn), some (0, n), some (0, i)] [(0, z4)] _
          refine vP_hv (fun hv4 => ?_)
          refine v_if (hz_X11_arrivals hT _ _ rfl) (fun hc5 => ?_) (fun hc5 => ?_)
          · have hc5 : z4 = 0 := hc5
            refine v_iinc (x := i) (u := 1) (w := (i + 1)) [some (2, 0), some (0, k), some (0, sd), some (0, mn), some (0, n), some (0, (i + 1))] (hz_X11_arrivals hT _ _ rfl) rfl rfl (Nat.le_of_ble_eq_true rfl) (vz_inc (by omega) (by omega)) rfl ?_
            refine v_goto (hz_X11_arrivals hT _ _ rfl) ?_
            exact k0 hc1 g2 u2 g3 z3 u3 g4 z4 u4 hc5
          · have hc5 : z4 ≠ 0 := hc5
            refine v_iinc (x := n) (u := 1) (w := (n + 1)) [some (2, 0), some (0, k), some (0, sd), some (0, mn), some (0, (n + 1)), some (0, i)] (hz_X11_arrivals hT _ _ rfl) rfl rfl (Nat.le_of_ble_eq_true rfl) (vz_inc (by omega) (by omega)) rfl ?_
            refine v_iinc (x := i) (u := 1) (w := (i + 1)) [some (2, 0), some (0, k), some (0, sd), some (0, mn), some (0, (n + 1)), some (0, (i + 1))] (hz_X11_arrivals hT _ _ rfl) rfl rfl (Nat.le_of_ble_eq_true rfl) (vz_inc (by omega) (by omega)) rfl ?_
            refine v_goto (hz_X11_arrivals hT _ _ rfl) ?_
            exact k1 hc1 g2 u2 g3 z3 u3 g4 z4 u4 hc5
  · have hc1 : mn ≤ i := Int.not_lt.mp hc1
    refine v_load (v := (2, 0)) (hz_X11_arrivals hT _ _ rfl) rfl rfl ?_
    refine v_load (v := (0, n)) (hz_X11_arrivals hT _ _ rfl) rfl rfl ?_
    refine v_i2l (hz_X11_arrivals hT _ _ rfl) ?_
    refine v_load (v := (0, mn)) (hz_X11_arrivals hT _ _ rfl) rfl rfl ?_
    refine v_i2l (hz_X11_arrivals hT _ _ rfl) ?_
    refine v_call (w := 7) [some (2, 0), some (1, n), none, some (1, mn), none, none, none] hO (hz_X11_arrivals hT _ _ rfl) rfl rfl (vK0_k (hF _ _ _) (fun g6 => ?_))
    · show vP D T N 143 137 g6 [some (2, 0), some (0, k), some (0, sd), some (0, mn), some (0, n), some (0, i)] [] _
      refine vP_hv (fun hv6 => ?_)
      refine v_load (v := (2, 0)) (hz_X11_arrivals hT _ _ rfl) rfl rfl ?_
      refine v_call (w := 1) [some (2, 0)] hO (hz_X11_arrivals hT _ _ rfl) rfl rfl ?_
      refine v_load (v := (2, 0)) (hz_X11_accept hT _ _ rfl) rfl rfl ?_
      refine v_push (0) (hz_X11_accept hT _ _ rfl) rfl ?_
      refine v_putf (r := 0) hO (hz_X11_accept hT _ _ rfl) rfl (fun hf7 => ?_)
      refine v_push (1) (hz_X11_accept hT _ _ rfl) rfl ?_
      refine v_ret (hz_X11_accept hT _ _ rfl) (Or.inl rfl) ?_
      show vP D T N 143 141 (zset g6 0 0 (0, 0)) [some (2, 0), some (0, k), some (0, sd), some (0, mn), some (0, n), some (0, i)] [(0, 1)] _
      refine v_ret (hz_X11_arrivals hT _ _ rfl) (Or.inl rfl) ?_
      exact k2 hc1 g6
theorem qc_arr0_39 {D : zD} {T : zT} (hT : hTab T) (hO : vOK T) {N : Nat} {h : zH} {Q : zR → Prop} {P : PT} (k sd mn : Int) (hv0 : zHv h) (e7 : h 0 7 = (2, 39)) (g0 : h 39 0 = (0, P 0 0)) (g1 : h 39 1 = (0, P 0 1)) (g2 : h 39 2 = (0, P 0 2)) (g3 : h 39 3 = (0, P 0 3)) (lb : (0 ≤ P 0 0 ∧ P 0 0 ≤ 8) ∧ (0 ≤ P 0 1 ∧ P 0 1 ≤ 6) ∧ (0 ≤ P 0 2 ∧ P 0 2 ≤ 3) ∧ (0 ≤ P 0 3 ∧ P 0 3 ≤ 6))
    (k0 : (k < 0) → Q (zset h 0 0 (0, 2), some (0, 0)))
    (k1 : (0 ≤ k) → (k < (P 0 3)) → (sd < 0) → Q (zset h 0 0 (0, 5), some (0, 0)))
    (k2 : (0 ≤ k) → (k < (P 0 3)) → (0 ≤ sd) → (mn < 1) → Q (zset h 0 0 (0, 5), some (0, 0)))
    (k3 : (0 ≤ k) → (k < (P 0 3)) → (0 ≤ sd) → (1 ≤ mn) → (20 < mn) → Q (zset h 0 0 (0, 5), some (0, 0)))
    (k4 : (0 ≤ k) → (k < (P 0 3)) → (0 ≤ sd) → (1 ≤ mn) → (mn ≤ 20) → (((9999 - mn) + 1) < sd) → Q (zset h 0 0 (0, 5), some (0, 0)))
    (k5 : (0 ≤ k) → (k < (P 0 3)) → (0 ≤ sd) → (1 ≤ mn) → (mn ≤ 20) → (sd ≤ ((9999 - mn) + 1)) → ((h 49 0).2 = -1) → Q (zset h 0 0 (0, 8), some (0, 0)))
    (k6 : (0 ≤ k) → (k < (P 0 3)) → (0 ≤ sd) → (1 ≤ mn) → (mn ≤ 20) → (sd ≤ ((9999 - mn) + 1)) → ((h 49 0).2 ≠ -1) → vP D T N 143 75 h [some (2, 0), some (0, k), some (0, sd), some (0, mn), some (0, 0), some (0, 0)] [] Q)
    (k7 : (0 ≤ k) → ((P 0 3) ≤ k) → Q (zset h 0 0 (0, 2), some (0, 0))) :
    vP D T N 143 0 h [some (2, 0), some (0, k), some (0, sd), some (0, mn), none, none] [] Q := by
  refine v_load (v := (2, 0)) (hz_X11_arrivals hT _ _ rfl) rfl rfl ?_
  refine v_getf (v := (2, 39)) (r := 0) (hz_X11_arrivals hT _ _ rfl) rfl rfl (fun _ => e7) ?_
  refine v_load (v := (0, k)) (hz_X11_arrivals hT _ _ rfl) rfl rfl ?_
  refine v_call (w := 2) [some (2, 39), some (0, k)] hO (hz_X11_arrivals hT _ _ rfl) rfl rfl ?_
  refine v_load (v := (0, k)) (hz_X2_hasCompany hT _ _ rfl) rfl rfl ?_
  refine v_if (hz_X2_hasCompany hT _ _ rfl) (fun hc1 => ?_) (fun hc1 => ?_)
  · have hc1 : k < 0 := hc1
    refine v_push (0) (hz_X2_hasCompany hT _ _ rfl) rfl ?_
    refine v_ret (hz_X2_hasCompany hT _ _ rfl) (Or.inl rfl) ?_
    show vP D T N 143 8 h [some (2, 0), some (0, k), some (0, sd), some (0, mn), none, none] [(0, 0)] _
    refine v_if (hz_X11_arrivals hT _ _ rfl) (fun _ => ?_) (fun hc2 => absurd (show (0 : Int) = 0 from (by omega)) hc2)
    refine v_load (v := (2, 0)) (hz_X11_arrivals hT _ _ rfl) rfl rfl ?_
    refine v_push (2) (hz_X11_arrivals hT _ _ rfl) rfl ?_
    refine v_call (w := 2) [some (2, 0), some (0, 2)] hO (hz_X11_arrivals hT _ _ rfl) rfl rfl ?_
    refine v_load (v := (2, 0)) (hz_X11_refuse hT _ _ rfl) rfl rfl ?_
    refine v_load (v := (0, 2)) (hz_X11_refuse hT _ _ rfl) rfl rfl ?_
    refine v_putf (r := 0) hO (hz_X11_refuse hT _ _ rfl) rfl (fun hf3 => ?_)
    refine v_push (0) (hz_X11_refuse hT _ _ rfl) rfl ?_
    refine v_ret (hz_X11_refuse hT _ _ rfl) (Or.inl rfl) ?_
    show vP D T N 143 16 (zset h 0 0 (0, 2)) [some (2, 0), some (0, k), some (0, sd), some (0, mn), none, none] [(0, 0)] _
    refine v_ret (hz_X11_arrivals hT _ _ rfl) (Or.inl rfl) ?_
    exact k0 hc1
  · have hc1 : 0 ≤ k := Int.not_lt.mp hc1
    refine v_load (v := (0, k)) (hz_X2_hasCompany hT _ _ rfl) rfl rfl ?_
    refine v_load (v := (2, 39)) (hz_X2_hasCompany hT _ _ rfl) rfl rfl ?_
    refine v_getf (v := (0, (P 0 3))) (r := 39) (hz_X2_hasCompany hT _ _ rfl) rfl rfl (fun _ => g3) ?_
    refine v_ic (hz_X2_hasCompany hT _ _ rfl) (fun hc4 => ?_) (fun hc4 => ?_)
    · have hc4 : k < (P 0 3) := hc4
      refine v_push (1) (hz_X2_hasCompany hT _ _ rfl) rfl ?_
      refine v_goto (hz_X2_hasCompany hT _ _ rfl) ?_
      refine v_ret (hz_X2_hasCompany hT _ _ rfl) (Or.inl rfl) ?_
      show vP D T N 143 8 h [some (2, 0), some (0, k), some (0, sd), some (0, mn), none, none] [(0, 1)] _
      refine v_if (hz_X11_arrivals hT _ _ rfl) (fun hc5 => absurd (show (1 : Int) = 0 from hc5) (by omega)) (fun _ => ?_)
      refine v_load (v := (0, sd)) (hz_X11_arrivals hT _ _ rfl) rfl rfl ?_
      refine v_if (hz_X11_arrivals hT _ _ rfl) (fun hc6 => ?_) (fun hc6 => ?_)
      · have hc6 : sd < 0 := hc6
        refine v_load (v := (2, 0)) (hz_X11_arrivals hT _ _ rfl) rfl rfl ?_
        refine v_push (5) (hz_X11_arrivals hT _ _ rfl) rfl ?_
        refine v_call (w := 2) [some (2, 0), some (0, 5)] hO (hz_X11_arrivals hT _ _ rfl) rfl rfl ?_
        refine v_load (v := (2, 0)) (hz_X11_refuse hT _ _ rfl) rfl rfl ?_
        refine v_load (v := (0, 5)) (hz_X11_refuse hT _ _ rfl) rfl rfl ?_
        refine v_putf (r := 0) hO (hz_X11_refuse hT _ _ rfl) rfl (fun hf7 => ?_)
        refine v_push (0) (hz_X11_refuse hT _ _ rfl) rfl ?_
        refine v_ret (hz_X11_refuse hT _ _ rfl) (Or.inl rfl) ?_
        show vP D T N 143 48 (zset h 0 0 (0, 5)) [some (2, 0), some (0, k), some (0, sd), some (0, mn), none, none] [(0, 0)] _
        refine v_ret (hz_X11_arrivals hT _ _ rfl) (Or.inl rfl) ?_
        exact k1 hc1 hc4 hc6
      · have hc6 : 0 ≤ sd := Int.not_lt.mp hc6
        refine v_load (v := (0, mn)) (hz_X11_arrivals hT _ _ rfl) rfl rfl ?_
        refine v_push (1) (hz_X11_arrivals hT _ _ rfl) rfl ?_
        refine v_ic (hz_X11_arrivals hT _ _ rfl) (fun hc8 => ?_) (fun hc8 => ?_)
        · have hc8 : mn < 1 := hc8
          refine v_load (v := (2, 0)) (hz_X11_arrivals hT _ _ rfl) rfl rfl ?_
          refine v_push (5) (hz_X11_arrivals hT _ _ rfl) rfl ?_
          refine v_call (w := 2) [some (2, 0), some (0, 5)] hO (hz_X11_arrivals hT _ _ rfl) rfl rfl ?_
          refine v_load (v := (2, 0)) (hz_X11_refuse hT _ _ rfl) rfl rfl ?_
          refine v_load (v := (0, 5)) (hz_X11_refuse hT _ _ rfl) rfl rfl ?_
          refine v_putf (r := 0) hO (hz_X11_refuse hT _ _ rfl) rfl (fun hf9 => ?_)
          refine v_push (0) (hz_X11_refuse hT _ _ rfl) rfl ?_
          refine v_ret (hz_X11_refuse hT _ _ rfl) (Or.inl rfl) ?_
          show vP D T N 143 48 (zset h 0 0 (0, 5)) [some (2, 0), some (0, k), some (0, sd), some (0, mn), none, none] [(0, 0)] _
          refine v_ret (hz_X11_arrivals hT _ _ rfl) (Or.inl rfl) ?_
          exact k2 hc1 hc4 hc6 hc8
        · have hc8 : 1 ≤ mn := Int.not_lt.mp hc8
          refine v_load (v := (0, mn)) (hz_X11_arrivals hT _ _ rfl) rfl rfl ?_
          refine v_push (20) (hz_X11_arrivals hT _ _ rfl) rfl ?_
          refine v_ic (hz_X11_arrivals hT _ _ rfl) (fun hc10 => ?_) (fun hc10 => ?_)
          · have hc10 : 20 < mn := hc10
            refine v_load (v := (2, 0)) (hz_X11_arrivals hT _ _ rfl) rfl rfl ?_
            refine v_push (5) (hz_X11_arrivals hT _ _ rfl) rfl ?_
            refine v_call (w := 2) [some (2, 0), some (0, 5)] hO (hz_X11_arrivals hT _ _ rfl) rfl rfl ?_
            refine v_load (v := (2, 0)) (hz_X11_refuse hT _ _ rfl) rfl rfl ?_
            refine v_load (v := (0, 5)) (hz_X11_refuse hT _ _ rfl) rfl rfl ?_
            refine v_putf (r := 0) hO (hz_X11_refuse hT _ _ rfl) rfl (fun hf11 => ?_)
            refine v_push (0) (hz_X11_refuse hT _ _ rfl) rfl ?_
            refine v_ret (hz_X11_refuse hT _ _ rfl) (Or.inl rfl) ?_
            show vP D T N 143 48 (zset h 0 0 (0, 5)) [some (2, 0), some (0, k), some (0, sd), some (0, mn), none, none] [(0, 0)] _
            refine v_ret (hz_X11_arrivals hT _ _ rfl) (Or.inl rfl) ?_
            exact k3 hc1 hc4 hc6 hc8 hc10
          · have hc10 : mn ≤ 20 := Int.not_lt.mp hc10
            refine v_load (v := (0, sd)) (hz_X11_arrivals hT _ _ rfl) rfl rfl ?_
            refine v_push (9999) (hz_X11_arrivals hT _ _ rfl) rfl ?_
            refine v_load (v := (0, mn)) (hz_X11_arrivals hT _ _ rfl) rfl rfl ?_
            refine v_bin (w := (9999 - mn)) (hz_X11_arrivals hT _ _ rfl) (hq_sub (by omega) (by omega)) ?_
            refine v_push (1) (hz_X11_arrivals hT _ _ rfl) rfl ?_
            refine v_bin (w := ((9999 - mn) + 1)) (hz_X11_arrivals hT _ _ rfl) (hq_add (by omega) (by omega)) ?_
            refine v_ic (hz_X11_arrivals hT _ _ rfl) (fun hc12 => ?_) (fun hc12 => ?_)
            · have hc12 : ((9999 - mn) + 1) < sd := hc12
              refine v_load (v := (2, 0)) (hz_X11_arrivals hT _ _ rfl) rfl rfl ?_
              refine v_push (5) (hz_X11_arrivals hT _ _ rfl) rfl ?_
              refine v_call (w := 2) [some (2, 0), some (0, 5)] hO (hz_X11_arrivals hT _ _ rfl) rfl rfl ?_
              refine v_load (v := (2, 0)) (hz_X11_refuse hT _ _ rfl) rfl rfl ?_
              refine v_load (v := (0, 5)) (hz_X11_refuse hT _ _ rfl) rfl rfl ?_
              refine v_putf (r := 0) hO (hz_X11_refuse hT _ _ rfl) rfl (fun hf13 => ?_)
              refine v_push (0) (hz_X11_refuse hT _ _ rfl) rfl ?_
              refine v_ret (hz_X11_refuse hT _ _ rfl) (Or.inl rfl) ?_
              show vP D T N 143 48 (zset h 0 0 (0, 5)) [some (2, 0), some (0, k), some (0, sd), some (0, mn), none, none] [(0, 0)] _
              refine v_ret (hz_X11_arrivals hT _ _ rfl) (Or.inl rfl) ?_
              exact k4 hc1 hc4 hc6 hc8 hc10 hc12
            · have hc12 : sd ≤ ((9999 - mn) + 1) := Int.not_lt.mp hc12
              refine v_load (v := (2, 0)) (hz_X11_arrivals hT _ _ rfl) rfl rfl ?_
              refine v_getf (v := (2, 39)) (r := 0) (hz_X11_arrivals hT _ _ rfl) rfl rfl (fun _ => e7) ?_
              refine v_getR (c := 49) (r := 39) (hz_X11_arrivals hT _ _ rfl) rfl rfl rfl ?_
              refine v_call (w := 1) [some (2, 49)] hO (hz_X11_arrivals hT _ _ rfl) rfl rfl ?_
              refine v_load (v := (2, 49)) (hz_X5_areThere hT _ _ rfl) rfl rfl ?_
              refine v_getI (t := 0) (r := 49) (hz_X5_areThere hT _ _ rfl) rfl rfl rfl ?_
              refine v_push (-1) (hz_X5_areThere hT _ _ rfl) rfl ?_
              refine v_ic (hz_X5_areThere hT _ _ rfl) (fun hc14 => ?_) (fun hc14 => ?_)
              · have hc14 : (h 49 0).2 = -1 := hc14
                refine v_push (0) (hz_X5_areThere hT _ _ rfl) rfl ?_
                refine v_ret (hz_X5_areThere hT _ _ rfl) (Or.inl rfl) ?_
                show vP D T N 143 59 h [some (2, 0), some (0, k), some (0, sd), some (0, mn), none, none] [(0, 0)] _
                refine v_if (hz_X11_arrivals hT _ _ rfl) (fun _ => ?_) (fun hc15 => absurd (show (0 : Int) = 0 from (by omega)) hc15)
                refine v_load (v := (2, 0)) (hz_X11_arrivals hT _ _ rfl) rfl rfl ?_
                refine v_push (8) (hz_X11_arrivals hT _ _ rfl) rfl ?_
                refine v_call (w := 2) [some (2, 0), some (0, 8)] hO (hz_X11_arrivals hT _ _ rfl) rfl rfl ?_
                refine v_load (v := (2, 0)) (hz_X11_refuse hT _ _ rfl) rfl rfl ?_
                refine v_load (v := (0, 8)) (hz_X11_refuse hT _ _ rfl) rfl rfl ?_
                refine v_putf (r := 0) hO (hz_X11_refuse hT _ _ rfl) rfl (fun hf16 => ?_)
                refine v_push (0) (hz_X11_refuse hT _ _ rfl) rfl ?_
                refine v_ret (hz_X11_refuse hT _ _ rfl) (Or.inl rfl) ?_
                show vP D T N 143 68 (zset h 0 0 (0, 8)) [some (2, 0), some (0, k), some (0, sd), some (0, mn), none, none] [(0, 0)] _
                refine v_ret (hz_X11_arrivals hT _ _ rfl) (Or.inl rfl) ?_
                exact k5 hc1 hc4 hc6 hc8 hc10 hc12 hc14
              · have hc14 : (h 49 0).2 ≠ -1 := hc14
                refine v_push (1) (hz_X5_areThere hT _ _ rfl) rfl ?_
                refine v_goto (hz_X5_areThere hT _ _ rfl) ?_
                refine v_ret (hz_X5_areThere hT _ _ rfl) (Or.inl rfl) ?_
                show vP D T N 143 59 h [some (2, 0), some (0, k), some (0, sd), some (0, mn), none, none] [(0, 1)] _
                refine v_if (hz_X11_arrivals hT _ _ rfl) (fun hc17 => absurd (show (1 : Int) = 0 from hc17) (by omega)) (fun _ => ?_)
                refine v_push (0) (hz_X11_arrivals hT _ _ rfl) rfl ?_
                refine v_store1 [some (2, 0), some (0, k), some (0, sd), some (0, mn), some (0, 0), none] (hz_X11_arrivals hT _ _ rfl) ⟨rfl, Nat.ne_of_beq_eq_false rfl⟩ (Nat.le_of_ble_eq_true rfl) rfl ?_
                refine v_push (0) (hz_X11_arrivals hT _ _ rfl) rfl ?_
                refine v_store1 [some (2, 0), some (0, k), some (0, sd), some (0, mn), some (0, 0), some (0, 0)] (hz_X11_arrivals hT _ _ rfl) ⟨rfl, Nat.ne_of_beq_eq_false rfl⟩ (Nat.le_of_ble_eq_true rfl) rfl ?_
                exact k6 hc1 hc4 hc6 hc8 hc10 hc12 hc14
    · have hc4 : (P 0 3) ≤ k := Int.not_lt.mp hc4
      refine v_push (0) (hz_X2_hasCompany hT _ _ rfl) rfl ?_
      refine v_ret (hz_X2_hasCompany hT _ _ rfl) (Or.inl rfl) ?_
      show vP D T N 143 8 h [some (2, 0), some (0, k), some (0, sd), some (0, mn), none, none] [(0, 0)] _
      refine v_if (hz_X11_arrivals hT _ _ rfl) (fun _ => ?_) (fun hc18 => absurd (show (0 : Int) = 0 from (by omega)) hc18)
      refine v_load (v := (2, 0)) (hz_X11_arrivals hT _ _ rfl) rfl rfl ?_
      refine v_push (2) (hz_X11_arrivals hT _ _ rfl) rfl ?_
      refine v_call (w := 2) [some (2, 0), some (0, 2)] hO (hz_X11_arrivals hT _ _ rfl) rfl rfl ?_
      refine v_load (v := (2, 0)) (hz_X11_refuse hT _ _ rfl) rfl rfl ?_
      refine v_load (v := (0, 2)) (hz_X11_refuse hT _ _ rfl) rfl rfl ?_
      refine v_putf (r := 0) hO (hz_X11_refuse hT _ _ rfl) rfl (fun hf19 => ?_)
      refine v_push (0) (hz_X11_refuse hT _ _ rfl) rfl ?_
      refine v_ret (hz_X11_refuse hT _ _ rfl) (Or.inl rfl) ?_
      show vP D T N 143 16 (zset h 0 0 (0, 2)) [some (2, 0), some (0, k), some (0, sd), some (0, mn), none, none] [(0, 0)] _
      refine v_ret (hz_X11_arrivals hT _ _ rfl) (Or.inl rfl) ?_
      exact k7 hc1 hc4
theorem qc_arr75_39 {D : zD} {T : zT} (hT : hTab T) (hO : vOK T) {N : Nat} {h : zH} {Q : zR → Prop} (k sd mn n i : Int) (hv0 : zHv h) (e7 : h 0 7 = (2, 39)) (e8 : h 0 8 = (2, 24)) (bs : 0 ≤ sd ∧ sd ≤ 10000) (bn : 0 ≤ n ∧ n ≤ 20) (bi : 0 ≤ i ∧ i ≤ 20) (hB : ∀ (N : Nat) (g : zH) (l : List (Option zV)), vP D T N 25 0 g l [] (fun r => rtK 0 r.2 ∧ r.1 0 7 = g 0 7 ∧ r.1 0 8 = g 0 8)) (hC : ∀ (N : Nat) (g : zH) (l : List (Option zV)), vP D T N 90 0 g l [] (fun r => rtK 1 r.2 ∧ r.1 0 7 = g 0 7 ∧ r.1 0 8 = g 0 8)) (hA : ∀ (N : Nat) (g : zH) (l : List (Option zV)), vP D T N 40 0 g l [] (fun r => rtK 1 r.2 ∧ r.1 0 7 = g 0 7 ∧ r.1 0 8 = g 0 8)) (hF : ∀ (N : Nat) (g : zH) (l : List (Option zV)), vP D T N 185 0 g l [] (fun r => rtK 0 r.2))
    (k0 : (i < mn) → ∀ (g2 : zH), ((g2 0 7 = h 0 7 ∧ g2 0 8 = h 0 8)) → ∀ (g3 : zH) (z3 : Int), ((g3 0 7 = g2 0 7 ∧ g3 0 8 = g2 0 8)) → ∀ (g4 : zH) (z4 : Int), ((g4 0 7 = g3 0 7 ∧ g4 0 8 = g3 0 8)) → (z4 = 0) → vP D T N 143 75 g4 [some (2, 0), some (0, k), some (0, sd), some (0, mn), some (0, n), some (0, (i + 1))] [] Q)
    (k1 : (i < mn) → ∀ (g2 : zH), ((g2 0 7 = h 0 7 ∧ g2 0 8 = h 0 8)) → ∀ (g3 : zH) (z3 : Int), ((g3 0 7 = g2 0 7 ∧ g3 0 8 = g2 0 8)) → ∀ (g4 : zH) (z4 : Int), ((g4 0 7 = g3 0 7 ∧ g4 0 8 = g3 0 8)) → (z4 ≠ 0) → vP D T N 143 75 g4 [some (2, 0), some (0, k), some (0, sd), some (0, mn), some (0, (n + 1)), some (0, (i + 1))] [] Q)
    (k2 : (mn ≤ i) → ∀ (g6 : zH), Q (zset g6 0 0 (0, 0), some (0, 1))) :
    vP D T (N + 1) 143 75 h [some (2, 0), some (0, k), some (0, sd), some (0, mn), some (0, n), some (0, i)] [] Q := by
  refine v_loadS (v := (0, i)) (hz_X11_arrivals hT _ _ rfl) rfl rfl ?_
  refine v_load (v := (0, mn)) (hz_X11_arrivals hT _ _ rfl) rfl rfl ?_
  refine v_ic (hz_X11_arrivals hT _ _ rfl) (fun hc1 => ?_) (fun hc1 => ?_)
  · have hc1 : i < mn := hc1
    refine v_load (v := (2, 0)) (hz_X11_arrivals hT _ _ rfl) rfl rfl ?_
    refine v_getf (v := (2, 24)) (r := 0) (hz_X11_arrivals hT _ _ rfl) rfl rfl (fun _ => e8) ?_
    refine v_load (v := (2, 0)) (hz_X11_arrivals hT _ _ rfl) rfl rfl ?_
    refine v_getf (v := (2, 39)) (r := 0) (hz_X11_arrivals hT _ _ rfl) rfl rfl (fun _ => e7) ?_
    refine v_call (w := 2) [some (2, 24), some (2, 39)] hO (hz_X11_arrivals hT _ _ rfl) rfl rfl (vKF0_k (hB _ _ _) (fun g2 u2 => ?_))
    · show vP D T N 143 92 g2 [some (2, 0), some (0, k), some (0, sd), some (0, mn), some (0, n), some (0, i)] [] _
      refine vP_hv (fun hv2 => ?_)
      refine v_load (v := (2, 0)) (hz_X11_arrivals hT _ _ rfl) rfl rfl ?_
      refine v_getR (c := 117) (r := 0) (hz_X11_arrivals hT _ _ rfl) rfl rfl rfl ?_
      refine v_load (v := (2, 0)) (hz_X11_arrivals hT _ _ rfl) rfl rfl ?_
      refine v_getf (v := (2, 24)) (r := 0) (hz_X11_arrivals hT _ _ rfl) rfl rfl (fun _ => (Eq.trans u2.2 e8)) ?_
      refine v_load (v := (0, sd)) (hz_X11_arrivals hT _ _ rfl) rfl rfl ?_
      refine v_load (v := (0, i)) (hz_X11_arrivals hT _ _ rfl) rfl rfl ?_
      refine v_bin (w := (sd + i)) (hz_X11_arrivals hT _ _ rfl) (hq_add (by omega) (by omega)) ?_
      refine v_call (w := 4) [some (2, 117), some (2, 24), some (0, (sd + i)), none] hO (hz_X11_arrivals hT _ _ rfl) rfl rfl (vKF1_k (hC _ _ _) (fun g3 z3 u3 => ?_))
      · show vP D T N 143 107 g3 [some (2, 0), some (0, k), some (0, sd), some (0, mn), some (0, n), some (0, i)] [(0, z3)] _
        refine vP_hv (fun hv3 => ?_)
        refine v_pop (hz_X11_arrivals hT _ _ rfl) (Nat.ne_of_beq_eq_false rfl) ?_
        refine v_load (v := (2, 0)) (hz_X11_arrivals hT _ _ rfl) rfl rfl ?_
        refine v_getf (v := (2, 24)) (r := 0) (hz_X11_arrivals hT _ _ rfl) rfl rfl (fun _ => (Eq.trans u3.2 (Eq.trans u2.2 e8))) ?_
        refine v_load (v := (0, k)) (hz_X11_arrivals hT _ _ rfl) rfl rfl ?_
        refine v_call (w := 2) [some (2, 24), some (0, k)] hO (hz_X11_arrivals hT _ _ rfl) rfl rfl (vKF1_k (hA _ _ _) (fun g4 z4 u4 => ?_))
        · show vP D T N 143 116 g4 [some (2, 0), some (0, k), some (0, sd), some (0, mn), some (0, n), some (0, i)] [(0, z4)] _
          refine vP_hv (fun hv4 => ?_)
          refine v_if (hz_X11_arrivals hT _ _ rfl) (fun hc5 => ?_) (fun hc5 => ?_)
          · have hc5 : z4 = 0 := hc5
            refine v_iinc (x := i) (u := 1) (w := (i + 1)) [some (2, 0), some (0, k), some (0, sd), some (0, mn), some (0, n), some (0, (i + 1))] (hz_X11_arrivals hT _ _ rfl) rfl rfl (Nat.le_of_ble_eq_true rfl) (vz_inc (by omega) (by omega)) rfl ?_
            refine v_goto (hz_X11_arrivals hT _ _ rfl) ?_
            exact k0 hc1 g2 u2 g3 z3 u3 g4 z4 u4 hc5
          · have hc5 : z4 ≠ 0 := hc5
            refine v_iinc (x := n) (u := 1) (w := (n + 1)) [some (2, 0), some (0, k), some (0, sd), some (0, mn), some (0, (n + 1)), some (0, i)] (hz_X11_arrivals hT _ _ rfl) rfl rfl (Nat.le_of_ble_eq_true rfl) (vz_inc (by omega) (by omega)) rfl ?_
            refine v_iinc (x := i) (u := 1) (w := (i + 1)) [some (2, 0), some (0, k), some (0, sd), some (0, mn), some (0, (n + 1)), some (0, (i + 1))] (hz_X11_arrivals hT _ _ rfl) rfl rfl (Nat.le_of_ble_eq_true rfl) (vz_inc (by omega) (by omega)) rfl ?_
            refine v_goto (hz_X11_arrivals hT _ _ rfl) ?_
            exact k1 hc1 g2 u2 g3 z3 u3 g4 z4 u4 hc5
  · have hc1 : mn ≤ i := Int.not_lt.mp hc1
    refine v_load (v := (2, 0)) (hz_X11_arrivals hT _ _ rfl) rfl rfl ?_
    refine v_load (v := (0, n)) (hz_X11_arrivals hT _ _ rfl) rfl rfl ?_
    refine v_i2l (hz_X11_arrivals hT _ _ rfl) ?_
    refine v_load (v := (0, mn)) (hz_X11_arrivals hT _ _ rfl) rfl rfl ?_
    refine v_i2l (hz_X11_arrivals hT _ _ rfl) ?_
    refine v_call (w := 7) [some (2, 0), some (1, n), none, some (1, mn), none, none, none] hO (hz_X11_arrivals hT _ _ rfl) rfl rfl (vK0_k (hF _ _ _) (fun g6 => ?_))
    · show vP D T N 143 137 g6 [some (2, 0), some (0, k), some (0, sd), some (0, mn), some (0, n), some (0, i)] [] _
      refine vP_hv (fun hv6 => ?_)
      refine v_load (v := (2, 0)) (hz_X11_arrivals hT _ _ rfl) rfl rfl ?_
      refine v_call (w := 1) [some (2, 0)] hO (hz_X11_arrivals hT _ _ rfl) rfl rfl ?_
      refine v_load (v := (2, 0)) (hz_X11_accept hT _ _ rfl) rfl rfl ?_
      refine v_push (0) (hz_X11_accept hT _ _ rfl) rfl ?_
      refine v_putf (r := 0) hO (hz_X11_accept hT _ _ rfl) rfl (fun hf7 => ?_)
      refine v_push (1) (hz_X11_accept hT _ _ rfl) rfl ?_
      refine v_ret (hz_X11_accept hT _ _ rfl) (Or.inl rfl) ?_
      show vP D T N 143 141 (zset g6 0 0 (0, 0)) [some (2, 0), some (0, k), some (0, sd), some (0, mn), some (0, n), some (0, i)] [(0, 1)] _
      refine v_ret (hz_X11_arrivals hT _ _ rfl) (Or.inl rfl) ?_
      exact k2 hc1 g6
def fs_becomeLike7 : List (Nat × Nat) := [(25, 0), (77, 0)]
theorem fs_becomeLike7_ok : fwC fs_becomeLike7 11 7 = true := by decide +kernel
def fs_carryOut7 : List (Nat × Nat) := [(90, 0), (0, 0), (27, 0), (28, 0), (33, 0), (35, 0), (38, 0), (39, 0), (40, 0), (41, 0), (46, 0), (48, 0), (52, 0), (53, 0), (55, 0), (56, 0), (57, 0), (59, 0), (60, 0), (91, 0), (92, 0), (93, 0), (94, 0), (95, 0), (96, 0), (97, 0), (98, 0), (99, 0), (132, 0), (133, 0), (134, 0), (136, 0), (137, 0), (138, 0), (139, 0)]
theorem fs_carryOut7_ok : fwC fs_carryOut7 11 7 = true := by decide +kernel
def fs_hasArrived7 : List (Nat × Nat) := [(40, 0)]
theorem fs_hasArrived7_ok : fwC fs_hasArrived7 11 7 = true := by decide +kernel
def fs_becomeLike8 : List (Nat × Nat) := [(25, 0), (77, 0)]
theorem fs_becomeLike8_ok : fwC fs_becomeLike8 11 8 = true := by decide +kernel
def fs_carryOut8 : List (Nat × Nat) := [(90, 0), (0, 0), (27, 0), (28, 0), (33, 0), (35, 0), (38, 0), (39, 0), (40, 0), (41, 0), (46, 0), (48, 0), (52, 0), (53, 0), (55, 0), (56, 0), (57, 0), (59, 0), (60, 0), (91, 0), (92, 0), (93, 0), (94, 0), (95, 0), (96, 0), (97, 0), (98, 0), (99, 0), (132, 0), (133, 0), (134, 0), (136, 0), (137, 0), (138, 0), (139, 0)]
theorem fs_carryOut8_ok : fwC fs_carryOut8 11 8 = true := by decide +kernel
def fs_hasArrived8 : List (Nat × Nat) := [(40, 0)]
theorem fs_hasArrived8_ok : fwC fs_hasArrived8 11 8 = true := by decide +kernel
theorem ar_fr {S : List (Nat × Nat)} {mj b : Nat} (t : List (List (Option zX))) (ht : x_nth zMT mj = some t) (hb : rtT b t = true) (h2 : b ≤ 2) (h7 : fwC S 11 7 = true) (h8 : fwC S 11 8 = true) (hS : inS S mj 0 = true) {D : zD} (N : Nat) (g : zH) (l : List (Option zV)) : vP D TLw N mj 0 g l [] (fun r => rtK b r.2 ∧ r.1 0 7 = g 0 7 ∧ r.1 0 8 = g 0 8) := vP_and (vP_rt (b := b) t ht hb h2) (vP_and (vP_fr (w := 20) rfl (fwOK_of h7) hS) (vP_fr (w := 20) rfl (fwOK_of h8) hS))
theorem cx_arr75_24 {D : zD} {N : Nat} {h : zH} {k sd mn n i : Int} (e7 : h 0 7 = (2, 24)) (e8 : h 0 8 = (2, 39)) (bs : 0 ≤ sd ∧ sd ≤ 10000) (bm : mn ≤ 20) (hn : 0 ≤ n ∧ n ≤ i) (hi : i ≤ mn) : vP D TLw N 143 75 h [some (2, 0), some (0, k), some (0, sd), some (0, mn), some (0, n), some (0, i)] [] (fun r => r.2 = some (0, 1)) := by
  refine vP_loop (fun h' l => ∃ n i : Int, l = [some (2, 0), some (0, k), some (0, sd), some (0, mn), some (0, n), some (0, i)] ∧ h' 0 7 = (2, 24) ∧ h' 0 8 = (2, 39) ∧ (0 ≤ n ∧ n ≤ i) ∧ i ≤ mn) ?_ N _ _ ⟨n, i, rfl, e7, e8, hn, hi⟩
  rintro N h' l ⟨n, i, rfl, e7, e8, hn, hi⟩ ih
  refine vP_hv (fun hv => qc_arr75_24 TLw_T vOK_T k sd mn n i hv e7 e8 bs ⟨by omega, by omega⟩ ⟨by omega, by omega⟩ (ar_fr zt_X2_becomeLike rfl (by decide +kernel) (by decide) fs_becomeLike7_ok fs_becomeLike8_ok (by decide)) (ar_fr zt_X7_carryOut rfl (by decide +kernel) (by decide) fs_carryOut7_ok fs_carryOut8_ok (by decide)) (ar_fr zt_X2_hasArrived rfl (by decide +kernel) (by decide) fs_hasArrived7_ok fs_hasArrived8_ok (by decide)) (fun _ _ _ => vP_rt (b := 0) zt_X11_tellFraction rfl (by decide +kernel) (by decide)) ?_ ?_ ?_)
  · intro c1 g2 u2 g3 z3 u3 g4 z4 u4 c5
    exact ih _ _ ⟨_, _, rfl, u4.1.trans (u3.1.trans (u2.1.trans e7)), u4.2.trans (u3.2.trans (u2.2.trans e8)), ⟨by omega, by omega⟩, by omega⟩
  · intro c1 g2 u2 g3 z3 u3 g4 z4 u4 c5
    exact ih _ _ ⟨_, _, rfl, u4.1.trans (u3.1.trans (u2.1.trans e7)), u4.2.trans (u3.2.trans (u2.2.trans e8)), ⟨by omega, by omega⟩, by omega⟩
  · intros
    rfl
theorem cx_arr75_39 {D : zD} {N : Nat} {h : zH} {k sd mn n i : Int} (e7 : h 0 7 = (2, 39)) (e8 : h 0 8 = (2, 24)) (bs : 0 ≤ sd ∧ sd ≤ 10000) (bm : mn ≤ 20) (hn : 0 ≤ n ∧ n ≤ i) (hi : i ≤ mn) : vP D TLw N 143 75 h [some (2, 0), some (0, k), some (0, sd), some (0, mn), some (0, n), some (0, i)] [] (fun r => r.2 = some (0, 1)) := by
  refine vP_loop (fun h' l => ∃ n i : Int, l = [some (2, 0), some (0, k), some (0, sd), some (0, mn), some (0, n), some (0, i)] ∧ h' 0 7 = (2, 39) ∧ h' 0 8 = (2, 24) ∧ (0 ≤ n ∧ n ≤ i) ∧ i ≤ mn) ?_ N _ _ ⟨n, i, rfl, e7, e8, hn, hi⟩
  rintro N h' l ⟨n, i, rfl, e7, e8, hn, hi⟩ ih
  refine vP_hv (fun hv => qc_arr75_39 TLw_T vOK_T k sd mn n i hv e7 e8 bs ⟨by omega, by omega⟩ ⟨by omega, by omega⟩ (ar_fr zt_X2_becomeLike rfl (by decide +kernel) (by decide) fs_becomeLike7_ok fs_becomeLike8_ok (by decide)) (ar_fr zt_X7_carryOut rfl (by decide +kernel) (by decide) fs_carryOut7_ok fs_carryOut8_ok (by decide)) (ar_fr zt_X2_hasArrived rfl (by decide +kernel) (by decide) fs_hasArrived7_ok fs_hasArrived8_ok (by decide)) (fun _ _ _ => vP_rt (b := 0) zt_X11_tellFraction rfl (by decide +kernel) (by decide)) ?_ ?_ ?_)
  · intro c1 g2 u2 g3 z3 u3 g4 z4 u4 c5
    exact ih _ _ ⟨_, _, rfl, u4.1.trans (u3.1.trans (u2.1.trans e7)), u4.2.trans (u3.2.trans (u2.2.trans e8)), ⟨by omega, by omega⟩, by omega⟩
  · intro c1 g2 u2 g3 z3 u3 g4 z4 u4 c5
    exact ih _ _ ⟨_, _, rfl, u4.1.trans (u3.1.trans (u2.1.trans e7)), u4.2.trans (u3.2.trans (u2.2.trans e8)), ⟨by omega, by omega⟩, by omega⟩
  · intros
    rfl
theorem lRk_arrE {D : zD} (hD : ∀ i, -2147483648 ≤ D.2 i ∧ D.2 i ≤ 2147483647) {h h1 h2 : zH} {x y z : Nat} {v1 v2 : Int} (hZ : lZ D h) (hZ1 : lZ D h1) (hR : lR h) (z1 : zRun D TLw 614 143 0 (h, zargs 0 [(2, 0), (0, D.2 x), (0, D.2 y), (0, D.2 z)], []) (h1, some (0, v1))) (f1 : aFr lM_143 h h1) (z2 : zRun D TLw 614 196 0 (h1, zargs 0 [(2, 121), (0, D.2 x), (0, D.2 y), (0, D.2 z)], []) (h2, some (0, v2))) (f2 : aFr lM_196 h1 h2) : lR h2 ∧ v1 = v2 := by
  refine ⟨(lRk_arrivals hD hZ hZ1 hR z1 f1 z2 f2).1, ?_⟩
  have hR' := hR
  obtain ⟨_, _, _, r, c, s1, s2, s3, P, gc, hp, lb, go⟩ := hR'
  have k1 : ∀ a k, aIn [(126, 3, 3), (126, 275, 275)] a k → h1 a k = h a k := fun a k hi => f1.keep (S := [(126, 3, 3), (126, 275, 275)]) (by decide +kernel) hi
  have e3 : (h1 126 3).2 = P 0 3 := by
    rw [k1 126 3 ⟨(126, 3, 3), by decide, rfl, by decide, by decide⟩]
    exact congrArg Prod.snd (hp.1.2.2.2 : h 126 3 = (0, P 0 3))
  have e5 : h1 126 275 = h 126 275 := k1 126 275 ⟨(126, 275, 275), by decide, rfl, by decide, by decide⟩
  have b3 : 0 ≤ (h1 126 3).2 ∧ (h1 126 3).2 ≤ 6 := by
    rw [e3]
    exact lb.2.2.2
  have go : ((h (c + 10) 0).2 = -1 ∧ (h1 126 275).2 = 0) ∨ (0 ≤ (h (c + 10) 0).2 ∧ (h1 126 275).2 = 1) := by
    rw [e5]
    exact go
  have a1 : v1 = (if 0 ≤ D.2 x ∧ D.2 x < P 0 3 ∧ 1 ≤ D.2 z ∧ D.2 z ≤ 20 ∧ 0 ≤ D.2 y ∧ D.2 y ≤ 9999 - D.2 z + 1 ∧ (h (c + 10) 0).2 ≠ -1 then 1 else 0) := by
    refine sv_i (hZ.run 6 z1 (Q := fun x_ => x_.2 = some (0, (if 0 ≤ D.2 x ∧ D.2 x < P 0 3 ∧ 1 ≤ D.2 z ∧ D.2 z ≤ 20 ∧ 0 ≤ D.2 y ∧ D.2 y ≤ 9999 - D.2 z + 1 ∧ (h (c + 10) 0).2 ≠ -1 then 1 else 0))) (fun N => vP_hv (fun hv => ?_)))
    rcases s1 with ⟨rfl, rfl⟩ | ⟨rfl, rfl⟩
    · refine qc_arr0_39 TLw_T vOK_T (D.2 x) (D.2 y) (D.2 z) hv s2 gc.1.1 gc.1.2.1 gc.1.2.2.1 gc.1.2.2.2 lb ?_ ?_ ?_ ?_ ?_ ?_ ?_ ?_
      · intros; exact sv (by omega)
      · intros; exact sv (by omega)
      · intros; exact sv (by omega)
      · intros; exact sv (by omega)
      · intros; exact sv (by omega)
      · intro c1 c2 c3 c4 c5 c6 c7; exact sv (if_neg (fun f => f.2.2.2.2.2.2 c7)).symm
      · intro c1 c2 c3 c4 c5 c6 c7
        refine vP_Q (fun r hr => ?_) (cx_arr75_39 (n := 0) (i := 0) s2 s3 ⟨c3, by omega⟩ c5 ⟨by decide, by decide⟩ (by omega))
        show r.2 = _
        rw [if_pos ⟨c1, c2, c4, c5, c3, c6, c7⟩]
        exact hr
      · intros; exact sv (by omega)
    · refine qc_arr0_24 TLw_T vOK_T (D.2 x) (D.2 y) (D.2 z) hv s2 gc.1.1 gc.1.2.1 gc.1.2.2.1 gc.1.2.2.2 lb ?_ ?_ ?_ ?_ ?_ ?_ ?_ ?_
      · intros; exact sv (by omega)
      · intros; exact sv (by omega)
      · intros; exact sv (by omega)
      · intros; exact sv (by omega)
      · intros; exact sv (by omega)
      · intro c1 c2 c3 c4 c5 c6 c7; exact sv (if_neg (fun f => f.2.2.2.2.2.2 c7)).symm
      · intro c1 c2 c3 c4 c5 c6 c7
        refine vP_Q (fun r hr => ?_) (cx_arr75_24 (n := 0) (i := 0) s2 s3 ⟨c3, by omega⟩ c5 ⟨by decide, by decide⟩ (by omega))
        show r.2 = _
        rw [if_pos ⟨c1, c2, c4, c5, c3, c6, c7⟩]
        exact hr
      · intros; exact sv (by omega)
  have a2 := arr_r hZ1 b3 z2
  unfold rAr rArC at a2
  rw [e3] at a2
  rcases a2 with ⟨q1, q2, _⟩ | ⟨q1, q2, _⟩
  · have q2 := sv_i q2
    rw [a1, q2]
    exact if_neg (fun c => q1 ⟨c.1, by omega, by omega, by omega, by omega, by omega, by omega⟩)
  · have q2 := sv_i q2
    rw [a1, q2]
    exact if_pos ⟨by omega, by omega, by omega, by omega, by omega, by omega, by omega⟩
