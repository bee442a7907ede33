section
theorem qr_so {D : zD} {T : zT} (hT : hTab T) (hO : vOK T) {N : Nat} {h : zH} {Q : zR → Prop} {P : PT} {j q : Nat} (hv0 : zHv h) (hR : rBk 0 P h) (hb : fB P) (gq : gIn P q) (hq : gJ P q < 48) (hj : j < 3) (bs : 0 ≤ P 3 (48 * j + q) ∧ P 3 (48 * j + q) ≤ 3)
    (k0 : ((P 3 (48 * j + q)) = 0) → (0 ≤ (5 + ((gJ P q : Nat) : Int))) → ((5 + ((gJ P q : Nat) : Int)) < 2750) → Q (h, some (0, (P 1 q))))
    (k1 : ((P 3 (48 * j + q)) ≠ 0) → Q (h, some (0, ((P 3 (48 * j + q)) + 4)))) :
    vP D T N 311 0 h [some (2, 121), some (0, (j : Int)), some (0, ((gJ P q : Nat) : Int)), none] [] Q := by
  refine v_load (v := (2, 121)) (hz_X12_showsOf hT _ _ rfl) rfl rfl ?_
  refine v_load (v := (0, (j : Int))) (hz_X12_showsOf hT _ _ rfl) rfl rfl ?_
  refine v_load (v := (0, ((gJ P q : Nat) : Int))) (hz_X12_showsOf hT _ _ rfl) rfl rfl ?_
  refine v_call (w := 3) [some (2, 121), some (0, (j : Int)), some (0, ((gJ P q : Nat) : Int))] hO (hz_X12_showsOf hT _ _ rfl) rfl rfl (rb_st hT hO ((j : Int)) j q rfl (by omega) gq hR hb ?_)
  show vP D T N 311 6 h [some (2, 121), some (0, (j : Int)), some (0, ((gJ P q : Nat) : Int)), none] [(0, (P 3 (48 * j + q)))] _
  refine v_store1 [some (2, 121), some (0, (j : Int)), some (0, ((gJ P q : Nat) : Int)), some (0, (P 3 (48 * j + q)))] (hz_X12_showsOf hT _ _ rfl) ⟨rfl, Nat.ne_of_beq_eq_false rfl⟩ (Nat.le_of_ble_eq_true rfl) rfl ?_
  refine v_load (v := (0, (P 3 (48 * j + q)))) (hz_X12_showsOf hT _ _ rfl) rfl rfl ?_
  refine v_if (hz_X12_showsOf hT _ _ rfl) (fun hc1 => ?_) (fun hc1 => ?_)
  · have hc1 : (P 3 (48 * j + q)) = 0 := hc1
    refine v_load (v := (2, 121)) (hz_X12_showsOf hT _ _ rfl) rfl rfl ?_
    refine v_getR (c := 126) (r := 121) (hz_X12_showsOf hT _ _ rfl) rfl rfl rfl ?_
    refine v_push (5) (hz_X12_showsOf hT _ _ rfl) rfl ?_
    refine v_load (v := (0, ((gJ P q : Nat) : Int))) (hz_X12_showsOf hT _ _ rfl) rfl rfl ?_
    refine v_bin (w := (5 + ((gJ P q : Nat) : Int))) (hz_X12_showsOf hT _ _ rfl) (hq_add (by omega) (by omega)) ?_
    refine v_aldB (t := 0) (r := 126) (w := (P 1 q)) (hz_X12_showsOf hT _ _ rfl) rfl rfl rfl (fun _ _ => (congrArg Prod.snd (hR.l gq))) (fun ha2 hb3 => ?_)
    refine v_goto (hz_X12_showsOf hT _ _ rfl) ?_
    refine v_ret (hz_X12_showsOf hT _ _ rfl) (Or.inl rfl) ?_
    exact k0 hc1 ha2 hb3
  · have hc1 : (P 3 (48 * j + q)) ≠ 0 := hc1
    refine v_load (v := (0, (P 3 (48 * j + q)))) (hz_X12_showsOf hT _ _ rfl) rfl rfl ?_
    refine v_push (4) (hz_X12_showsOf hT _ _ rfl) rfl ?_
    refine v_bin (w := ((P 3 (48 * j + q)) + 4)) (hz_X12_showsOf hT _ _ rfl) (hq_add (by omega) (by omega)) ?_
    refine v_ret (hz_X12_showsOf hT _ _ rfl) (Or.inl rfl) ?_
    exact k1 hc1
theorem qs_shows0 {D : zD} {T : zT} (hT : hTab T) (hO : vOK T) {N : Nat} {h : zH} {Q : zR → Prop} {P : PT} (x y z : Int) (hv0 : zHv h) (p0 : h 126 0 = (0, P 0 0)) (p1 : h 126 1 = (0, P 0 1)) (p2 : h 126 2 = (0, P 0 2)) (p3 : h 126 3 = (0, P 0 3)) (lb : (0 ≤ P 0 0 ∧ P 0 0 ≤ 8) ∧ (0 ≤ P 0 1 ∧ P 0 1 ≤ 6) ∧ (0 ≤ P 0 2 ∧ P 0 2 ≤ 3) ∧ (0 ≤ P 0 3 ∧ P 0 3 ≤ 6))
    (k0 : (x < 0) → Q (zset (zset (zset h 121 1 (0, 0)) 121 0 (0, 0)) 121 0 (0, 2), some (0, -1)))
    (k1 : (0 ≤ x) → (((P 0 2) - 1) < x) → Q (zset (zset (zset h 121 1 (0, 0)) 121 0 (0, 0)) 121 0 (0, 2), some (0, -1)))
    (k2 : (0 ≤ x) → (x ≤ ((P 0 2) - 1)) → (y < 0) → Q (zset (zset (zset h 121 1 (0, 0)) 121 0 (0, 0)) 121 0 (0, 2), some (0, -1)))
    (k3 : (0 ≤ x) → (x ≤ ((P 0 2) - 1)) → (0 ≤ y) → (((P 0 0) - 1) < y) → Q (zset (zset (zset h 121 1 (0, 0)) 121 0 (0, 0)) 121 0 (0, 2), some (0, -1)))
    (k4 : (0 ≤ x) → (x ≤ ((P 0 2) - 1)) → (0 ≤ y) → (y ≤ ((P 0 0) - 1)) → (z < 0) → Q (zset (zset (zset h 121 1 (0, 0)) 121 0 (0, 0)) 121 0 (0, 2), some (0, -1)))
    (k5 : (0 ≤ x) → (x ≤ ((P 0 2) - 1)) → (0 ≤ y) → (y ≤ ((P 0 0) - 1)) → (0 ≤ z) → (((P 0 1) - 1) < z) → Q (zset (zset (zset h 121 1 (0, 0)) 121 0 (0, 0)) 121 0 (0, 2), some (0, -1)))
    (k6 : (0 ≤ x) → (x ≤ ((P 0 2) - 1)) → (0 ≤ y) → (y ≤ ((P 0 0) - 1)) → (0 ≤ z) → (z ≤ ((P 0 1) - 1)) → vP D T N 310 27 (zset (zset h 121 1 (0, 0)) 121 0 (0, 0)) [some (2, 121), some (0, x), some (0, y), some (0, z)] [] Q) :
    vP D T N 310 0 h [some (2, 121), some (0, x), some (0, y), some (0, z)] [] Q := by
  refine v_load (v := (2, 121)) (hz_X12_shows hT _ _ rfl) rfl rfl ?_
  refine v_push (0) (hz_X12_shows hT _ _ rfl) rfl ?_
  refine v_putf (r := 121) hO (hz_X12_shows hT _ _ rfl) rfl (fun hf1 => ?_)
  refine v_load (v := (2, 121)) (hz_X12_shows hT _ _ rfl) rfl rfl ?_
  refine v_push (0) (hz_X12_shows hT _ _ rfl) rfl ?_
  refine v_putf (r := 121) hO (hz_X12_shows hT _ _ rfl) rfl (fun hf2 => ?_)
  refine v_load (v := (2, 121)) (hz_X12_shows hT _ _ rfl) rfl rfl ?_
  refine v_load (v := (0, x)) (hz_X12_shows hT _ _ rfl) rfl rfl ?_
  refine v_call (w := 2) [some (2, 121), some (0, x)] hO (hz_X12_shows hT _ _ rfl) rfl rfl ?_
  refine v_load (v := (0, x)) (hi_X12_isCopy_0 hT) rfl rfl ?_
  refine v_i2l (hi_X12_isCopy_1 hT) ?_
  refine v_push (0) (hi_X12_isCopy_2 hT) rfl ?_
  refine v_load (v := (2, 121)) (hi_X12_isCopy_3 hT) rfl rfl ?_
  refine v_getR (c := 126) (r := 121) (hi_X12_isCopy_4 hT) rfl rfl rfl ?_
  refine v_push (2) (hi_X12_isCopy_7 hT) rfl ?_
  refine v_aldV (v := (0, (P 0 2))) (r := 126) (hi_X12_isCopy_8 hT) rfl rfl (fun _ _ _ => (Eq.trans (Eq.trans (zset_ne (fun c => absurd c.1 (by decide))) (zset_ne (fun c => absurd c.1 (by decide)))) (p2))) (fun ha3 hb4 => ?_)
  refine v_push (1) (hi_X12_isCopy_9 hT) rfl ?_
  refine v_bin (w := ((P 0 2) - 1)) (hi_X12_isCopy_10 hT) (hq_sub (by omega) (by omega)) ?_
  refine v_i2l (hi_X12_isCopy_11 hT) ?_
  refine v_call (w := 6) [some (1, x), none, some (1, 0), none, some (1, ((P 0 2) - 1)), none] hO (hi_X12_isCopy_12 hT) rfl rfl ?_
  refine v_load (v := (1, x)) (hi_X12_isIn_0 hT) rfl rfl ?_
  refine v_load (v := (1, 0)) (hi_X12_isIn_1 hT) rfl rfl ?_
  refine v_lif (hi_X12_isIn_2 hT) (hi_X12_isIn_3 hT) (fun hc5 => ?_) (fun hc5 => ?_)
  · have hc5 : x < 0 := hc5
    refine v_push (0) (hi_X12_isIn_17 hT) rfl ?_
    refine v_ret (hi_X12_isIn_18 hT) (Or.inl rfl) ?_
    show vP D T N 248 15 (zset (zset h 121 1 (0, 0)) 121 0 (0, 0)) [some (2, 121), some (0, x)] [(0, 0)] _
    refine v_ret (hi_X12_isCopy_15 hT) (Or.inl rfl) ?_
    show vP D T N 310 15 (zset (zset h 121 1 (0, 0)) 121 0 (0, 0)) [some (2, 121), some (0, x), some (0, y), some (0, z)] [(0, 0)] _
    refine v_if (hz_X12_shows hT _ _ rfl) (fun _ => ?_) (fun hc6 => absurd (show (0 : Int) = 0 from (by decide)) hc6)
    refine v_load (v := (2, 121)) (hi_X12_shows_41 hT) rfl rfl ?_
    refine v_push (2) (hi_X12_shows_42 hT) rfl ?_
    refine v_call (w := 2) [some (2, 121), some (0, 2)] hO (hi_X12_shows_43 hT) rfl rfl ?_
    refine v_load (v := (2, 121)) (hi_X12_refuse_0 hT) rfl rfl ?_
    refine v_load (v := (0, 2)) (hi_X12_refuse_1 hT) rfl rfl ?_
    refine v_putf (r := 121) hO (hi_X12_refuse_2 hT) rfl (fun hf7 => ?_)
    refine v_push (-1) (hi_X12_refuse_5 hT) rfl ?_
    refine v_ret (hi_X12_refuse_6 hT) (Or.inl rfl) ?_
    show vP D T N 310 46 (zset (zset (zset h 121 1 (0, 0)) 121 0 (0, 0)) 121 0 (0, 2)) [some (2, 121), some (0, x), some (0, y), some (0, z)] [(0, -1)] _
    refine v_ret (hi_X12_shows_46 hT) (Or.inl rfl) ?_
    exact k0 hc5
  · have hc5 : 0 ≤ x := Int.not_lt.mp hc5
    refine v_load (v := (1, x)) (hi_X12_isIn_6 hT) rfl rfl ?_
    refine v_load (v := (1, ((P 0 2) - 1))) (hi_X12_isIn_7 hT) rfl rfl ?_
    refine v_lif (hi_X12_isIn_9 hT) (hi_X12_isIn_10 hT) (fun hc8 => ?_) (fun hc8 => ?_)
    · have hc8 : ((P 0 2) - 1) < x := hc8
      refine v_push (0) (hi_X12_isIn_17 hT) rfl ?_
      refine v_ret (hi_X12_isIn_18 hT) (Or.inl rfl) ?_
      show vP D T N 248 15 (zset (zset h 121 1 (0, 0)) 121 0 (0, 0)) [some (2, 121), some (0, x)] [(0, 0)] _
      refine v_ret (hi_X12_isCopy_15 hT) (Or.inl rfl) ?_
      show vP D T N 310 15 (zset (zset h 121 1 (0, 0)) 121 0 (0, 0)) [some (2, 121), some (0, x), some (0, y), some (0, z)] [(0, 0)] _
      refine v_if (hz_X12_shows hT _ _ rfl) (fun _ => ?_) (fun hc9 => absurd (show (0 : Int) = 0 from (by decide)) hc9)
      refine v_load (v := (2, 121)) (hi_X12_shows_41 hT) rfl rfl ?_
      refine v_push (2) (hi_X12_shows_42 hT) rfl ?_
      refine v_call (w := 2) [some (2, 121), some (0, 2)] hO (hi_X12_shows_43 hT) rfl rfl ?_
      refine v_load (v := (2, 121)) (hi_X12_refuse_0 hT) rfl rfl ?_
      refine v_load (v := (0, 2)) (hi_X12_refuse_1 hT) rfl rfl ?_
      refine v_putf (r := 121) hO (hi_X12_refuse_2 hT) rfl (fun hf10 => ?_)
      refine v_push (-1) (hi_X12_refuse_5 hT) rfl ?_
      refine v_ret (hi_X12_refuse_6 hT) (Or.inl rfl) ?_
      show vP D T N 310 46 (zset (zset (zset h 121 1 (0, 0)) 121 0 (0, 0)) 121 0 (0, 2)) [some (2, 121), some (0, x), some (0, y), some (0, z)] [(0, -1)] _
      refine v_ret (hi_X12_shows_46 hT) (Or.inl rfl) ?_
      exact k1 hc5 hc8
    · have hc8 : x ≤ ((P 0 2) - 1) := Int.not_lt.mp hc8
      refine v_push (1) (hi_X12_isIn_13 hT) rfl ?_
      refine v_goto (hi_X12_isIn_14 hT) ?_
      refine v_ret (hi_X12_isIn_18 hT) (Or.inl rfl) ?_
      show vP D T N 248 15 (zset (zset h 121 1 (0, 0)) 121 0 (0, 0)) [some (2, 121), some (0, x)] [(0, 1)] _
      refine v_ret (hi_X12_isCopy_15 hT) (Or.inl rfl) ?_
      show vP D T N 310 15 (zset (zset h 121 1 (0, 0)) 121 0 (0, 0)) [some (2, 121), some (0, x), some (0, y), some (0, z)] [(0, 1)] _
      refine v_if (hz_X12_shows hT _ _ rfl) (fun hc11 => absurd (show (1 : Int) = 0 from hc11) (by decide)) (fun _ => ?_)
      refine v_load (v := (2, 121)) (hz_X12_shows hT _ _ rfl) rfl rfl ?_
      refine v_load (v := (0, y)) (hz_X12_shows hT _ _ rfl) rfl rfl ?_
      refine v_load (v := (0, z)) (hz_X12_shows hT _ _ rfl) rfl rfl ?_
      refine v_call (w := 3) [some (2, 121), some (0, y), some (0, z)] hO (hz_X12_shows hT _ _ rfl) rfl rfl ?_
      refine v_load (v := (0, y)) (hi_X12_isCell_0 hT) rfl rfl ?_
      refine v_i2l (hi_X12_isCell_1 hT) ?_
      refine v_push (0) (hi_X12_isCell_2 hT) rfl ?_
      refine v_load (v := (2, 121)) (hi_X12_isCell_3 hT) rfl rfl ?_
      refine v_getR (c := 126) (r := 121) (hi_X12_isCell_4 hT) rfl rfl rfl ?_
      refine v_push (0) (hi_X12_isCell_7 hT) rfl ?_
      refine v_aldV (v := (0, (P 0 0))) (r := 126) (hi_X12_isCell_8 hT) rfl rfl (fun _ _ _ => (Eq.trans (Eq.trans (zset_ne (fun c => absurd c.1 (by decide))) (zset_ne (fun c => absurd c.1 (by decide)))) (p0))) (fun ha12 hb13 => ?_)
      refine v_push (1) (hi_X12_isCell_9 hT) rfl ?_
      refine v_bin (w := ((P 0 0) - 1)) (hi_X12_isCell_10 hT) (hq_sub (by omega) (by omega)) ?_
      refine v_i2l (hi_X12_isCell_11 hT) ?_
      refine v_call (w := 6) [some (1, y), none, some (1, 0), none, some (1, ((P 0 0) - 1)), none] hO (hi_X12_isCell_12 hT) rfl rfl ?_
      refine v_load (v := (1, y)) (hi_X12_isIn_0 hT) rfl rfl ?_
      refine v_load (v := (1, 0)) (hi_X12_isIn_1 hT) rfl rfl ?_
      refine v_lif (hi_X12_isIn_2 hT) (hi_X12_isIn_3 hT) (fun hc14 => ?_) (fun hc14 => ?_)
      · have hc14 : y < 0 := hc14
        refine v_push (0) (hi_X12_isIn_17 hT) rfl ?_
        refine v_ret (hi_X12_isIn_18 hT) (Or.inl rfl) ?_
        show vP D T N 244 15 (zset (zset h 121 1 (0, 0)) 121 0 (0, 0)) [some (2, 121), some (0, y), some (0, z)] [(0, 0)] _
        refine v_if (hi_X12_isCell_15 hT) (fun _ => ?_) (fun hc15 => absurd (show (0 : Int) = 0 from (by decide)) hc15)
        refine v_push (0) (hi_X12_isCell_40 hT) rfl ?_
        refine v_ret (hi_X12_isCell_41 hT) (Or.inl rfl) ?_
        show vP D T N 310 24 (zset (zset h 121 1 (0, 0)) 121 0 (0, 0)) [some (2, 121), some (0, x), some (0, y), some (0, z)] [(0, 0)] _
        refine v_if (hi_X12_shows_24 hT) (fun _ => ?_) (fun hc16 => absurd (show (0 : Int) = 0 from (by decide)) hc16)
        refine v_load (v := (2, 121)) (hi_X12_shows_41 hT) rfl rfl ?_
        refine v_push (2) (hi_X12_shows_42 hT) rfl ?_
        refine v_call (w := 2) [some (2, 121), some (0, 2)] hO (hi_X12_shows_43 hT) rfl rfl ?_
        refine v_load (v := (2, 121)) (hi_X12_refuse_0 hT) rfl rfl ?_
        refine v_load (v := (0, 2)) (hi_X12_refuse_1 hT) rfl rfl ?_
        refine v_putf (r := 121) hO (hi_X12_refuse_2 hT) rfl (fun hf17 => ?_)
        refine v_push (-1) (hi_X12_refuse_5 hT) rfl ?_
        refine v_ret (hi_X12_refuse_6 hT) (Or.inl rfl) ?_
        show vP D T N 310 46 (zset (zset (zset h 121 1 (0, 0)) 121 0 (0, 0)) 121 0 (0, 2)) [some (2, 121), some (0, x), some (0, y), some (0, z)] [(0, -1)] _
        refine v_ret (hi_X12_shows_46 hT) (Or.inl rfl) ?_
        exact k2 hc5 hc8 hc14
      · have hc14 : 0 ≤ y := Int.not_lt.mp hc14
        refine v_load (v := (1, y)) (hi_X12_isIn_6 hT) rfl rfl ?_
        refine v_load (v := (1, ((P 0 0) - 1))) (hi_X12_isIn_7 hT) rfl rfl ?_
        refine v_lif (hi_X12_isIn_9 hT) (hi_X12_isIn_10 hT) (fun hc18 => ?_) (fun hc18 => ?_)
        · have hc18 : ((P 0 0) - 1) < y := hc18
          refine v_push (0) (hi_X12_isIn_17 hT) rfl ?_
          refine v_ret (hi_X12_isIn_18 hT) (Or.inl rfl) ?_
          show vP D T N 244 15 (zset (zset h 121 1 (0, 0)) 121 0 (0, 0)) [some (2, 121), some (0, y), some (0, z)] [(0, 0)] _
          refine v_if (hi_X12_isCell_15 hT) (fun _ => ?_) (fun hc19 => absurd (show (0 : Int) = 0 from (by decide)) hc19)
          refine v_push (0) (hi_X12_isCell_40 hT) rfl ?_
          refine v_ret (hi_X12_isCell_41 hT) (Or.inl rfl) ?_
          show vP D T N 310 24 (zset (zset h 121 1 (0, 0)) 121 0 (0, 0)) [some (2, 121), some (0, x), some (0, y), some (0, z)] [(0, 0)] _
          refine v_if (hi_X12_shows_24 hT) (fun _ => ?_) (fun hc20 => absurd (show (0 : Int) = 0 from (by decide)) hc20)
          refine v_load (v := (2, 121)) (hi_X12_shows_41 hT) rfl rfl ?_
          refine v_push (2) (hi_X12_shows_42 hT) rfl ?_
          refine v_call (w := 2) [some (2, 121), some (0, 2)] hO (hi_X12_shows_43 hT) rfl rfl ?_
          refine v_load (v := (2, 121)) (hi_X12_refuse_0 hT) rfl rfl ?_
          refine v_load (v := (0, 2)) (hi_X12_refuse_1 hT) rfl rfl ?_
          refine v_putf (r := 121) hO (hi_X12_refuse_2 hT) rfl (fun hf21 => ?_)
          refine v_push (-1) (hi_X12_refuse_5 hT) rfl ?_
          refine v_ret (hi_X12_refuse_6 hT) (Or.inl rfl) ?_
          show vP D T N 310 46 (zset (zset (zset h 121 1 (0, 0)) 121 0 (0, 0)) 121 0 (0, 2)) [some (2, 121), some (0, x), some (0, y), some (0, z)] [(0, -1)] _
          refine v_ret (hi_X12_shows_46 hT) (Or.inl rfl) ?_
          exact k3 hc5 hc8 hc14 hc18
        · have hc18 : y ≤ ((P 0 0) - 1) := Int.not_lt.mp hc18
          refine v_push (1) (hi_X12_isIn_13 hT) rfl ?_
          refine v_goto (hi_X12_isIn_14 hT) ?_
          refine v_ret (hi_X12_isIn_18 hT) (Or.inl rfl) ?_
          show vP D T N 244 15 (zset (zset h 121 1 (0, 0)) 121 0 (0, 0)) [some (2, 121), some (0, y), some (0, z)] [(0, 1)] _
          refine v_if (hi_X12_isCell_15 hT) (fun hc22 => absurd (show (1 : Int) = 0 from hc22) (by decide)) (fun _ => ?_)
          refine v_load (v := (0, z)) (hi_X12_isCell_18 hT) rfl rfl ?_
          refine v_i2l (hi_X12_isCell_19 hT) ?_
          refine v_push (0) (hi_X12_isCell_20 hT) rfl ?_
          refine v_load (v := (2, 121)) (hi_X12_isCell_21 hT) rfl rfl ?_
          refine v_getR (c := 126) (r := 121) (hi_X12_isCell_22 hT) rfl rfl rfl ?_
          refine v_push (1) (hi_X12_isCell_25 hT) rfl ?_
          refine v_aldV (v := (0, (P 0 1))) (r := 126) (hi_X12_isCell_26 hT) rfl rfl (fun _ _ _ => (Eq.trans (Eq.trans (zset_ne (fun c => absurd c.1 (by decide))) (zset_ne (fun c => absurd c.1 (by decide)))) (p1))) (fun ha23 hb24 => ?_)
          refine v_push (1) (hi_X12_isCell_27 hT) rfl ?_
          refine v_bin (w := ((P 0 1) - 1)) (hi_X12_isCell_28 hT) (hq_sub (by omega) (by omega)) ?_
          refine v_i2l (hi_X12_isCell_29 hT) ?_
          refine v_call (w := 6) [some (1, z), none, some (1, 0), none, some (1, ((P 0 1) - 1)), none] hO (hi_X12_isCell_30 hT) rfl rfl ?_
          refine v_load (v := (1, z)) (hi_X12_isIn_0 hT) rfl rfl ?_
          refine v_load (v := (1, 0)) (hi_X12_isIn_1 hT) rfl rfl ?_
          refine v_lif (hi_X12_isIn_2 hT) (hi_X12_isIn_3 hT) (fun hc25 => ?_) (fun hc25 => ?_)
          · have hc25 : z < 0 := hc25
            refine v_push (0) (hi_X12_isIn_17 hT) rfl ?_
            refine v_ret (hi_X12_isIn_18 hT) (Or.inl rfl) ?_
            show vP D T N 244 33 (zset (zset h 121 1 (0, 0)) 121 0 (0, 0)) [some (2, 121), some (0, y), some (0, z)] [(0, 0)] _
            refine v_if (hi_X12_isCell_33 hT) (fun _ => ?_) (fun hc26 => absurd (show (0 : Int) = 0 from (by decide)) hc26)
            refine v_push (0) (hi_X12_isCell_40 hT) rfl ?_
            refine v_ret (hi_X12_isCell_41 hT) (Or.inl rfl) ?_
            show vP D T N 310 24 (zset (zset h 121 1 (0, 0)) 121 0 (0, 0)) [some (2, 121), some (0, x), some (0, y), some (0, z)] [(0, 0)] _
            refine v_if (hi_X12_shows_24 hT) (fun _ => ?_) (fun hc27 => absurd (show (0 : Int) = 0 from (by decide)) hc27)
            refine v_load (v := (2, 121)) (hi_X12_shows_41 hT) rfl rfl ?_
            refine v_push (2) (hi_X12_shows_42 hT) rfl ?_
            refine v_call (w := 2) [some (2, 121), some (0, 2)] hO (hi_X12_shows_43 hT) rfl rfl ?_
            refine v_load (v := (2, 121)) (hi_X12_refuse_0 hT) rfl rfl ?_
            refine v_load (v := (0, 2)) (hi_X12_refuse_1 hT) rfl rfl ?_
            refine v_putf (r := 121) hO (hi_X12_refuse_2 hT) rfl (fun hf28 => ?_)
            refine v_push (-1) (hi_X12_refuse_5 hT) rfl ?_
            refine v_ret (hi_X12_refuse_6 hT) (Or.inl rfl) ?_
            show vP D T N 310 46 (zset (zset (zset h 121 1 (0, 0)) 121 0 (0, 0)) 121 0 (0, 2)) [some (2, 121), some (0, x), some (0, y), some (0, z)] [(0, -1)] _
            refine v_ret (hi_X12_shows_46 hT) (Or.inl rfl) ?_
            exact k4 hc5 hc8 hc14 hc18 hc25
          · have hc25 : 0 ≤ z := Int.not_lt.mp hc25
            refine v_load (v := (1, z)) (hi_X12_isIn_6 hT) rfl rfl ?_
            refine v_load (v := (1, ((P 0 1) - 1))) (hi_X12_isIn_7 hT) rfl rfl ?_
            refine v_lif (hi_X12_isIn_9 hT) (hi_X12_isIn_10 hT) (fun hc29 => ?_) (fun hc29 => ?_)
            · have hc29 : ((P 0 1) - 1) < z := hc29
              refine v_push (0) (hi_X12_isIn_17 hT) rfl ?_
              refine v_ret (hi_X12_isIn_18 hT) (Or.inl rfl) ?_
              show vP D T N 244 33 (zset (zset h 121 1 (0, 0)) 121 0 (0, 0)) [some (2, 121), some (0, y), some (0, z)] [(0, 0)] _
              refine v_if (hi_X12_isCell_33 hT) (fun _ => ?_) (fun hc30 => absurd (show (0 : Int) = 0 from (by decide)) hc30)
              refine v_push (0) (hi_X12_isCell_40 hT) rfl ?_
              refine v_ret (hi_X12_isCell_41 hT) (Or.inl rfl) ?_
              show vP D T N 310 24 (zset (zset h 121 1 (0, 0)) 121 0 (0, 0)) [some (2, 121), some (0, x), some (0, y), some (0, z)] [(0, 0)] _
              refine v_if (hi_X12_shows_24 hT) (fun _ => ?_) (fun hc31 => absurd (show (0 : Int) = 0 from (by decide)) hc31)
              refine v_load (v := (2, 121)) (hi_X12_shows_41 hT) rfl rfl ?_
              refine v_push (2) (hi_X12_shows_42 hT) rfl ?_
              refine v_call (w := 2) [some (2, 121), some (0, 2)] hO (hi_X12_shows_43 hT) rfl rfl ?_
              refine v_load (v := (2, 121)) (hi_X12_refuse_0 hT) rfl rfl ?_
              refine v_load (v := (0, 2)) (hi_X12_refuse_1 hT) rfl rfl ?_
              refine v_putf (r := 121) hO (hi_X12_refuse_2 hT) rfl (fun hf32 => ?_)
              refine v_push (-1) (hi_X12_refuse_5 hT) rfl ?_
              refine v_ret (hi_X12_refuse_6 hT) (Or.inl rfl) ?_
              show vP D T N 310 46 (zset (zset (zset h 121 1 (0, 0)) 121 0 (0, 0)) 121 0 (0, 2)) [some (2, 121), some (0, x), some (0, y), some (0, z)] [(0, -1)] _
              refine v_ret (hi_X12_shows_46 hT) (Or.inl rfl) ?_
              exact k5 hc5 hc8 hc14 hc18 hc25 hc29
            · have hc29 : z ≤ ((P 0 1) - 1) := Int.not_lt.mp hc29
              refine v_push (1) (hi_X12_isIn_13 hT) rfl ?_
              refine v_goto (hi_X12_isIn_14 hT) ?_
              refine v_ret (hi_X12_isIn_18 hT) (Or.inl rfl) ?_
              show vP D T N 244 33 (zset (zset h 121 1 (0, 0)) 121 0 (0, 0)) [some (2, 121), some (0, y), some (0, z)] [(0, 1)] _
              refine v_if (hi_X12_isCell_33 hT) (fun hc33 => absurd (show (1 : Int) = 0 from hc33) (by decide)) (fun _ => ?_)
              refine v_push (1) (hi_X12_isCell_36 hT) rfl ?_
              refine v_goto (hi_X12_isCell_37 hT) ?_
              refine v_ret (hi_X12_isCell_41 hT) (Or.inl rfl) ?_
              show vP D T N 310 24 (zset (zset h 121 1 (0, 0)) 121 0 (0, 0)) [some (2, 121), some (0, x), some (0, y), some (0, z)] [(0, 1)] _
              refine v_if (hi_X12_shows_24 hT) (fun hc34 => absurd (show (1 : Int) = 0 from hc34) (by decide)) (fun _ => ?_)
              exact k6 hc5 hc8 hc14 hc18 hc25 hc29
theorem qs_shows27 {D : zD} {T : zT} (hT : hTab T) (hO : vOK T) {N : Nat} {h : zH} {Q : zR → Prop} {P : PT} {j u v : Nat} (hv0 : zHv h) (p0 : h 126 0 = (0, P 0 0)) (lb : lB P) (bu : u < 8) (bv : v < 6)
    (k0 : vP D T N 311 0 h [some (2, 121), some (0, (j : Int)), some (0, ((P 0 0) * (v : Int) + (u : Int))), none] [] (fun r1 => vP D T N 310 38 r1.1 [some (2, 121), some (0, (j : Int)), some (0, (u : Int)), some (0, (v : Int))] (zpush r1.2 []) Q)) :
    vP D T N 310 27 h [some (2, 121), some (0, (j : Int)), some (0, (u : Int)), some (0, (v : Int))] [] Q := by
  refine v_load (v := (2, 121)) (hz_X12_shows hT _ _ rfl) rfl rfl ?_
  refine v_load (v := (0, (j : Int))) (hz_X12_shows hT _ _ rfl) rfl rfl ?_
  refine v_load (v := (2, 121)) (hz_X12_shows hT _ _ rfl) rfl rfl ?_
  refine v_load (v := (0, (u : Int))) (hz_X12_shows hT _ _ rfl) rfl rfl ?_
  refine v_load (v := (0, (v : Int))) (hz_X12_shows hT _ _ rfl) rfl rfl ?_
  refine v_call (w := 3) [some (2, 121), some (0, (u : Int)), some (0, (v : Int))] hO (hz_X12_shows hT _ _ rfl) rfl rfl (rb_at2 hT hO ((u : Int)) ((v : Int)) (by omega) (by omega) p0 lb ?_)
  show vP D T N 310 35 h [some (2, 121), some (0, (j : Int)), some (0, (u : Int)), some (0, (v : Int))] [(0, ((P 0 0) * (v : Int) + (u : Int))), (0, (j : Int)), (2, 121)] _
  refine v_call (w := 4) [some (2, 121), some (0, (j : Int)), some (0, ((P 0 0) * (v : Int) + (u : Int))), none] hO (hz_X12_shows hT _ _ rfl) rfl rfl ?_
  exact k0 
theorem qs_shows38 {D : zD} {T : zT} (hT : hTab T) (hO : vOK T) {N : Nat} {h : zH} {Q : zR → Prop} {j u v : Nat} (w : Int) (hv0 : zHv h)
    (k0 : Q (h, some (0, w))) :
    vP D T N 310 38 h [some (2, 121), some (0, (j : Int)), some (0, (u : Int)), some (0, (v : Int))] [(0, w)] Q := by
  refine v_goto (hz_X12_shows hT _ _ rfl) ?_
  refine v_ret (hi_X12_shows_46 hT) (Or.inl rfl) ?_
  exact k0 
section RA
variable {D : zD} {T : zT} {N : Nat} {h : zH} {P : PT}
theorem rb_so (hT : hTab T) (hO : vOK T) {Q : zR → Prop} (x : Int) (j q : Nat) (ex : x = (j : Int)) (hj : j < 3) (gq : gIn P q) (hR : rBk 0 P h) (hb : fB P) (k : Q (h, some (0, gKd P j q))) : vP D T N 311 0 h [some (2, 121), some (0, x), some (0, ((gJ P q : Nat) : Int)), none] [] Q := by
  subst ex
  have q48 := gq.1
  have bs := hb.2.2.1 (48 * j + q) (by omega)
  refine vP_hv (fun hv => qr_so hT hO hv hR hb gq (gJ_lt hb.1 gq) hj bs ?_ ?_)
  · intro c _ _
    exact cb_eq k ((if_neg (by omega)).trans ((if_neg (by omega)).trans (if_neg (by omega))))
  · intro c
    refine cb_eq k ?_
    unfold gKd
    omega
theorem rq_shows (hT : hTab T) (hO : vOK T) (hR : rBk 0 P h) (hb : fB P) (x y z : Int) : vP D T N 310 0 h [some (2, 121), some (0, x), some (0, y), some (0, z)] [] (fun r => r.2 = some (0, shV P x y z)) := by
  have lb := hb.1
  have l3 := lb.2.2.1.2
  have hR2 : rBk 0 P (zset (zset h 121 1 (0, 0)) 121 0 (0, 0)) := (hR.z1 lb).z1 lb
  have no : ¬ okC P x y z → (some ((0, -1) : zV)) = some (0, shV P x y z) := fun c => by
    unfold shV
    rw [if_neg c]
  refine vP_hv (fun hv => qs_shows0 (P := P) hT hO x y z hv hR.w hR.r hR.c hR.m lb ?k0 ?k1 ?k2 ?k3 ?k4 ?k5 ?k6)
  case k6 =>
    intro c1 c2 c3 c4 c5 c6
    obtain ⟨j, rfl⟩ : ∃ j : Nat, x = (j : Int) := ⟨x.toNat, by omega⟩
    obtain ⟨u, rfl⟩ : ∃ u : Nat, y = (u : Int) := ⟨y.toNat, by omega⟩
    obtain ⟨v, rfl⟩ : ∃ v : Nat, z = (v : Int) := ⟨z.toNat, by omega⟩
    have w8 := lb.1.2
    have r6 := lb.2.1.2
    have gq : gIn P (8 * v + u) := ⟨by omega, by omega, by omega⟩
    have e2 : shV P (j : Int) (u : Int) (v : Int) = gKd P j (8 * v + u) := if_pos ⟨c1, by omega, c3, by omega, c5, by omega⟩
    rw [e2]
    refine vP_hv (fun hv => qs_shows27 (P := P) hT hO hv hR2.w lb (by omega) (by omega) ?_)
    rw [at2_J lb (by omega)]
    refine rb_so hT hO _ j (8 * v + u) rfl (by omega) gq hR2 hb ?_
    exact vP_hv (fun hv => qs_shows38 hT hO _ hv rfl)
  all_goals
    intros
    exact no (by rintro ⟨o1, o2, o3, o4, o5, o6⟩; omega)
end RA
end
section
theorem fRa_shows {D : zD} (_ : ∀ i, -2147483648 ≤ D.2 i ∧ D.2 i ≤ 2147483647) {h h1 h2 : zH} {x y z v1 v2 : Int} (hZ : lZ D h) (hZ1 : lZ D h1) (hR : fR h) (z1 : zRun D TLw 614 180 0 (h, zargs 0 [(2, 0), (0, x), (0, y), (0, z)], []) (h1, some (0, v1))) (f1 : aFr lM_180 h h1) (z2 : zRun D TLw 614 310 0 (h1, zargs 0 [(2, 121), (0, x), (0, y), (0, z)], []) (h2, some (0, v2))) (f2 : aFr lM_310 h1 h2) : fR h2 ∧ v1 = v2 := by
  refine ⟨fR_S.fr (M := lM_310) (by decide +kernel) f2 (fR_S.fr (M := lM_180) (by decide +kernel) f1 hR), ?_⟩
  obtain ⟨hL, hM, r, c, s1, s2, s3, P, p1, p2, p3, p4, o⟩ := hR
  have a1 : v1 = shV P x y z := by
    rcases s1 with ⟨rfl, rfl⟩ | ⟨rfl, rfl⟩
    · have q3 := hZ.run 4 z1 (Q := fun r => r.2 = some (0, shV P x y z)) (fun N => cq_shows_39 TLw_T vOK_T p1 p3 s2 x y z)
      cases (q3 : some ((0, v1) : zV) = some (0, shV P x y z)); rfl
    · have q3 := hZ.run 4 z1 (Q := fun r => r.2 = some (0, shV P x y z)) (fun N => cq_shows_24 TLw_T vOK_T p1 p3 s2 x y z)
      cases (q3 : some ((0, v1) : zV) = some (0, shV P x y z)); rfl
  have hR1 : rBk 0 P h1 := p2.eq p3.1 (fun b _ hb => f1.keep (S := [(126, 0, 274)]) (by decide +kernel) ⟨(126, 0, 274), List.mem_cons_self, rfl, Nat.zero_le _, show b ≤ 274 by omega⟩)
  have r3 := hZ1.run 4 z2 (Q := fun r => r.2 = some (0, shV P x y z)) (fun N => rq_shows TLw_T vOK_T hR1 p3 x y z)
  have r3 : v2 = shV P x y z := by cases (r3 : some ((0, v2) : zV) = some (0, shV P x y z)); rfl
  exact a1.trans r3.symm
end
