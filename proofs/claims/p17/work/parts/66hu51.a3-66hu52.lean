section
theorem qs_company0 {D : zD} {T : zT} (hT : hTab T) (hO : vOK T) {N : Nat} {h : zH} {Q : zR → Prop} {P : PT} (x y : Int) (hv0 : zHv h) (p0 : h 126 0 = (0, P 0 0)) (p1 : h 126 1 = (0, P 0 1)) (p2 : h 126 2 = (0, P 0 2)) (p3 : h 126 3 = (0, P 0 3)) (lb : (0 ≤ P 0 0 ∧ P 0 0 ≤ 8) ∧ (0 ≤ P 0 1 ∧ P 0 1 ≤ 6) ∧ (0 ≤ P 0 2 ∧ P 0 2 ≤ 3) ∧ (0 ≤ P 0 3 ∧ P 0 3 ≤ 6))
    (k0 : (x < 0) → Q (zset (zset (zset h 121 1 (0, 0)) 121 0 (0, 0)) 121 0 (0, 2), some (0, -1)))
    (k1 : (0 ≤ x) → (((P 0 3) - 1) < x) → Q (zset (zset (zset h 121 1 (0, 0)) 121 0 (0, 0)) 121 0 (0, 2), some (0, -1)))
    (k2 : (0 ≤ x) → (x ≤ ((P 0 3) - 1)) → vP D T N 209 24 (zset (zset h 121 1 (0, 0)) 121 0 (0, 0)) [some (2, 121), some (0, x), some (0, y)] [] Q) :
    vP D T N 209 0 h [some (2, 121), some (0, x), some (0, y)] [] Q := by
  refine v_load (v := (2, 121)) (hz_X12_company hT _ _ rfl) rfl rfl ?_
  refine v_push (0) (hz_X12_company hT _ _ rfl) rfl ?_
  refine v_putf (r := 121) hO (hz_X12_company hT _ _ rfl) rfl (fun hf1 => ?_)
  refine v_load (v := (2, 121)) (hz_X12_company hT _ _ rfl) rfl rfl ?_
  refine v_push (0) (hz_X12_company hT _ _ rfl) rfl ?_
  refine v_putf (r := 121) hO (hz_X12_company hT _ _ rfl) rfl (fun hf2 => ?_)
  refine v_load (v := (2, 121)) (hz_X12_company hT _ _ rfl) rfl rfl ?_
  refine v_load (v := (0, x)) (hz_X12_company hT _ _ rfl) rfl rfl ?_
  refine v_call (w := 2) [some (2, 121), some (0, x)] hO (hz_X12_company hT _ _ rfl) rfl rfl ?_
  refine v_load (v := (0, x)) (hi_X12_isCompanyAt_0 hT) rfl rfl ?_
  refine v_i2l (hi_X12_isCompanyAt_1 hT) ?_
  refine v_push (0) (hi_X12_isCompanyAt_2 hT) rfl ?_
  refine v_load (v := (2, 121)) (hi_X12_isCompanyAt_3 hT) rfl rfl ?_
  refine v_getR (c := 126) (r := 121) (hi_X12_isCompanyAt_4 hT) rfl rfl rfl ?_
  refine v_push (3) (hi_X12_isCompanyAt_7 hT) rfl ?_
  refine v_aldV (v := (0, (P 0 3))) (r := 126) (hi_X12_isCompanyAt_8 hT) rfl rfl (fun _ _ _ => (Eq.trans (Eq.trans (zset_ne (fun c => absurd c.1 (by decide))) (zset_ne (fun c => absurd c.1 (by decide)))) (p3))) (fun ha3 hb4 => ?_)
  refine v_push (1) (hi_X12_isCompanyAt_9 hT) rfl ?_
  refine v_bin (w := ((P 0 3) - 1)) (hi_X12_isCompanyAt_10 hT) (hq_sub (by omega) (by omega)) ?_
  refine v_i2l (hi_X12_isCompanyAt_11 hT) ?_
  refine v_call (w := 6) [some (1, x), none, some (1, 0), none, some (1, ((P 0 3) - 1)), none] hO (hi_X12_isCompanyAt_12 hT) rfl rfl ?_
  refine v_load (v := (1, x)) (hi_X12_isIn_0 hT) rfl rfl ?_
  refine v_load (v := (1, 0)) (hi_X12_isIn_1 hT) rfl rfl ?_
  refine v_lif (hi_X12_isIn_2 hT) (hi_X12_isIn_3 hT) (fun hc5 => ?_) (fun hc5 => ?_)
  · have hc5 : x < 0 := hc5
    refine v_push (0) (hi_X12_isIn_17 hT) rfl ?_
    refine v_ret (hi_X12_isIn_18 hT) (Or.inl rfl) ?_
    show vP D T N 246 15 (zset (zset h 121 1 (0, 0)) 121 0 (0, 0)) [some (2, 121), some (0, x)] [(0, 0)] _
    refine v_ret (hi_X12_isCompanyAt_15 hT) (Or.inl rfl) ?_
    show vP D T N 209 15 (zset (zset h 121 1 (0, 0)) 121 0 (0, 0)) [some (2, 121), some (0, x), some (0, y)] [(0, 0)] _
    refine v_if (hz_X12_company hT _ _ rfl) (fun _ => ?_) (fun hc6 => absurd (show (0 : Int) = 0 from (by decide)) hc6)
    refine v_load (v := (2, 121)) (hz_X12_company hT _ _ rfl) rfl rfl ?_
    refine v_push (2) (hz_X12_company hT _ _ rfl) rfl ?_
    refine v_call (w := 2) [some (2, 121), some (0, 2)] hO (hz_X12_company hT _ _ rfl) rfl rfl ?_
    refine v_load (v := (2, 121)) (hi_X12_refuse_0 hT) rfl rfl ?_
    refine v_load (v := (0, 2)) (hi_X12_refuse_1 hT) rfl rfl ?_
    refine v_putf (r := 121) hO (hi_X12_refuse_2 hT) rfl (fun hf7 => ?_)
    refine v_push (-1) (hi_X12_refuse_5 hT) rfl ?_
    refine v_ret (hi_X12_refuse_6 hT) (Or.inl rfl) ?_
    show vP D T N 209 23 (zset (zset (zset h 121 1 (0, 0)) 121 0 (0, 0)) 121 0 (0, 2)) [some (2, 121), some (0, x), some (0, y)] [(0, -1)] _
    refine v_ret (hz_X12_company hT _ _ rfl) (Or.inl rfl) ?_
    exact k0 hc5
  · have hc5 : 0 ≤ x := Int.not_lt.mp hc5
    refine v_load (v := (1, x)) (hi_X12_isIn_6 hT) rfl rfl ?_
    refine v_load (v := (1, ((P 0 3) - 1))) (hi_X12_isIn_7 hT) rfl rfl ?_
    refine v_lif (hi_X12_isIn_9 hT) (hi_X12_isIn_10 hT) (fun hc8 => ?_) (fun hc8 => ?_)
    · have hc8 : ((P 0 3) - 1) < x := hc8
      refine v_push (0) (hi_X12_isIn_17 hT) rfl ?_
      refine v_ret (hi_X12_isIn_18 hT) (Or.inl rfl) ?_
      show vP D T N 246 15 (zset (zset h 121 1 (0, 0)) 121 0 (0, 0)) [some (2, 121), some (0, x)] [(0, 0)] _
      refine v_ret (hi_X12_isCompanyAt_15 hT) (Or.inl rfl) ?_
      show vP D T N 209 15 (zset (zset h 121 1 (0, 0)) 121 0 (0, 0)) [some (2, 121), some (0, x), some (0, y)] [(0, 0)] _
      refine v_if (hz_X12_company hT _ _ rfl) (fun _ => ?_) (fun hc9 => absurd (show (0 : Int) = 0 from (by decide)) hc9)
      refine v_load (v := (2, 121)) (hz_X12_company hT _ _ rfl) rfl rfl ?_
      refine v_push (2) (hz_X12_company hT _ _ rfl) rfl ?_
      refine v_call (w := 2) [some (2, 121), some (0, 2)] hO (hz_X12_company hT _ _ rfl) rfl rfl ?_
      refine v_load (v := (2, 121)) (hi_X12_refuse_0 hT) rfl rfl ?_
      refine v_load (v := (0, 2)) (hi_X12_refuse_1 hT) rfl rfl ?_
      refine v_putf (r := 121) hO (hi_X12_refuse_2 hT) rfl (fun hf10 => ?_)
      refine v_push (-1) (hi_X12_refuse_5 hT) rfl ?_
      refine v_ret (hi_X12_refuse_6 hT) (Or.inl rfl) ?_
      show vP D T N 209 23 (zset (zset (zset h 121 1 (0, 0)) 121 0 (0, 0)) 121 0 (0, 2)) [some (2, 121), some (0, x), some (0, y)] [(0, -1)] _
      refine v_ret (hz_X12_company hT _ _ rfl) (Or.inl rfl) ?_
      exact k1 hc5 hc8
    · have hc8 : x ≤ ((P 0 3) - 1) := Int.not_lt.mp hc8
      refine v_push (1) (hi_X12_isIn_13 hT) rfl ?_
      refine v_goto (hi_X12_isIn_14 hT) ?_
      refine v_ret (hi_X12_isIn_18 hT) (Or.inl rfl) ?_
      show vP D T N 246 15 (zset (zset h 121 1 (0, 0)) 121 0 (0, 0)) [some (2, 121), some (0, x)] [(0, 1)] _
      refine v_ret (hi_X12_isCompanyAt_15 hT) (Or.inl rfl) ?_
      show vP D T N 209 15 (zset (zset h 121 1 (0, 0)) 121 0 (0, 0)) [some (2, 121), some (0, x), some (0, y)] [(0, 1)] _
      refine v_if (hz_X12_company hT _ _ rfl) (fun hc11 => absurd (show (1 : Int) = 0 from hc11) (by decide)) (fun _ => ?_)
      exact k2 hc5 hc8
theorem qs_company24 {D : zD} {T : zT} (hT : hTab T) (hO : vOK T) {N : Nat} {h : zH} {Q : zR → Prop} {P : PT} {a : Nat} (y : Int) (hv0 : zHv h) (p0 : h 126 0 = (0, P 0 0)) (ha : a < 6) (ea : h 126 (245 + (a : Int)).toNat = (0, ((gJ P (P 6 a).toNat : Nat) : Int))) (eg : h 126 (251 + (a : Int)).toNat = (0, ((gJ P (P 7 a).toNat : Nat) : Int))) (eb : h 126 (263 + (a : Int)).toNat = (0, P 8 a)) (es : h 126 (269 + (a : Int)).toNat = (0, P 9 a)) (bw : 0 < P 0 0 ∧ P 0 0 ≤ 8) (b6 : gJ P (P 6 a).toNat < 48) (b7 : gJ P (P 7 a).toNat < 48) (m6 : ((gJ P (P 6 a).toNat : Nat) : Int) % P 0 0 = P 6 a % 8) (d6 : ((gJ P (P 6 a).toNat : Nat) : Int) / P 0 0 = P 6 a / 8) (m7 : ((gJ P (P 7 a).toNat : Nat) : Int) % P 0 0 = P 7 a % 8) (d7 : ((gJ P (P 7 a).toNat : Nat) : Int) / P 0 0 = P 7 a / 8)
    (k0 : (y = 0) → (0 ≤ (245 + (a : Int))) → ((245 + (a : Int)) < 2750) → ((P 0 0) ≠ 0) → Q (h, some (0, (P 6 a % 8))))
    (k1 : (y ≠ 0) → (y = 1) → (0 ≤ (245 + (a : Int))) → ((245 + (a : Int)) < 2750) → ((P 0 0) ≠ 0) → Q (h, some (0, (P 6 a / 8))))
    (k2 : (y ≠ 0) → (y ≠ 1) → (y = 2) → (0 ≤ (251 + (a : Int))) → ((251 + (a : Int)) < 2750) → ((P 0 0) ≠ 0) → Q (h, some (0, (P 7 a % 8))))
    (k3 : (y ≠ 0) → (y ≠ 1) → (y ≠ 2) → (y = 3) → (0 ≤ (251 + (a : Int))) → ((251 + (a : Int)) < 2750) → ((P 0 0) ≠ 0) → Q (h, some (0, (P 7 a / 8))))
    (k4 : (y ≠ 0) → (y ≠ 1) → (y ≠ 2) → (y ≠ 3) → (y = 4) → (0 ≤ (263 + (a : Int))) → ((263 + (a : Int)) < 2750) → Q (h, some (0, (P 8 a))))
    (k5 : (y ≠ 0) → (y ≠ 1) → (y ≠ 2) → (y ≠ 3) → (y ≠ 4) → (y = 5) → (0 ≤ (269 + (a : Int))) → ((269 + (a : Int)) < 2750) → Q (h, some (0, (P 9 a))))
    (k6 : (y ≠ 0) → (y ≠ 1) → (y ≠ 2) → (y ≠ 3) → (y ≠ 4) → (y ≠ 5) → Q (zset h 121 0 (0, 5), some (0, -1))) :
    vP D T N 209 24 h [some (2, 121), some (0, (a : Int)), some (0, y)] [] Q := by
  refine v_load (v := (0, y)) (hz_X12_company hT _ _ rfl) rfl rfl ?_
  refine v_sw (hz_X12_company hT _ _ rfl) ?_
  refine ⟨fun hc1 => ?_, fun hc1 => ?_⟩
  · have hc1 : y = 0 := hc1
    refine v_load (v := (2, 121)) (hz_X12_company hT _ _ rfl) rfl rfl ?_
    refine v_getR (c := 126) (r := 121) (hz_X12_company hT _ _ rfl) rfl rfl rfl ?_
    refine v_push (245) (hz_X12_company hT _ _ rfl) rfl ?_
    refine v_load (v := (0, (a : Int))) (hz_X12_company hT _ _ rfl) rfl rfl ?_
    refine v_bin (w := (245 + (a : Int))) (hz_X12_company hT _ _ rfl) (hq_add (by omega) (by omega)) ?_
    refine v_aldB (t := 0) (r := 126) (w := ((gJ P (P 6 a).toNat : Nat) : Int)) (hz_X12_company hT _ _ rfl) rfl rfl rfl (fun _ _ => (congrArg Prod.snd ea)) (fun ha2 hb3 => ?_)
    refine v_load (v := (2, 121)) (hz_X12_company hT _ _ rfl) rfl rfl ?_
    refine v_getR (c := 126) (r := 121) (hz_X12_company hT _ _ rfl) rfl rfl rfl ?_
    refine v_push (0) (hz_X12_company hT _ _ rfl) rfl ?_
    refine v_aldV (v := (0, (P 0 0))) (r := 126) (hz_X12_company hT _ _ rfl) rfl rfl (fun _ _ _ => p0) (fun ha4 hb5 => ?_)
    refine v_div (w := (P 6 a % 8)) (hz_X12_company hT _ _ rfl) (fun _ => (hq_rem (by omega) (by omega) (by omega) (by omega)).trans m6) (fun hc6 => ?_)
    refine v_ret (hz_X12_company hT _ _ rfl) (Or.inl rfl) ?_
    exact k0 hc1 ha2 hb3 hc6
  refine ⟨fun hc7 => ?_, fun hc7 => ?_⟩
  · have hc7 : y = 1 := hc7
    refine v_load (v := (2, 121)) (hz_X12_company hT _ _ rfl) rfl rfl ?_
    refine v_getR (c := 126) (r := 121) (hz_X12_company hT _ _ rfl) rfl rfl rfl ?_
    refine v_push (245) (hz_X12_company hT _ _ rfl) rfl ?_
    refine v_load (v := (0, (a : Int))) (hz_X12_company hT _ _ rfl) rfl rfl ?_
    refine v_bin (w := (245 + (a : Int))) (hz_X12_company hT _ _ rfl) (hq_add (by omega) (by omega)) ?_
    refine v_aldB (t := 0) (r := 126) (w := ((gJ P (P 6 a).toNat : Nat) : Int)) (hz_X12_company hT _ _ rfl) rfl rfl rfl (fun _ _ => (congrArg Prod.snd ea)) (fun ha8 hb9 => ?_)
    refine v_load (v := (2, 121)) (hz_X12_company hT _ _ rfl) rfl rfl ?_
    refine v_getR (c := 126) (r := 121) (hz_X12_company hT _ _ rfl) rfl rfl rfl ?_
    refine v_push (0) (hz_X12_company hT _ _ rfl) rfl ?_
    refine v_aldV (v := (0, (P 0 0))) (r := 126) (hz_X12_company hT _ _ rfl) rfl rfl (fun _ _ _ => p0) (fun ha10 hb11 => ?_)
    refine v_div (w := (P 6 a / 8)) (hz_X12_company hT _ _ rfl) (fun _ => (hq_quo (by omega) (by omega) (by omega) (by omega)).trans d6) (fun hc12 => ?_)
    refine v_ret (hz_X12_company hT _ _ rfl) (Or.inl rfl) ?_
    exact k1 hc1 hc7 ha8 hb9 hc12
  refine ⟨fun hc13 => ?_, fun hc13 => ?_⟩
  · have hc13 : y = 2 := hc13
    refine v_load (v := (2, 121)) (hz_X12_company hT _ _ rfl) rfl rfl ?_
    refine v_getR (c := 126) (r := 121) (hz_X12_company hT _ _ rfl) rfl rfl rfl ?_
    refine v_push (251) (hz_X12_company hT _ _ rfl) rfl ?_
    refine v_load (v := (0, (a : Int))) (hz_X12_company hT _ _ rfl) rfl rfl ?_
    refine v_bin (w := (251 + (a : Int))) (hz_X12_company hT _ _ rfl) (hq_add (by omega) (by omega)) ?_
    refine v_aldB (t := 0) (r := 126) (w := ((gJ P (P 7 a).toNat : Nat) : Int)) (hz_X12_company hT _ _ rfl) rfl rfl rfl (fun _ _ => (congrArg Prod.snd eg)) (fun ha14 hb15 => ?_)
    refine v_load (v := (2, 121)) (hz_X12_company hT _ _ rfl) rfl rfl ?_
    refine v_getR (c := 126) (r := 121) (hz_X12_company hT _ _ rfl) rfl rfl rfl ?_
    refine v_push (0) (hz_X12_company hT _ _ rfl) rfl ?_
    refine v_aldV (v := (0, (P 0 0))) (r := 126) (hz_X12_company hT _ _ rfl) rfl rfl (fun _ _ _ => p0) (fun ha16 hb17 => ?_)
    refine v_div (w := (P 7 a % 8)) (hz_X12_company hT _ _ rfl) (fun _ => (hq_rem (by omega) (by omega) (by omega) (by omega)).trans m7) (fun hc18 => ?_)
    refine v_ret (hz_X12_company hT _ _ rfl) (Or.inl rfl) ?_
    exact k2 hc1 hc7 hc13 ha14 hb15 hc18
  refine ⟨fun hc19 => ?_, fun hc19 => ?_⟩
  · have hc19 : y = 3 := hc19
    refine v_load (v := (2, 121)) (hz_X12_company hT _ _ rfl) rfl rfl ?_
    refine v_getR (c := 126) (r := 121) (hz_X12_company hT _ _ rfl) rfl rfl rfl ?_
    refine v_push (251) (hz_X12_company hT _ _ rfl) rfl ?_
    refine v_load (v := (0, (a : Int))) (hz_X12_company hT _ _ rfl) rfl rfl ?_
    refine v_bin (w := (251 + (a : Int))) (hz_X12_company hT _ _ rfl) (hq_add (by omega) (by omega)) ?_
    refine v_aldB (t := 0) (r := 126) (w := ((gJ P (P 7 a).toNat : Nat) : Int)) (hz_X12_company hT _ _ rfl) rfl rfl rfl (fun _ _ => (congrArg Prod.snd eg)) (fun ha20 hb21 => ?_)
    refine v_load (v := (2, 121)) (hz_X12_company hT _ _ rfl) rfl rfl ?_
    refine v_getR (c := 126) (r := 121) (hz_X12_company hT _ _ rfl) rfl rfl rfl ?_
    refine v_push (0) (hz_X12_company hT _ _ rfl) rfl ?_
    refine v_aldV (v := (0, (P 0 0))) (r := 126) (hz_X12_company hT _ _ rfl) rfl rfl (fun _ _ _ => p0) (fun ha22 hb23 => ?_)
    refine v_div (w := (P 7 a / 8)) (hz_X12_company hT _ _ rfl) (fun _ => (hq_quo (by omega) (by omega) (by omega) (by omega)).trans d7) (fun hc24 => ?_)
    refine v_ret (hz_X12_company hT _ _ rfl) (Or.inl rfl) ?_
    exact k3 hc1 hc7 hc13 hc19 ha20 hb21 hc24
  refine ⟨fun hc25 => ?_, fun hc25 => ?_⟩
  · have hc25 : y = 4 := hc25
    refine v_load (v := (2, 121)) (hz_X12_company hT _ _ rfl) rfl rfl ?_
    refine v_getR (c := 126) (r := 121) (hz_X12_company hT _ _ rfl) rfl rfl rfl ?_
    refine v_push (263) (hz_X12_company hT _ _ rfl) rfl ?_
    refine v_load (v := (0, (a : Int))) (hz_X12_company hT _ _ rfl) rfl rfl ?_
    refine v_bin (w := (263 + (a : Int))) (hz_X12_company hT _ _ rfl) (hq_add (by omega) (by omega)) ?_
    refine v_aldB (t := 0) (r := 126) (w := (P 8 a)) (hz_X12_company hT _ _ rfl) rfl rfl rfl (fun _ _ => (congrArg Prod.snd eb)) (fun ha26 hb27 => ?_)
    refine v_ret (hz_X12_company hT _ _ rfl) (Or.inl rfl) ?_
    exact k4 hc1 hc7 hc13 hc19 hc25 ha26 hb27
  refine ⟨fun hc28 => ?_, fun hc28 => ?_⟩
  · have hc28 : y = 5 := hc28
    refine v_load (v := (2, 121)) (hz_X12_company hT _ _ rfl) rfl rfl ?_
    refine v_getR (c := 126) (r := 121) (hz_X12_company hT _ _ rfl) rfl rfl rfl ?_
    refine v_push (269) (hz_X12_company hT _ _ rfl) rfl ?_
    refine v_load (v := (0, (a : Int))) (hz_X12_company hT _ _ rfl) rfl rfl ?_
    refine v_bin (w := (269 + (a : Int))) (hz_X12_company hT _ _ rfl) (hq_add (by omega) (by omega)) ?_
    refine v_aldB (t := 0) (r := 126) (w := (P 9 a)) (hz_X12_company hT _ _ rfl) rfl rfl rfl (fun _ _ => (congrArg Prod.snd es)) (fun ha29 hb30 => ?_)
    refine v_ret (hz_X12_company hT _ _ rfl) (Or.inl rfl) ?_
    exact k5 hc1 hc7 hc13 hc19 hc25 hc28 ha29 hb30
  show vP _ _ _ _ _ _ _ _ _
  refine v_load (v := (2, 121)) (hz_X12_company hT _ _ rfl) rfl rfl ?_
  refine v_push (5) (hz_X12_company hT _ _ rfl) rfl ?_
  refine v_call (w := 2) [some (2, 121), some (0, 5)] hO (hz_X12_company hT _ _ rfl) rfl rfl ?_
  refine v_load (v := (2, 121)) (hi_X12_refuse_0 hT) rfl rfl ?_
  refine v_load (v := (0, 5)) (hi_X12_refuse_1 hT) rfl rfl ?_
  refine v_putf (r := 121) hO (hi_X12_refuse_2 hT) rfl (fun hf31 => ?_)
  refine v_push (-1) (hi_X12_refuse_5 hT) rfl ?_
  refine v_ret (hi_X12_refuse_6 hT) (Or.inl rfl) ?_
  show vP D T N 209 163 (zset h 121 0 (0, 5)) [some (2, 121), some (0, (a : Int)), some (0, y)] [(0, -1)] _
  refine v_ret (hz_X12_company hT _ _ rfl) (Or.inl rfl) ?_
  exact k6 hc1 hc7 hc13 hc19 hc25 hc28
section RA
variable {D : zD} {T : zT} {N : Nat} {h : zH} {P : PT}
theorem rq_company (hT : hTab T) (hO : vOK T) (hR : rBk 0 P h) (hb : fB P) (x y : Int) : vP D T N 209 0 h [some (2, 121), some (0, x), some (0, y)] [] (fun r => r.2 = some (0, cmV P x y)) := by
  have lb := hb.1
  have l6 := lb.2.2.2.2
  have hR2 : rBk 0 P (zset (zset h 121 1 (0, 0)) 121 0 (0, 0)) := (hR.z1 lb).z1 lb
  have no : ¬ (okM P x ∧ 0 ≤ y ∧ y ≤ 5) → (some ((0, -1) : zV)) = some (0, cmV P x y) := fun c => by
    unfold cmV
    rw [if_neg c]
  have yes : ∀ a : Nat, x = (a : Int) → (a : Int) < P 0 3 → ∀ v : Int, 0 ≤ y → y ≤ 5 → cmF P a y = v → some ((0, v) : zV) = some (0, cmV P x y) := fun a ea ha v h0 h5 e => by
    rw [ea, ← cmV_y ha h0 h5, e]
  refine vP_hv (fun hv => qs_company0 (P := P) hT hO x y hv hR.w hR.r hR.c hR.m lb ?k0 ?k1 ?k2)
  case k2 =>
    intro c1 c2
    obtain ⟨a, ea⟩ : ∃ a : Nat, x = (a : Int) := ⟨x.toNat, by omega⟩
    have ha : (a : Int) < P 0 3 := by omega
    obtain ⟨_, ⟨b6, g6⟩, ⟨b7, g7⟩, _⟩ := hb.2.2.2 a ha
    obtain ⟨m6, d6⟩ := gJ_m lb g6
    obtain ⟨m7, d7⟩ := gJ_m lb g7
    have Y := yes a ea ha
    have w1 := g6.2.1
    rw [ea]
    refine vP_hv (fun hv => qs_company24 (P := P) hT hO y hv hR2.w (by omega) (hR2.at ha) (hR2.go ha) (hR2.by ha) (hR2.sp ha) ⟨by omega, lb.1.2⟩ (gJ_lt lb g6) (gJ_lt lb g7) (by rw [m6]; omega) (by rw [d6]; omega) (by rw [m7]; omega) (by rw [d7]; omega) ?_ ?_ ?_ ?_ ?_ ?_ ?_)
    all_goals rw [← ea]
    · intro d _ _ _; exact Y _ (by omega) (by omega) (if_pos d)
    · intro d0 d _ _ _; exact Y _ (by omega) (by omega) ((if_neg d0).trans (if_pos d))
    · intro d0 d1 d _ _ _; exact Y _ (by omega) (by omega) ((if_neg d0).trans ((if_neg d1).trans (if_pos d)))
    · intro d0 d1 d2 d _ _ _; exact Y _ (by omega) (by omega) ((if_neg d0).trans ((if_neg d1).trans ((if_neg d2).trans (if_pos d))))
    · intro d0 d1 d2 d3 d _ _; exact Y _ (by omega) (by omega) ((if_neg d0).trans ((if_neg d1).trans ((if_neg d2).trans ((if_neg d3).trans (if_pos d)))))
    · intro d0 d1 d2 d3 d4 d _ _; exact Y _ (by omega) (by omega) ((if_neg d0).trans ((if_neg d1).trans ((if_neg d2).trans ((if_neg d3).trans (if_neg d4)))))
    · intro d0 d1 d2 d3 d4 d5; exact no (by rintro ⟨_, o1, o2⟩; omega)
  all_goals
    intros
    exact no (by rintro ⟨⟨o1, o2⟩, _⟩; omega)
end RA
end
section
theorem fRa_company {D : zD} (_ : ∀ i, -2147483648 ≤ D.2 i ∧ D.2 i ≤ 2147483647) {h h1 h2 : zH} {x y v1 v2 : Int} (hZ : lZ D h) (hZ1 : lZ D h1) (hR : fR h) (z1 : zRun D TLw 614 151 0 (h, zargs 0 [(2, 0), (0, x), (0, y)], []) (h1, some (0, v1))) (f1 : aFr lM_151 h h1) (z2 : zRun D TLw 614 209 0 (h1, zargs 0 [(2, 121), (0, x), (0, y)], []) (h2, some (0, v2))) (f2 : aFr lM_209 h1 h2) : fR h2 ∧ v1 = v2 := by
  refine ⟨fR_S.fr (M := lM_209) (by decide +kernel) f2 (fR_S.fr (M := lM_151) (by decide +kernel) f1 hR), ?_⟩
  obtain ⟨hL, hM, r, c, s1, s2, s3, P, p1, p2, p3, p4, o⟩ := hR
  have a1 : v1 = cmV P x y := by
    rcases s1 with ⟨rfl, rfl⟩ | ⟨rfl, rfl⟩
    · have q3 := hZ.run 3 z1 (Q := fun r => r.2 = some (0, cmV P x y)) (fun N => cq_company_39 TLw_T vOK_T p1 p3 s2 x y)
      cases (q3 : some ((0, v1) : zV) = some (0, cmV P x y)); rfl
    · have q3 := hZ.run 3 z1 (Q := fun r => r.2 = some (0, cmV P x y)) (fun N => cq_company_24 TLw_T vOK_T p1 p3 s2 x y)
      cases (q3 : some ((0, v1) : zV) = some (0, cmV P x y)); rfl
  have hR1 : rBk 0 P h1 := p2.eq p3.1 (fun b _ hb => f1.keep (S := [(126, 0, 274)]) (by decide +kernel) ⟨(126, 0, 274), List.mem_cons_self, rfl, Nat.zero_le _, show b ≤ 274 by omega⟩)
  have r3 := hZ1.run 3 z2 (Q := fun r => r.2 = some (0, cmV P x y)) (fun N => rq_company TLw_T vOK_T hR1 p3 x y)
  have r3 : v2 = cmV P x y := by cases (r3 : some ((0, v2) : zV) = some (0, cmV P x y)); rfl
  exact a1.trans r3.symm
end
