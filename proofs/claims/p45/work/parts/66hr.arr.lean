/-! arrivals(): what it leaves of both LANDS -/
theorem vRn_k {D : zD} {T : zT} {N mi pc : Nat} {h : zH} {l : List (Option zV)} {S : List zV} {Q : zR → Prop} {h0 : zH} (H : vP D T N mi pc h l S (fun r => r.2 = none ∧ (∀ j, r.1 127 j = h0 127 j) ∧ oH 127 121 21 r.1)) (k : ∀ g, ((∀ j, g 127 j = h0 127 j) ∧ oH 127 121 21 g) → Q (g, none)) : vP D T N mi pc h l S Q := vP_Q (fun r hr => by
  obtain ⟨g, v⟩ := r
  obtain ⟨e, a⟩ := hr
  have e : v = none := e
  subst e
  exact k g a) H
theorem vFr_k {D : zD} {T : zT} {N mi pc : Nat} {h : zH} {l : List (Option zV)} {S : List zV} {Q : zR → Prop} {h0 : zH} (H : vP D T N mi pc h l S (fun r => r.2 = some (0, 1) ∧ ∀ j, r.1 126 j = h0 126 j)) (k : ∀ g, (∀ j, g 126 j = h0 126 j) → Q (g, some (0, 1))) : vP D T N mi pc h l S Q := vP_Q (fun r hr => by
  obtain ⟨g, v⟩ := r
  obtain ⟨e, a⟩ := hr
  have e : v = some (0, 1) := e
  subst e
  exact k g a) H
theorem oH.seti {u r0 k0 : Nat} {h : zH} (g : oH u r0 k0 h) {r k : Nat} {z : Int} : oH u r0 k0 (zset h r k (0, z)) := fun a b hc hn => by
  by_cases e : a = r ∧ b = k
  · obtain ⟨rfl, rfl⟩ := e
    rw [zset_same]
    exact oV_0
  · rw [zset_ne e]
    exact g a b hc hn
theorem qr_frac0 {D : zD} {T : zT} (hT : hTab T) (hO : vOK T) {N : Nat} {h : zH} {Q : zR → Prop} (t b : Int) (hv0 : zHv h)
    (k0 : vP D T N 230 9 h [some (2, 121), some (1, t), none, some (1, b), none, some (1, (if 0 < t then t else (-Int64.ofInt t).toInt)), none, some (1, b), none, none, none] [] Q) :
    vP D T N 230 0 h [some (2, 121), some (1, t), none, some (1, b), none, none, none, none, none, none, none] [] Q := by
  refine v_load (v := (1, t)) (hz_X12_fraction hT _ _ rfl) rfl rfl ?_
  refine v_abs (hz_X12_fraction hT _ _ rfl) ?_
  refine v_store2 [some (2, 121), some (1, t), none, some (1, b), none, some (1, (if 0 < t then t else (-Int64.ofInt t).toInt)), none, none, none, none, none] (hz_X12_fraction hT _ _ rfl) (Nat.le_of_ble_eq_true rfl) rfl ?_
  refine v_load (v := (1, b)) (hz_X12_fraction hT _ _ rfl) rfl rfl ?_
  refine v_store2 [some (2, 121), some (1, t), none, some (1, b), none, some (1, (if 0 < t then t else (-Int64.ofInt t).toInt)), none, some (1, b), none, none, none] (hz_X12_fraction hT _ _ rfl) (Nat.le_of_ble_eq_true rfl) rfl ?_
  exact k0 
theorem qr_frac9 {D : zD} {T : zT} (hT : hTab T) (hO : vOK T) {N : Nat} {h : zH} {Q : zR → Prop} (t b x y : Int) (o1 o2 : Option zV) (hv0 : zHv h)
    (k0 : (y = 0) → (x ≠ 0) → (x ≠ 0) → Q (zset (zset h 121 2 (1, ((zd64 0 (Int64.ofInt t) (Int64.ofInt x)).toInt))) 121 3 (1, ((zd64 0 (Int64.ofInt b) (Int64.ofInt x)).toInt)), some (0, 1)))
    (k1 : (y ≠ 0) → (y ≠ 0) → vP D T N 230 9 h [some (2, 121), some (1, t), none, some (1, b), none, some (1, y), none, some (1, ((zd64 1 (Int64.ofInt x) (Int64.ofInt y)).toInt)), none, some (1, ((zd64 1 (Int64.ofInt x) (Int64.ofInt y)).toInt)), none] [] Q) :
    vP D T (N + 1) 230 9 h [some (2, 121), some (1, t), none, some (1, b), none, some (1, x), none, some (1, y), none, o1, o2] [] Q := by
  refine v_loadS (v := (1, y)) (hz_X12_fraction hT _ _ rfl) rfl rfl ?_
  refine v_push (0) (hz_X12_fraction hT _ _ rfl) rfl ?_
  refine v_lif (hz_X12_fraction hT _ _ rfl) (hz_X12_fraction hT _ _ rfl) (fun hc1 => ?_) (fun hc1 => ?_)
  · have hc1 : y = 0 := hc1
    refine v_load (v := (2, 121)) (hz_X12_fraction hT _ _ rfl) rfl rfl ?_
    refine v_load (v := (1, t)) (hz_X12_fraction hT _ _ rfl) rfl rfl ?_
    refine v_load (v := (1, x)) (hz_X12_fraction hT _ _ rfl) rfl rfl ?_
    refine v_div64 (w := ((zd64 0 (Int64.ofInt t) (Int64.ofInt x)).toInt)) (hz_X12_fraction hT _ _ rfl) (fun _ => rfl) (fun hc2 => ?_)
    refine v_putf (r := 121) hO (hz_X12_fraction hT _ _ rfl) rfl (fun hf3 => ?_)
    refine v_load (v := (2, 121)) (hz_X12_fraction hT _ _ rfl) rfl rfl ?_
    refine v_load (v := (1, b)) (hz_X12_fraction hT _ _ rfl) rfl rfl ?_
    refine v_load (v := (1, x)) (hz_X12_fraction hT _ _ rfl) rfl rfl ?_
    refine v_div64 (w := ((zd64 0 (Int64.ofInt b) (Int64.ofInt x)).toInt)) (hz_X12_fraction hT _ _ rfl) (fun _ => rfl) (fun hc4 => ?_)
    refine v_putf (r := 121) hO (hz_X12_fraction hT _ _ rfl) rfl (fun hf5 => ?_)
    refine v_push (1) (hz_X12_fraction hT _ _ rfl) rfl ?_
    refine v_ret (hz_X12_fraction hT _ _ rfl) (Or.inl rfl) ?_
    exact k0 hc1 hc2 hc4
  · have hc1 : y ≠ 0 := hc1
    refine v_load (v := (1, x)) (hz_X12_fraction hT _ _ rfl) rfl rfl ?_
    refine v_load (v := (1, y)) (hz_X12_fraction hT _ _ rfl) rfl rfl ?_
    refine v_div64 (w := ((zd64 1 (Int64.ofInt x) (Int64.ofInt y)).toInt)) (hz_X12_fraction hT _ _ rfl) (fun _ => rfl) (fun hc6 => ?_)
    refine v_store2 [some (2, 121), some (1, t), none, some (1, b), none, some (1, x), none, some (1, y), none, some (1, ((zd64 1 (Int64.ofInt x) (Int64.ofInt y)).toInt)), none] (hz_X12_fraction hT _ _ rfl) (Nat.le_of_ble_eq_true rfl) rfl ?_
    refine v_load (v := (1, y)) (hz_X12_fraction hT _ _ rfl) rfl rfl ?_
    refine v_store2 [some (2, 121), some (1, t), none, some (1, b), none, some (1, y), none, some (1, y), none, some (1, ((zd64 1 (Int64.ofInt x) (Int64.ofInt y)).toInt)), none] (hz_X12_fraction hT _ _ rfl) (Nat.le_of_ble_eq_true rfl) rfl ?_
    refine v_load (v := (1, ((zd64 1 (Int64.ofInt x) (Int64.ofInt y)).toInt))) (hz_X12_fraction hT _ _ rfl) rfl rfl ?_
    refine v_store2 [some (2, 121), some (1, t), none, some (1, b), none, some (1, y), none, some (1, ((zd64 1 (Int64.ofInt x) (Int64.ofInt y)).toInt)), none, some (1, ((zd64 1 (Int64.ofInt x) (Int64.ofInt y)).toInt)), none] (hz_X12_fraction hT _ _ rfl) (Nat.le_of_ble_eq_true rfl) rfl ?_
    refine v_goto (hz_X12_fraction hT _ _ rfl) ?_
    exact k1 hc1 hc6
theorem qr_arr0 {D : zD} {T : zT} (hT : hTab T) (hO : vOK T) {N : Nat} {h : zH} {Q : zR → Prop} (k sd mn : Int) (hv0 : zHv h) (b3 : 0 ≤ (h 126 3).2 ∧ (h 126 3).2 ≤ 6)
    (k0 : (k < 0) → Q (zset (zset (zset h 121 1 (0, 0)) 121 0 (0, 0)) 121 0 (0, 2), some (0, 0)))
    (k1 : (0 ≤ k) → (((h 126 3).2 - 1) < k) → Q (zset (zset (zset h 121 1 (0, 0)) 121 0 (0, 0)) 121 0 (0, 2), some (0, 0)))
    (k2 : (0 ≤ k) → (k ≤ ((h 126 3).2 - 1)) → (mn < 1) → Q (zset (zset (zset h 121 1 (0, 0)) 121 0 (0, 0)) 121 0 (0, 5), some (0, 0)))
    (k3 : (0 ≤ k) → (k ≤ ((h 126 3).2 - 1)) → (1 ≤ mn) → (20 < mn) → Q (zset (zset (zset h 121 1 (0, 0)) 121 0 (0, 0)) 121 0 (0, 5), some (0, 0)))
    (k4 : (0 ≤ k) → (k ≤ ((h 126 3).2 - 1)) → (1 ≤ mn) → (mn ≤ 20) → (sd < 0) → Q (zset (zset (zset h 121 1 (0, 0)) 121 0 (0, 0)) 121 0 (0, 5), some (0, 0)))
    (k5 : (0 ≤ k) → (k ≤ ((h 126 3).2 - 1)) → (1 ≤ mn) → (mn ≤ 20) → (0 ≤ sd) → ((10000 - mn) < sd) → Q (zset (zset (zset h 121 1 (0, 0)) 121 0 (0, 0)) 121 0 (0, 5), some (0, 0)))
    (k6 : (0 ≤ k) → (k ≤ ((h 126 3).2 - 1)) → (1 ≤ mn) → (mn ≤ 20) → (0 ≤ sd) → (sd ≤ (10000 - mn)) → ((h 126 275).2 = 0) → Q (zset (zset (zset h 121 1 (0, 0)) 121 0 (0, 0)) 121 0 (0, 8), some (0, 0)))
    (k7 : (0 ≤ k) → (k ≤ ((h 126 3).2 - 1)) → (1 ≤ mn) → (mn ≤ 20) → (0 ≤ sd) → (sd ≤ (10000 - mn)) → ((h 126 275).2 ≠ 0) → vP D T N 196 78 (zset (zset h 121 1 (0, 0)) 121 0 (0, 0)) [some (2, 121), some (0, k), some (0, sd), some (0, mn), some (0, 0), none, none] [] Q) :
    vP D T N 196 0 h [some (2, 121), some (0, k), some (0, sd), some (0, mn), none, none, none] [] Q := by
  refine v_load (v := (2, 121)) (hz_X12_arrivals hT _ _ rfl) rfl rfl ?_
  refine v_push (0) (hz_X12_arrivals hT _ _ rfl) rfl ?_
  refine v_putf (r := 121) hO (hz_X12_arrivals hT _ _ rfl) rfl (fun hf1 => ?_)
  refine v_load (v := (2, 121)) (hz_X12_arrivals hT _ _ rfl) rfl rfl ?_
  refine v_push (0) (hz_X12_arrivals hT _ _ rfl) rfl ?_
  refine v_putf (r := 121) hO (hz_X12_arrivals hT _ _ rfl) rfl (fun hf2 => ?_)
  refine v_load (v := (2, 121)) (hz_X12_arrivals hT _ _ rfl) rfl rfl ?_
  refine v_load (v := (0, k)) (hz_X12_arrivals hT _ _ rfl) rfl rfl ?_
  refine v_call (w := 2) [some (2, 121), some (0, k)] hO (hz_X12_arrivals hT _ _ rfl) rfl rfl ?_
  refine v_load (v := (0, k)) (hz_X12_isCompanyAt hT _ _ rfl) rfl rfl ?_
  refine v_i2l (hz_X12_isCompanyAt hT _ _ rfl) ?_
  refine v_push (0) (hz_X12_isCompanyAt hT _ _ rfl) rfl ?_
  refine v_load (v := (2, 121)) (hz_X12_isCompanyAt hT _ _ rfl) rfl rfl ?_
  refine v_getR (c := 126) (r := 121) (hz_X12_isCompanyAt hT _ _ rfl) rfl rfl rfl ?_
  refine v_push (3) (hz_X12_isCompanyAt hT _ _ rfl) rfl ?_
  refine v_aldE (t := 0) (r := 126) (w := (h 126 3).2) (hz_X12_isCompanyAt hT _ _ rfl) rfl rfl rfl (congrArg Prod.snd (Eq.trans (zset_ne (fun c => absurd c.1 (by decide))) (zset_ne (fun c => absurd c.1 (by decide))))) (fun ha3 hb4 => ?_)
  refine v_push (1) (hz_X12_isCompanyAt hT _ _ rfl) rfl ?_
  refine v_bin (w := ((h 126 3).2 - 1)) (hz_X12_isCompanyAt hT _ _ rfl) (hq_sub (by omega) (by omega)) ?_
  refine v_i2l (hz_X12_isCompanyAt hT _ _ rfl) ?_
  refine v_call (w := 6) [some (1, k), none, some (1, 0), none, some (1, ((h 126 3).2 - 1)), none] hO (hz_X12_isCompanyAt hT _ _ rfl) rfl rfl ?_
  refine v_load (v := (1, k)) (hz_X12_isIn hT _ _ rfl) rfl rfl ?_
  refine v_load (v := (1, 0)) (hz_X12_isIn hT _ _ rfl) rfl rfl ?_
  refine v_lif (hz_X12_isIn hT _ _ rfl) (hz_X12_isIn hT _ _ rfl) (fun hc5 => ?_) (fun hc5 => ?_)
  · have hc5 : k < 0 := hc5
    refine v_push (0) (hz_X12_isIn hT _ _ rfl) rfl ?_
    refine v_ret (hz_X12_isIn hT _ _ rfl) (Or.inl rfl) ?_
    show vP D T N 246 15 (zset (zset h 121 1 (0, 0)) 121 0 (0, 0)) [some (2, 121), some (0, k)] [(0, 0)] _
    refine v_ret (hz_X12_isCompanyAt hT _ _ rfl) (Or.inl rfl) ?_
    show vP D T N 196 15 (zset (zset h 121 1 (0, 0)) 121 0 (0, 0)) [some (2, 121), some (0, k), some (0, sd), some (0, mn), none, none, none] [(0, 0)] _
    refine v_if (hz_X12_arrivals hT _ _ rfl) (fun _ => ?_) (fun hc6 => absurd (show (0 : Int) = 0 from (by omega)) hc6)
    refine v_load (v := (2, 121)) (hz_X12_arrivals hT _ _ rfl) rfl rfl ?_
    refine v_push (2) (hz_X12_arrivals hT _ _ rfl) rfl ?_
    refine v_call (w := 2) [some (2, 121), some (0, 2)] hO (hz_X12_arrivals hT _ _ rfl) rfl rfl ?_
    refine v_load (v := (2, 121)) (hz_X12_no hT _ _ rfl) rfl rfl ?_
    refine v_load (v := (0, 2)) (hz_X12_no hT _ _ rfl) rfl rfl ?_
    refine v_putf (r := 121) hO (hz_X12_no hT _ _ rfl) rfl (fun hf7 => ?_)
    refine v_push (0) (hz_X12_no hT _ _ rfl) rfl ?_
    refine v_ret (hz_X12_no hT _ _ rfl) (Or.inl rfl) ?_
    show vP D T N 196 23 (zset (zset (zset h 121 1 (0, 0)) 121 0 (0, 0)) 121 0 (0, 2)) [some (2, 121), some (0, k), some (0, sd), some (0, mn), none, none, none] [(0, 0)] _
    refine v_ret (hz_X12_arrivals hT _ _ rfl) (Or.inl rfl) ?_
    exact k0 hc5
  · have hc5 : 0 ≤ k := Int.not_lt.mp hc5
    refine v_load (v := (1, k)) (hz_X12_isIn hT _ _ rfl) rfl rfl ?_
    refine v_load (v := (1, ((h 126 3).2 - 1))) (hz_X12_isIn hT _ _ rfl) rfl rfl ?_
    refine v_lif (hz_X12_isIn hT _ _ rfl) (hz_X12_isIn hT _ _ rfl) (fun hc8 => ?_) (fun hc8 => ?_)
    · have hc8 : ((h 126 3).2 - 1) < k := hc8
      refine v_push (0) (hz_X12_isIn hT _ _ rfl) rfl ?_
      refine v_ret (hz_X12_isIn hT _ _ rfl) (Or.inl rfl) ?_
      show vP D T N 246 15 (zset (zset h 121 1 (0, 0)) 121 0 (0, 0)) [some (2, 121), some (0, k)] [(0, 0)] _
      refine v_ret (hz_X12_isCompanyAt hT _ _ rfl) (Or.inl rfl) ?_
      show vP D T N 196 15 (zset (zset h 121 1 (0, 0)) 121 0 (0, 0)) [some (2, 121), some (0, k), some (0, sd), some (0, mn), none, none, none] [(0, 0)] _
      refine v_if (hz_X12_arrivals hT _ _ rfl) (fun _ => ?_) (fun hc9 => absurd (show (0 : Int) = 0 from (by omega)) hc9)
      refine v_load (v := (2, 121)) (hz_X12_arrivals hT _ _ rfl) rfl rfl ?_
      refine v_push (2) (hz_X12_arrivals hT _ _ rfl) rfl ?_
      refine v_call (w := 2) [some (2, 121), some (0, 2)] hO (hz_X12_arrivals hT _ _ rfl) rfl rfl ?_
      refine v_load (v := (2, 121)) (hz_X12_no hT _ _ rfl) rfl rfl ?_
      refine v_load (v := (0, 2)) (hz_X12_no hT _ _ rfl) rfl rfl ?_
      refine v_putf (r := 121) hO (hz_X12_no hT _ _ rfl) rfl (fun hf10 => ?_)
      refine v_push (0) (hz_X12_no hT _ _ rfl) rfl ?_
      refine v_ret (hz_X12_no hT _ _ rfl) (Or.inl rfl) ?_
      show vP D T N 196 23 (zset (zset (zset h 121 1 (0, 0)) 121 0 (0, 0)) 121 0 (0, 2)) [some (2, 121), some (0, k), some (0, sd), some (0, mn), none, none, none] [(0, 0)] _
      refine v_ret (hz_X12_arrivals hT _ _ rfl) (Or.inl rfl) ?_
      exact k1 hc5 hc8
    · have hc8 : k ≤ ((h 126 3).2 - 1) := Int.not_lt.mp hc8
      refine v_push (1) (hz_X12_isIn hT _ _ rfl) rfl ?_
      refine v_goto (hz_X12_isIn hT _ _ rfl) ?_
      refine v_ret (hz_X12_isIn hT _ _ rfl) (Or.inl rfl) ?_
      show vP D T N 246 15 (zset (zset h 121 1 (0, 0)) 121 0 (0, 0)) [some (2, 121), some (0, k)] [(0, 1)] _
      refine v_ret (hz_X12_isCompanyAt hT _ _ rfl) (Or.inl rfl) ?_
      show vP D T N 196 15 (zset (zset h 121 1 (0, 0)) 121 0 (0, 0)) [some (2, 121), some (0, k), some (0, sd), some (0, mn), none, none, none] [(0, 1)] _
      refine v_if (hz_X12_arrivals hT _ _ rfl) (fun hc11 => absurd (show (1 : Int) = 0 from hc11) (by omega)) (fun _ => ?_)
      refine v_load (v := (0, mn)) (hz_X12_arrivals hT _ _ rfl) rfl rfl ?_
      refine v_i2l (hz_X12_arrivals hT _ _ rfl) ?_
      refine v_push (1) (hz_X12_arrivals hT _ _ rfl) rfl ?_
      refine v_push (20) (hz_X12_arrivals hT _ _ rfl) rfl ?_
      refine v_call (w := 6) [some (1, mn), none, some (1, 1), none, some (1, 20), none] hO (hz_X12_arrivals hT _ _ rfl) rfl rfl ?_
      refine v_load (v := (1, mn)) (hz_X12_isIn hT _ _ rfl) rfl rfl ?_
      refine v_load (v := (1, 1)) (hz_X12_isIn hT _ _ rfl) rfl rfl ?_
      refine v_lif (hz_X12_isIn hT _ _ rfl) (hz_X12_isIn hT _ _ rfl) (fun hc12 => ?_) (fun hc12 => ?_)
      · have hc12 : mn < 1 := hc12
        refine v_push (0) (hz_X12_isIn hT _ _ rfl) rfl ?_
        refine v_ret (hz_X12_isIn hT _ _ rfl) (Or.inl rfl) ?_
        show vP D T N 196 33 (zset (zset h 121 1 (0, 0)) 121 0 (0, 0)) [some (2, 121), some (0, k), some (0, sd), some (0, mn), none, none, none] [(0, 0)] _
        refine v_if (hz_X12_arrivals hT _ _ rfl) (fun _ => ?_) (fun hc13 => absurd (show (0 : Int) = 0 from (by omega)) hc13)
        refine v_load (v := (2, 121)) (hz_X12_arrivals hT _ _ rfl) rfl rfl ?_
        refine v_push (5) (hz_X12_arrivals hT _ _ rfl) rfl ?_
        refine v_call (w := 2) [some (2, 121), some (0, 5)] hO (hz_X12_arrivals hT _ _ rfl) rfl rfl ?_
        refine v_load (v := (2, 121)) (hz_X12_no hT _ _ rfl) rfl rfl ?_
        refine v_load (v := (0, 5)) (hz_X12_no hT _ _ rfl) rfl rfl ?_
        refine v_putf (r := 121) hO (hz_X12_no hT _ _ rfl) rfl (fun hf14 => ?_)
        refine v_push (0) (hz_X12_no hT _ _ rfl) rfl ?_
        refine v_ret (hz_X12_no hT _ _ rfl) (Or.inl rfl) ?_
        show vP D T N 196 56 (zset (zset (zset h 121 1 (0, 0)) 121 0 (0, 0)) 121 0 (0, 5)) [some (2, 121), some (0, k), some (0, sd), some (0, mn), none, none, none] [(0, 0)] _
        refine v_ret (hz_X12_arrivals hT _ _ rfl) (Or.inl rfl) ?_
        exact k2 hc5 hc8 hc12
      · have hc12 : 1 ≤ mn := Int.not_lt.mp hc12
        refine v_load (v := (1, mn)) (hz_X12_isIn hT _ _ rfl) rfl rfl ?_
        refine v_load (v := (1, 20)) (hz_X12_isIn hT _ _ rfl) rfl rfl ?_
        refine v_lif (hz_X12_isIn hT _ _ rfl) (hz_X12_isIn hT _ _ rfl) (fun hc15 => ?_) (fun hc15 => ?_)
        · have hc15 : 20 < mn := hc15
          refine v_push (0) (hz_X12_isIn hT _ _ rfl) rfl ?_
          refine v_ret (hz_X12_isIn hT _ _ rfl) (Or.inl rfl) ?_
          show vP D T N 196 33 (zset (zset h 121 1 (0, 0)) 121 0 (0, 0)) [some (2, 121), some (0, k), some (0, sd), some (0, mn), none, none, none] [(0, 0)] _
          refine v_if (hz_X12_arrivals hT _ _ rfl) (fun _ => ?_) (fun hc16 => absurd (show (0 : Int) = 0 from (by omega)) hc16)
          refine v_load (v := (2, 121)) (hz_X12_arrivals hT _ _ rfl) rfl rfl ?_
          refine v_push (5) (hz_X12_arrivals hT _ _ rfl) rfl ?_
          refine v_call (w := 2) [some (2, 121), some (0, 5)] hO (hz_X12_arrivals hT _ _ rfl) rfl rfl ?_
          refine v_load (v := (2, 121)) (hz_X12_no hT _ _ rfl) rfl rfl ?_
          refine v_load (v := (0, 5)) (hz_X12_no hT _ _ rfl) rfl rfl ?_
          refine v_putf (r := 121) hO (hz_X12_no hT _ _ rfl) rfl (fun hf17 => ?_)
          refine v_push (0) (hz_X12_no hT _ _ rfl) rfl ?_
          refine v_ret (hz_X12_no hT _ _ rfl) (Or.inl rfl) ?_
          show vP D T N 196 56 (zset (zset (zset h 121 1 (0, 0)) 121 0 (0, 0)) 121 0 (0, 5)) [some (2, 121), some (0, k), some (0, sd), some (0, mn), none, none, none] [(0, 0)] _
          refine v_ret (hz_X12_arrivals hT _ _ rfl) (Or.inl rfl) ?_
          exact k3 hc5 hc8 hc12 hc15
        · have hc15 : mn ≤ 20 := Int.not_lt.mp hc15
          refine v_push (1) (hz_X12_isIn hT _ _ rfl) rfl ?_
          refine v_goto (hz_X12_isIn hT _ _ rfl) ?_
          refine v_ret (hz_X12_isIn hT _ _ rfl) (Or.inl rfl) ?_
          show vP D T N 196 33 (zset (zset h 121 1 (0, 0)) 121 0 (0, 0)) [some (2, 121), some (0, k), some (0, sd), some (0, mn), none, none, none] [(0, 1)] _
          refine v_if (hz_X12_arrivals hT _ _ rfl) (fun hc18 => absurd (show (1 : Int) = 0 from hc18) (by omega)) (fun _ => ?_)
          refine v_load (v := (0, sd)) (hz_X12_arrivals hT _ _ rfl) rfl rfl ?_
          refine v_i2l (hz_X12_arrivals hT _ _ rfl) ?_
          refine v_push (0) (hz_X12_arrivals hT _ _ rfl) rfl ?_
          refine v_push (10000) (hz_X12_arrivals hT _ _ rfl) rfl ?_
          refine v_load (v := (0, mn)) (hz_X12_arrivals hT _ _ rfl) rfl rfl ?_
          refine v_bin (w := (10000 - mn)) (hz_X12_arrivals hT _ _ rfl) (hq_sub (by omega) (by omega)) ?_
          refine v_i2l (hz_X12_arrivals hT _ _ rfl) ?_
          refine v_call (w := 6) [some (1, sd), none, some (1, 0), none, some (1, (10000 - mn)), none] hO (hz_X12_arrivals hT _ _ rfl) rfl rfl ?_
          refine v_load (v := (1, sd)) (hz_X12_isIn hT _ _ rfl) rfl rfl ?_
          refine v_load (v := (1, 0)) (hz_X12_isIn hT _ _ rfl) rfl rfl ?_
          refine v_lif (hz_X12_isIn hT _ _ rfl) (hz_X12_isIn hT _ _ rfl) (fun hc19 => ?_) (fun hc19 => ?_)
          · have hc19 : sd < 0 := hc19
            refine v_push (0) (hz_X12_isIn hT _ _ rfl) rfl ?_
            refine v_ret (hz_X12_isIn hT _ _ rfl) (Or.inl rfl) ?_
            show vP D T N 196 48 (zset (zset h 121 1 (0, 0)) 121 0 (0, 0)) [some (2, 121), some (0, k), some (0, sd), some (0, mn), none, none, none] [(0, 0)] _
            refine v_if (hz_X12_arrivals hT _ _ rfl) (fun _ => ?_) (fun hc20 => absurd (show (0 : Int) = 0 from (by omega)) hc20)
            refine v_load (v := (2, 121)) (hz_X12_arrivals hT _ _ rfl) rfl rfl ?_
            refine v_push (5) (hz_X12_arrivals hT _ _ rfl) rfl ?_
            refine v_call (w := 2) [some (2, 121), some (0, 5)] hO (hz_X12_arrivals hT _ _ rfl) rfl rfl ?_
            refine v_load (v := (2, 121)) (hz_X12_no hT _ _ rfl) rfl rfl ?_
            refine v_load (v := (0, 5)) (hz_X12_no hT _ _ rfl) rfl rfl ?_
            refine v_putf (r := 121) hO (hz_X12_no hT _ _ rfl) rfl (fun hf21 => ?_)
            refine v_push (0) (hz_X12_no hT _ _ rfl) rfl ?_
            refine v_ret (hz_X12_no hT _ _ rfl) (Or.inl rfl) ?_
            show vP D T N 196 56 (zset (zset (zset h 121 1 (0, 0)) 121 0 (0, 0)) 121 0 (0, 5)) [some (2, 121), some (0, k), some (0, sd), some (0, mn), none, none, none] [(0, 0)] _
            refine v_ret (hz_X12_arrivals hT _ _ rfl) (Or.inl rfl) ?_
            exact k4 hc5 hc8 hc12 hc15 hc19
          · have hc19 : 0 ≤ sd := Int.not_lt.mp hc19
            refine v_load (v := (1, sd)) (hz_X12_isIn hT _ _ rfl) rfl rfl ?_
            refine v_load (v := (1, (10000 - mn))) (hz_X12_isIn hT _ _ rfl) rfl rfl ?_
            refine v_lif (hz_X12_isIn hT _ _ rfl) (hz_X12_isIn hT _ _ rfl) (fun hc22 => ?_) (fun hc22 => ?_)
            · have hc22 : (10000 - mn) < sd := hc22
              refine v_push (0) (hz_X12_isIn hT _ _ rfl) rfl ?_
              refine v_ret (hz_X12_isIn hT _ _ rfl) (Or.inl rfl) ?_
              show vP D T N 196 48 (zset (zset h 121 1 (0, 0)) 121 0 (0, 0)) [some (2, 121), some (0, k), some (0, sd), some (0, mn), none, none, none] [(0, 0)] _
              refine v_if (hz_X12_arrivals hT _ _ rfl) (fun _ => ?_) (fun hc23 => absurd (show (0 : Int) = 0 from (by omega)) hc23)
              refine v_load (v := (2, 121)) (hz_X12_arrivals hT _ _ rfl) rfl rfl ?_
              refine v_push (5) (hz_X12_arrivals hT _ _ rfl) rfl ?_
              refine v_call (w := 2) [some (2, 121), some (0, 5)] hO (hz_X12_arrivals hT _ _ rfl) rfl rfl ?_
              refine v_load (v := (2, 121)) (hz_X12_no hT _ _ rfl) rfl rfl ?_
              refine v_load (v := (0, 5)) (hz_X12_no hT _ _ rfl) rfl rfl ?_
              refine v_putf (r := 121) hO (hz_X12_no hT _ _ rfl) rfl (fun hf24 => ?_)
              refine v_push (0) (hz_X12_no hT _ _ rfl) rfl ?_
              refine v_ret (hz_X12_no hT _ _ rfl) (Or.inl rfl) ?_
              show vP D T N 196 56 (zset (zset (zset h 121 1 (0, 0)) 121 0 (0, 0)) 121 0 (0, 5)) [some (2, 121), some (0, k), some (0, sd), some (0, mn), none, none, none] [(0, 0)] _
              refine v_ret (hz_X12_arrivals hT _ _ rfl) (Or.inl rfl) ?_
              exact k5 hc5 hc8 hc12 hc15 hc19 hc22
            · have hc22 : sd ≤ (10000 - mn) := Int.not_lt.mp hc22
              refine v_push (1) (hz_X12_isIn hT _ _ rfl) rfl ?_
              refine v_goto (hz_X12_isIn hT _ _ rfl) ?_
              refine v_ret (hz_X12_isIn hT _ _ rfl) (Or.inl rfl) ?_
              show vP D T N 196 48 (zset (zset h 121 1 (0, 0)) 121 0 (0, 0)) [some (2, 121), some (0, k), some (0, sd), some (0, mn), none, none, none] [(0, 1)] _
              refine v_if (hz_X12_arrivals hT _ _ rfl) (fun hc25 => absurd (show (1 : Int) = 0 from hc25) (by omega)) (fun _ => ?_)
              refine v_load (v := (2, 121)) (hz_X12_arrivals hT _ _ rfl) rfl rfl ?_
              refine v_getR (c := 126) (r := 121) (hz_X12_arrivals hT _ _ rfl) rfl rfl rfl ?_
              refine v_push (275) (hz_X12_arrivals hT _ _ rfl) rfl ?_
              refine v_aldE (t := 0) (r := 126) (w := (h 126 275).2) (hz_X12_arrivals hT _ _ rfl) rfl rfl rfl (congrArg Prod.snd (Eq.trans (zset_ne (fun c => absurd c.1 (by decide))) (zset_ne (fun c => absurd c.1 (by decide))))) (fun ha26 hb27 => ?_)
              refine v_if (hz_X12_arrivals hT _ _ rfl) (fun hc28 => ?_) (fun hc28 => ?_)
              · have hc28 : (h 126 275).2 = 0 := hc28
                refine v_load (v := (2, 121)) (hz_X12_arrivals hT _ _ rfl) rfl rfl ?_
                refine v_push (8) (hz_X12_arrivals hT _ _ rfl) rfl ?_
                refine v_call (w := 2) [some (2, 121), some (0, 8)] hO (hz_X12_arrivals hT _ _ rfl) rfl rfl ?_
                refine v_load (v := (2, 121)) (hz_X12_no hT _ _ rfl) rfl rfl ?_
                refine v_load (v := (0, 8)) (hz_X12_no hT _ _ rfl) rfl rfl ?_
                refine v_putf (r := 121) hO (hz_X12_no hT _ _ rfl) rfl (fun hf29 => ?_)
                refine v_push (0) (hz_X12_no hT _ _ rfl) rfl ?_
                refine v_ret (hz_X12_no hT _ _ rfl) (Or.inl rfl) ?_
                show vP D T N 196 74 (zset (zset (zset h 121 1 (0, 0)) 121 0 (0, 0)) 121 0 (0, 8)) [some (2, 121), some (0, k), some (0, sd), some (0, mn), none, none, none] [(0, 0)] _
                refine v_ret (hz_X12_arrivals hT _ _ rfl) (Or.inl rfl) ?_
                exact k6 hc5 hc8 hc12 hc15 hc19 hc22 hc28
              · have hc28 : (h 126 275).2 ≠ 0 := hc28
                refine v_push (0) (hz_X12_arrivals hT _ _ rfl) rfl ?_
                refine v_store1 [some (2, 121), some (0, k), some (0, sd), some (0, mn), some (0, 0), none, none] (hz_X12_arrivals hT _ _ rfl) ⟨rfl, Nat.ne_of_beq_eq_false rfl⟩ (Nat.le_of_ble_eq_true rfl) rfl ?_
                exact k7 hc5 hc8 hc12 hc15 hc19 hc22 hc28
theorem qr_arr78 {D : zD} {T : zT} (hT : hTab T) (hO : vOK T) {N : Nat} {h : zH} {Q : zR → Prop} (k sd mn x : Int) (o1 o2 : Option zV) (hv0 : zHv h) (bx : 0 ≤ x ∧ x ≤ 275)
    (k0 : (x < 275) → (0 ≤ x) → (x < 2750) → vP D T N 196 78 (zset h 127 x.toNat (0, (h 126 x.toNat).2)) [some (2, 121), some (0, k), some (0, sd), some (0, mn), some (0, (x + 1)), o1, o2] [] Q)
    (k1 : (275 ≤ x) → vP D T N 196 112 h [some (2, 121), some (0, k), some (0, sd), some (0, mn), some (0, 0), some (0, 0), o2] [] Q) :
    vP D T (N + 1) 196 78 h [some (2, 121), some (0, k), some (0, sd), some (0, mn), some (0, x), o1, o2] [] Q := by
  refine v_loadS (v := (0, x)) (hz_X12_arrivals hT _ _ rfl) rfl rfl ?_
  refine v_push (275) (hz_X12_arrivals hT _ _ rfl) rfl ?_
  refine v_ic (hz_X12_arrivals hT _ _ rfl) (fun hc1 => ?_) (fun hc1 => ?_)
  · have hc1 : x < 275 := hc1
    refine v_load (v := (2, 121)) (hz_X12_arrivals hT _ _ rfl) rfl rfl ?_
    refine v_getR (c := 127) (r := 121) (hz_X12_arrivals hT _ _ rfl) rfl rfl rfl ?_
    refine v_load (v := (0, x)) (hz_X12_arrivals hT _ _ rfl) rfl rfl ?_
    refine v_load (v := (2, 121)) (hz_X12_arrivals hT _ _ rfl) rfl rfl ?_
    refine v_getR (c := 126) (r := 121) (hz_X12_arrivals hT _ _ rfl) rfl rfl rfl ?_
    refine v_load (v := (0, x)) (hz_X12_arrivals hT _ _ rfl) rfl rfl ?_
    refine v_ald (t := 0) (r := 126) (hz_X12_arrivals hT _ _ rfl) rfl rfl rfl (fun ha2 hb3 => ?_)
    refine v_ast (r := 127) (hz_X12_arrivals hT _ _ rfl) rfl rfl (fun ha4 hb5 hf6 => ?_)
    refine v_iinc (x := x) (u := 1) (w := (x + 1)) [some (2, 121), some (0, k), some (0, sd), some (0, mn), some (0, (x + 1)), o1, o2] (hz_X12_arrivals hT _ _ rfl) rfl rfl (Nat.le_of_ble_eq_true rfl) (vz_inc (by omega) (by omega)) rfl ?_
    refine v_goto (hz_X12_arrivals hT _ _ rfl) ?_
    exact k0 hc1 ha2 hb3
  · have hc1 : 275 ≤ x := Int.not_lt.mp hc1
    refine v_push (0) (hz_X12_arrivals hT _ _ rfl) rfl ?_
    refine v_store1 [some (2, 121), some (0, k), some (0, sd), some (0, mn), some (0, 0), o1, o2] (hz_X12_arrivals hT _ _ rfl) ⟨rfl, Nat.ne_of_beq_eq_false rfl⟩ (Nat.le_of_ble_eq_true rfl) rfl ?_
    refine v_push (0) (hz_X12_arrivals hT _ _ rfl) rfl ?_
    refine v_store1 [some (2, 121), some (0, k), some (0, sd), some (0, mn), some (0, 0), some (0, 0), o2] (hz_X12_arrivals hT _ _ rfl) ⟨rfl, Nat.ne_of_beq_eq_false rfl⟩ (Nat.le_of_ble_eq_true rfl) rfl ?_
    exact k1 hc1
theorem qr_arr112 {D : zD} {T : zT} (hT : hTab T) (hO : vOK T) {N : Nat} {h : zH} {Q : zR → Prop} (k sd mn n i : Int) (o2 : Option zV) (hv0 : zHv h) (bk : 0 ≤ k ∧ k ≤ 6) (bsd : 0 ≤ sd ∧ sd ≤ 10000) (bn : 0 ≤ n ∧ n ≤ 20) (bi : 0 ≤ i ∧ i ≤ 20) (hU : oH 127 121 21 h) (hRn : ∀ (N : Nat) (s : Int) (g : zH), oH 127 121 21 g → vP D T N 308 0 g [some (2, 121), some (0, s)] [] (fun r => r.2 = none ∧ (∀ j, r.1 127 j = g 127 j) ∧ oH 127 121 21 r.1)) (hFr : ∀ (N : Nat) (t b : Int) (g : zH), vP D T N 230 0 g [some (2, 121), some (1, t), none, some (1, b), none, none, none, none, none, none, none] [] (fun r => r.2 = some (0, 1) ∧ ∀ j, r.1 126 j = g 126 j))
    (k0 : (i < mn) → ∀ (g2 : zH), ((∀ j, g2 127 j = h 127 j) ∧ oH 127 121 21 g2) → (0 ≤ (245 + k)) → ((245 + k) < 2750) → (0 ≤ (251 + k)) → ((251 + k) < 2750) → ((g2 126 ((245 + k)).toNat).2 = (g2 126 ((251 + k)).toNat).2) → vP D T N 196 162 g2 [some (2, 121), some (0, k), some (0, sd), some (0, mn), some (0, (n + 1)), some (0, i), some (0, 0)] [] Q)
    (k1 : (i < mn) → ∀ (g2 : zH), ((∀ j, g2 127 j = h 127 j) ∧ oH 127 121 21 g2) → (0 ≤ (245 + k)) → ((245 + k) < 2750) → (0 ≤ (251 + k)) → ((251 + k) < 2750) → ((g2 126 ((245 + k)).toNat).2 ≠ (g2 126 ((251 + k)).toNat).2) → vP D T N 196 162 g2 [some (2, 121), some (0, k), some (0, sd), some (0, mn), some (0, (n + 0)), some (0, i), some (0, 0)] [] Q)
    (k2 : (mn ≤ i) → ∀ (g8 : zH), ((∀ j, g8 126 j = h 126 j)) → Q (g8, some (0, 1))) :
    vP D T N 196 112 h [some (2, 121), some (0, k), some (0, sd), some (0, mn), some (0, n), some (0, i), o2] [] Q := by
  refine v_load (v := (0, i)) (hz_X12_arrivals hT _ _ rfl) rfl rfl ?_
  refine v_load (v := (0, mn)) (hz_X12_arrivals hT _ _ rfl) rfl rfl ?_
  refine v_ic (hz_X12_arrivals hT _ _ rfl) (fun hc1 => ?_) (fun hc1 => ?_)
  · have hc1 : i < mn := hc1
    refine v_load (v := (2, 121)) (hz_X12_arrivals hT _ _ rfl) rfl rfl ?_
    refine v_load (v := (0, sd)) (hz_X12_arrivals hT _ _ rfl) rfl rfl ?_
    refine v_load (v := (0, i)) (hz_X12_arrivals hT _ _ rfl) rfl rfl ?_
    refine v_bin (w := (sd + i)) (hz_X12_arrivals hT _ _ rfl) (hq_add (by omega) (by omega)) ?_
    refine v_call (w := 2) [some (2, 121), some (0, (sd + i))] hO (hz_X12_arrivals hT _ _ rfl) rfl rfl (vRn_k (hRn _ ((sd + i)) _ hU) (fun g2 u2 => ?_))
    · show vP D T N 196 126 g2 [some (2, 121), some (0, k), some (0, sd), some (0, mn), some (0, n), some (0, i), o2] [] _
      refine vP_hv (fun hv2 => ?_)
      refine v_load (v := (0, n)) (hz_X12_arrivals hT _ _ rfl) rfl rfl ?_
      refine v_load (v := (2, 121)) (hz_X12_arrivals hT _ _ rfl) rfl rfl ?_
      refine v_getR (c := 126) (r := 121) (hz_X12_arrivals hT _ _ rfl) rfl rfl rfl ?_
      refine v_push (245) (hz_X12_arrivals hT _ _ rfl) rfl ?_
      refine v_load (v := (0, k)) (hz_X12_arrivals hT _ _ rfl) rfl rfl ?_
      refine v_bin (w := (245 + k)) (hz_X12_arrivals hT _ _ rfl) (hq_add (by omega) (by omega)) ?_
      refine v_ald (t := 0) (r := 126) (hz_X12_arrivals hT _ _ rfl) rfl rfl rfl (fun ha3 hb4 => ?_)
      refine v_load (v := (2, 121)) (hz_X12_arrivals hT _ _ rfl) rfl rfl ?_
      refine v_getR (c := 126) (r := 121) (hz_X12_arrivals hT _ _ rfl) rfl rfl rfl ?_
      refine v_push (251) (hz_X12_arrivals hT _ _ rfl) rfl ?_
      refine v_load (v := (0, k)) (hz_X12_arrivals hT _ _ rfl) rfl rfl ?_
      refine v_bin (w := (251 + k)) (hz_X12_arrivals hT _ _ rfl) (hq_add (by omega) (by omega)) ?_
      refine v_ald (t := 0) (r := 126) (hz_X12_arrivals hT _ _ rfl) rfl rfl rfl (fun ha5 hb6 => ?_)
      refine v_ic (hz_X12_arrivals hT _ _ rfl) (fun hc7 => ?_) (fun hc7 => ?_)
      · have hc7 : (g2 126 ((245 + k)).toNat).2 = (g2 126 ((251 + k)).toNat).2 := hc7
        refine v_push (1) (hz_X12_arrivals hT _ _ rfl) rfl ?_
        refine v_goto (hz_X12_arrivals hT _ _ rfl) ?_
        refine v_bin (w := (n + 1)) (hz_X12_arrivals hT _ _ rfl) (hq_add (by omega) (by omega)) ?_
        refine v_store1 [some (2, 121), some (0, k), some (0, sd), some (0, mn), some (0, (n + 1)), some (0, i), o2] (hz_X12_arrivals hT _ _ rfl) ⟨rfl, Nat.ne_of_beq_eq_false rfl⟩ (Nat.le_of_ble_eq_true rfl) rfl ?_
        refine v_push (0) (hz_X12_arrivals hT _ _ rfl) rfl ?_
        refine v_store1 [some (2, 121), some (0, k), some (0, sd), some (0, mn), some (0, (n + 1)), some (0, i), some (0, 0)] (hz_X12_arrivals hT _ _ rfl) ⟨rfl, Nat.ne_of_beq_eq_false rfl⟩ (Nat.le_of_ble_eq_true rfl) rfl ?_
        exact k0 hc1 g2 u2 ha3 hb4 ha5 hb6 hc7
      · have hc7 : (g2 126 ((245 + k)).toNat).2 ≠ (g2 126 ((251 + k)).toNat).2 := hc7
        refine v_push (0) (hz_X12_arrivals hT _ _ rfl) rfl ?_
        refine v_bin (w := (n + 0)) (hz_X12_arrivals hT _ _ rfl) (hq_add (by omega) (by omega)) ?_
        refine v_store1 [some (2, 121), some (0, k), some (0, sd), some (0, mn), some (0, (n + 0)), some (0, i), o2] (hz_X12_arrivals hT _ _ rfl) ⟨rfl, Nat.ne_of_beq_eq_false rfl⟩ (Nat.le_of_ble_eq_true rfl) rfl ?_
        refine v_push (0) (hz_X12_arrivals hT _ _ rfl) rfl ?_
        refine v_store1 [some (2, 121), some (0, k), some (0, sd), some (0, mn), some (0, (n + 0)), some (0, i), some (0, 0)] (hz_X12_arrivals hT _ _ rfl) ⟨rfl, Nat.ne_of_beq_eq_false rfl⟩ (Nat.le_of_ble_eq_true rfl) rfl ?_
        exact k1 hc1 g2 u2 ha3 hb4 ha5 hb6 hc7
  · have hc1 : mn ≤ i := Int.not_lt.mp hc1
    refine v_load (v := (2, 121)) (hz_X12_arrivals hT _ _ rfl) rfl rfl ?_
    refine v_load (v := (0, n)) (hz_X12_arrivals hT _ _ rfl) rfl rfl ?_
    refine v_i2l (hz_X12_arrivals hT _ _ rfl) ?_
    refine v_load (v := (0, mn)) (hz_X12_arrivals hT _ _ rfl) rfl rfl ?_
    refine v_i2l (hz_X12_arrivals hT _ _ rfl) ?_
    refine v_call (w := 11) [some (2, 121), some (1, n), none, some (1, mn), none, none, none, none, none, none, none] hO (hz_X12_arrivals hT _ _ rfl) rfl rfl (vFr_k (hFr _ n mn _) (fun g8 u8 => ?_))
    · show vP D T N 196 205 g8 [some (2, 121), some (0, k), some (0, sd), some (0, mn), some (0, n), some (0, i), o2] [(0, 1)] _
      refine vP_hv (fun hv8 => ?_)
      refine v_ret (hz_X12_arrivals hT _ _ rfl) (Or.inl rfl) ?_
      exact k2 hc1 g8 u8
theorem qr_arr162 {D : zD} {T : zT} (hT : hTab T) (hO : vOK T) {N : Nat} {h : zH} {Q : zR → Prop} (k sd mn n i x : Int) (hv0 : zHv h) (bi : 0 ≤ i ∧ i ≤ 20) (bx : 0 ≤ x ∧ x ≤ 275)
    (k0 : (x < 275) → (0 ≤ x) → (x < 2750) → vP D T N 196 162 (zset h 126 x.toNat (0, (h 127 x.toNat).2)) [some (2, 121), some (0, k), some (0, sd), some (0, mn), some (0, n), some (0, i), some (0, (x + 1))] [] Q)
    (k1 : (275 ≤ x) → vP D T N 196 112 h [some (2, 121), some (0, k), some (0, sd), some (0, mn), some (0, n), some (0, (i + 1)), some (0, x)] [] Q) :
    vP D T (N + 1) 196 162 h [some (2, 121), some (0, k), some (0, sd), some (0, mn), some (0, n), some (0, i), some (0, x)] [] Q := by
  refine v_loadS (v := (0, x)) (hz_X12_arrivals hT _ _ rfl) rfl rfl ?_
  refine v_push (275) (hz_X12_arrivals hT _ _ rfl) rfl ?_
  refine v_ic (hz_X12_arrivals hT _ _ rfl) (fun hc1 => ?_) (fun hc1 => ?_)
  · have hc1 : x < 275 := hc1
    refine v_load (v := (2, 121)) (hz_X12_arrivals hT _ _ rfl) rfl rfl ?_
    refine v_getR (c := 126) (r := 121) (hz_X12_arrivals hT _ _ rfl) rfl rfl rfl ?_
    refine v_load (v := (0, x)) (hz_X12_arrivals hT _ _ rfl) rfl rfl ?_
    refine v_load (v := (2, 121)) (hz_X12_arrivals hT _ _ rfl) rfl rfl ?_
    refine v_getR (c := 127) (r := 121) (hz_X12_arrivals hT _ _ rfl) rfl rfl rfl ?_
    refine v_load (v := (0, x)) (hz_X12_arrivals hT _ _ rfl) rfl rfl ?_
    refine v_ald (t := 0) (r := 127) (hz_X12_arrivals hT _ _ rfl) rfl rfl rfl (fun ha2 hb3 => ?_)
    refine v_ast (r := 126) (hz_X12_arrivals hT _ _ rfl) rfl rfl (fun ha4 hb5 hf6 => ?_)
    refine v_iinc (x := x) (u := 1) (w := (x + 1)) [some (2, 121), some (0, k), some (0, sd), some (0, mn), some (0, n), some (0, i), some (0, (x + 1))] (hz_X12_arrivals hT _ _ rfl) rfl rfl (Nat.le_of_ble_eq_true rfl) (vz_inc (by omega) (by omega)) rfl ?_
    refine v_goto (hz_X12_arrivals hT _ _ rfl) ?_
    exact k0 hc1 ha2 hb5
  · have hc1 : 275 ≤ x := Int.not_lt.mp hc1
    refine v_iinc (x := i) (u := 1) (w := (i + 1)) [some (2, 121), some (0, k), some (0, sd), some (0, mn), some (0, n), some (0, (i + 1)), some (0, x)] (hz_X12_arrivals hT _ _ rfl) rfl rfl (Nat.le_of_ble_eq_true rfl) (vz_inc (by omega) (by omega)) rfl ?_
    refine v_goto (hz_X12_arrivals hT _ _ rfl) ?_
    exact k1 hc1
theorem rx_frac {D : zD} {T : zT} (hT : hTab T) (hO : vOK T) {N : Nat} {h : zH} (t b : Int) : vP D T N 230 0 h [some (2, 121), some (1, t), none, some (1, b), none, none, none, none, none, none, none] [] (fun r => r.2 = some (0, 1) ∧ ∀ j, r.1 126 j = h 126 j) := by
  refine vP_hv (fun hv => qr_frac0 hT hO t b hv ?_)
  refine vP_loop (fun h' l => ∃ (x y : Int) (o1 o2 : Option zV), l = [some (2, 121), some (1, t), none, some (1, b), none, some (1, x), none, some (1, y), none, o1, o2] ∧ h' = h) ?_ N _ _ ⟨_, _, _, _, rfl, rfl⟩
  rintro N h' l ⟨x, y, o1, o2, rfl, rfl⟩ ih
  refine vP_hv (fun hv => qr_frac9 hT hO t b x y o1 o2 hv ?_ ?_)
  · intro _ _ _
    exact ⟨rfl, fun j => by dsimp only; rw [zset_ne (by omega), zset_ne (by omega)]⟩
  · intro _ _
    exact ih _ _ ⟨_, _, _, _, rfl, rfl⟩
def rArC (k sd mn : Int) (h : zH) : Prop := 0 ≤ k ∧ k ≤ (h 126 3).2 - 1 ∧ 1 ≤ mn ∧ mn ≤ 20 ∧ 0 ≤ sd ∧ sd ≤ 10000 - mn ∧ (h 126 275).2 ≠ 0
def rAr (k sd mn : Int) (h : zH) (x : zR) : Prop := (¬ rArC k sd mn h ∧ x.2 = some (0, 0) ∧ ∀ j, x.1 126 j = h 126 j) ∨ (rArC k sd mn h ∧ x.2 = some (0, 1) ∧ ∀ j, j < 275 → x.1 126 j = h 126 j)
theorem rx_arr_loop {D : zD} {T : zT} (hT : hTab T) (hO : vOK T) {h : zH} {k sd mn : Int} (hRn : ∀ (N : Nat) (s : Int) (g : zH), oH 127 121 21 g → vP D T N 308 0 g [some (2, 121), some (0, s)] [] (fun r => r.2 = none ∧ (∀ j, r.1 127 j = g 127 j) ∧ oH 127 121 21 r.1)) (hv0 : zHv h) (hC : rArC k sd mn h) (b3 : (h 126 3).2 ≤ 6) : ∀ N, (∀ h' n i o, (0 ≤ n ∧ n ≤ i) → i ≤ mn → oH 127 121 21 h' → (∀ j, j < 275 → h' 127 j = h 126 j) → (∀ j, j < 275 → h' 126 j = h 126 j) → vP D T N 196 112 h' [some (2, 121), some (0, k), some (0, sd), some (0, mn), some (0, n), some (0, i), o] [] (rAr k sd mn h)) ∧ (∀ h' n i (x : Nat), (0 ≤ n ∧ n ≤ i + 1) → 0 ≤ i → i < mn → x ≤ 275 → oH 127 121 21 h' → (∀ j, j < 275 → h' 127 j = h 126 j) → (∀ j, j < x → h' 126 j = h 126 j) → vP D T N 196 162 h' [some (2, 121), some (0, k), some (0, sd), some (0, mn), some (0, n), some (0, i), some (0, (x : Int))] [] (rAr k sd mn h)) := by
  have hC' := hC
  obtain ⟨c1, c2, c3, c4, c5, c6, c7⟩ := hC'
  intro N
  induction N with
  | zero => exact ⟨fun _ _ _ _ _ _ _ _ _ _ n _ hn => absurd hn (Nat.not_lt_zero _), fun _ _ _ _ _ _ _ _ _ _ _ _ n _ hn => absurd hn (Nat.not_lt_zero _)⟩
  | succ N ih =>
    have B : ∀ h' n i (x : Nat), (0 ≤ n ∧ n ≤ i + 1) → 0 ≤ i → i < mn → x ≤ 275 → oH 127 121 21 h' → (∀ j, j < 275 → h' 127 j = h 126 j) → (∀ j, j < x → h' 126 j = h 126 j) → vP D T (N + 1) 196 162 h' [some (2, 121), some (0, k), some (0, sd), some (0, mn), some (0, n), some (0, i), some (0, (x : Int))] [] (rAr k sd mn h) := by
      intro h' n i x hn hi him hx hU hk h1
      refine vP_hv (fun hv => qr_arr162 hT hO k sd mn n i x hv ⟨hi, by omega⟩ ⟨by omega, by omega⟩ ?_ ?_)
      · intro q1 q2 q3
        refine ih.2 _ n i (x + 1) hn hi him (by omega) hU.seti (fun j hj => by rw [zset_ne (by omega)]; exact hk j hj) (fun j hj => ?_)
        by_cases e : j = x
        · subst e
          rw [Int.toNat_natCast, zset_same, hk j (by omega)]
          exact (hv126 hv0 (by omega)).symm
        · rw [Int.toNat_natCast, zset_ne (fun c => e c.2)]
          exact h1 j (by omega)
      · intro q1
        exact ih.1 _ n (i + 1) _ (by omega) (by omega) hU hk (fun j hj => h1 j (by omega))
    refine ⟨?_, B⟩
    intro h' n i o hn him hU hk h1
    refine vP_hv (fun hv => qr_arr112 hT hO k sd mn n i o hv ⟨by omega, by omega⟩ ⟨by omega, by omega⟩ ⟨by omega, by omega⟩ ⟨by omega, by omega⟩ hU hRn (fun N t b g => rx_frac hT hO t b) ?_ ?_ ?_)
    · intro q1 g u _ _ _ _ _
      exact B g (n + 1) i 0 (by omega) (by omega) q1 (by omega) u.2 (fun j hj => (u.1 j).trans (hk j hj)) (fun j hj => absurd hj (Nat.not_lt_zero _))
    · intro q1 g u _ _ _ _ _
      exact B g (n + 0) i 0 (by omega) (by omega) q1 (by omega) u.2 (fun j hj => (u.1 j).trans (hk j hj)) (fun j hj => absurd hj (Nat.not_lt_zero _))
    · intro q1 g u
      exact Or.inr ⟨hC, rfl, fun j hj => (u j).trans (h1 j hj)⟩
theorem rx_arr {D : zD} {T : zT} (hT : hTab T) (hO : vOK T) {N : Nat} {h : zH} {k sd mn : Int} (hRn : ∀ (N : Nat) (s : Int) (g : zH), oH 127 121 21 g → vP D T N 308 0 g [some (2, 121), some (0, s)] [] (fun r => r.2 = none ∧ (∀ j, r.1 127 j = g 127 j) ∧ oH 127 121 21 r.1)) (hv0 : zHv h) (hU : oH 127 121 21 h) (b3 : 0 ≤ (h 126 3).2 ∧ (h 126 3).2 ≤ 6) : vP D T N 196 0 h [some (2, 121), some (0, k), some (0, sd), some (0, mn), none, none, none] [] (rAr k sd mn h) := by
  have z3 : ∀ v, ∀ j, zset (zset (zset h 121 1 (0, 0)) 121 0 (0, 0)) 121 0 v 126 j = h 126 j := fun v j => (zset_ne (by omega)).trans ((zset_ne (by omega)).trans (zset_ne (by omega)))
  refine qr_arr0 hT hO k sd mn hv0 b3 ?_ ?_ ?_ ?_ ?_ ?_ ?_ ?_
  · intro c1
    exact Or.inl ⟨fun ⟨a1, a2, a3, a4, a5, a6, a7⟩ => by omega, rfl, z3 (0, 2)⟩
  · intro c1 c2
    exact Or.inl ⟨fun ⟨a1, a2, a3, a4, a5, a6, a7⟩ => by omega, rfl, z3 (0, 2)⟩
  · intro c1 c2 c3
    exact Or.inl ⟨fun ⟨a1, a2, a3, a4, a5, a6, a7⟩ => by omega, rfl, z3 (0, 5)⟩
  · intro c1 c2 c3 c4
    exact Or.inl ⟨fun ⟨a1, a2, a3, a4, a5, a6, a7⟩ => by omega, rfl, z3 (0, 5)⟩
  · intro c1 c2 c3 c4 c5
    exact Or.inl ⟨fun ⟨a1, a2, a3, a4, a5, a6, a7⟩ => by omega, rfl, z3 (0, 5)⟩
  · intro c1 c2 c3 c4 c5 c6
    exact Or.inl ⟨fun ⟨a1, a2, a3, a4, a5, a6, a7⟩ => by omega, rfl, z3 (0, 5)⟩
  · intro c1 c2 c3 c4 c5 c6 c7
    exact Or.inl ⟨fun ⟨a1, a2, a3, a4, a5, a6, a7⟩ => a7 c7, rfl, z3 (0, 8)⟩
  · intro c1 c2 c3 c4 c5 c6 c7
    have hC : rArC k sd mn h := ⟨c1, c2, c3, c4, c5, c6, c7⟩
    have e0 : ∀ j, zset (zset h 121 1 (0, 0)) 121 0 (0, 0) 126 j = h 126 j := fun j => (zset_ne (by omega)).trans (zset_ne (by omega))
    have u0 : oH 127 121 21 (zset (zset h 121 1 (0, 0)) 121 0 (0, 0)) := hU.seti.seti
    refine vP_loop (fun h' l => ∃ (x : Nat) (o1 o2 : Option zV), l = [some (2, 121), some (0, k), some (0, sd), some (0, mn), some (0, (x : Int)), o1, o2] ∧ x ≤ 275 ∧ oH 127 121 21 h' ∧ (∀ j, j < x → h' 127 j = h 126 j) ∧ ∀ j, h' 126 j = h 126 j) ?_ N _ _ ⟨0, none, none, rfl, by decide, u0, fun j hj => absurd hj (Nat.not_lt_zero _), e0⟩
    rintro N h' l ⟨x, o1, o2, rfl, hx, hu, h1, h2⟩ ih
    refine vP_hv (fun hv => qr_arr78 hT hO k sd mn x o1 o2 hv ⟨by omega, by omega⟩ ?_ ?_)
    · intro q1 q2 q3
      refine ih _ _ ⟨x + 1, o1, o2, rfl, by omega, hu.seti, fun j hj => ?_, fun j => (zset_ne (by omega)).trans (h2 j)⟩
      by_cases e : j = x
      · subst e
        rw [Int.toNat_natCast, zset_same, h2 j]
        exact (hv126 hv0 (by omega)).symm
      · rw [Int.toNat_natCast, zset_ne (fun c => e c.2)]
        exact h1 j (by omega)
    · intro q1
      exact (rx_arr_loop hT hO hRn hv0 hC b3.2 _).1 h' 0 0 o2 ⟨by decide, by decide⟩ (by omega) hu (fun j hj => h1 j (by omega)) (fun j _ => h2 j)
/-! the machine's code never takes the cell `kept` outside arrivals() -/
noncomputable def gC (S : List (Nat × Nat)) (ci k0 : Nat) : Bool := S.all fun q => match x_nth zMT q.1 with
  | some t => t.all fun l => l.all fun o => match o with
    | some i => guI ci k0 i
    | none => true
  | none => false
theorem guOK_of {S : List (Nat × Nat)} {ci k : Nat} (h : gC S ci k = true) : guOK (inS S) ci k TLw := by
  intro mi pc i hS hi
  obtain ⟨q, hq, hb⟩ := List.any_eq_true.mp hS
  rw [Bool.and_eq_true] at hb
  have e1 : q.1 = mi := eq_of_beq hb.1
  have hc := List.all_eq_true.mp h q hq
  have hc : (match x_nth zMT q.1 with
    | some t => t.all fun l => l.all fun o => match o with
      | some i => guI ci k i
      | none => true
    | none => false) = true := hc
  have hne : mi ≠ 341 := fun e => by
    rw [e1, e, show x_nth zMT 341 = none from rfl] at hc
    cases hc
  unfold TLw at hi
  rw [if_neg hne] at hi
  have hi : (match x_nth zMT mi with
    | some t => z_at t pc
    | none => none) = some i := hi
  rw [e1] at hc
  cases ht : x_nth zMT mi with
  | none => rw [ht] at hi; cases hi
  | some t =>
    rw [ht] at hi hc
    have hc : (t.all fun l => l.all fun o => match o with
      | some i => guI ci k i
      | none => true) = true := hc
    have hi : z_at t pc = some i := hi
    unfold z_at at hi
    rw [x_nth_eq] at hi
    cases hl : t[Nat.div pc 16]? with
    | none => rw [hl] at hi; cases hi
    | some l =>
      rw [hl] at hi
      have hi : (match x_nth l (Nat.mod pc 16) with
        | some r => r
        | none => none) = some i := hi
      rw [x_nth_eq] at hi
      cases ho : l[Nat.mod pc 16]? with
      | none => rw [ho] at hi; cases hi
      | some o =>
        rw [ho] at hi
        have hi : o = some i := hi
        have h1 := List.all_eq_true.mp (List.all_eq_true.mp hc l (List.mem_of_getElem? hl)) o (List.mem_of_getElem? ho)
        rw [hi] at h1
        exact h1
def sRuns : List (Nat × Nat) := [(197, 0), (200, 0), (203, 0), (206, 0), (212, 0), (215, 0), (219, 0), (220, 0), (221, 0), (222, 0), (223, 0), (224, 0), (231, 0), (232, 0), (240, 0), (244, 0), (252, 0), (261, 0), (271, 0), (275, 0), (280, 0), (281, 0), (308, 0), (313, 0), (314, 0), (317, 0), (323, 0), (324, 0), (333, 0), (336, 0)]
theorem rn_fw : fwOK (inS sRuns) 99 0 TLw := fwOK_of (by decide +kernel)
theorem rn_gu : guOK (inS sRuns) 12 21 TLw := guOK_of (by decide +kernel)
theorem oLo_vL {u : Nat} {a b : zV} (h1 : oV u a) (h2 : oV u b) : oLo u (vL [some a, some b]) := fun i v h => by
  match i, h with
  | 0, h => cases h; exact h1
  | 1, h => cases h; exact h2
  | i + 2, h => cases h
theorem rx_runs {D : zD} (N : Nat) (s : Int) (g : zH) (hU : oH 127 121 21 g) : vP D TLw N 308 0 g [some (2, 121), some (0, s)] [] (fun r => r.2 = none ∧ (∀ j, r.1 127 j = g 127 j) ∧ oH 127 121 21 r.1) := by
  refine vP_Q (fun r hr => ⟨hr.1, hr.2.2, hr.2.1⟩) (vP_and (vP_rt (b := 0) zt_X12_runs rfl (by decide +kernel) (by decide)) (vP_un (u := 127) (k0 := 21) (r0 := 121) (w := 48) rfl vOK_T rn_fw rn_gu (by decide) hU (oLo_vL (fun e => absurd e.2 (by decide)) oV_0) oS_nil))
/-- which places name the cell -/
noncomputable def rOut (u : Int) (r0 k0 a b : Nat) : Bool := (match vCode a b with
  | some c => !(Nat.beq c 4)
  | none => true) || ((Nat.beq a r0 && Nat.beq b k0) || (match a_at aTy1 a with
  | some l => (match a_uniF (Int.ofNat b) (Int.ofNat b) l with
    | some t => Nat.beq t.1 2 && a_all (fun c => !(@decide (c = u) (a_decEqZ _ _))) t.2.2.2
    | none => false)
  | none => false))
theorem rOut_all : (a_allN (fun a => a_allN (fun b => rOut 127 121 21 a b) 0 64) 0 137) = true := by decide +kernel
theorem rOut_allc : (a_allN (fun a => a_allN (fun b => rOut 126 121 20 a b) 0 64) 0 137) = true := by decide +kernel
noncomputable def vLen (a : Nat) : Bool := match zShape[a]? with
  | some (.inl q) => !(Nat.beq (zcode q.1) 4) || Nat.ble q.2 64
  | some (.inr q) => (match vFt[q.1]? with
    | some l => Nat.ble l.length 64
    | none => true)
  | none => true
theorem vLen_all : a_allN vLen 0 137 = true := by decide +kernel
theorem vCode_lt {a b : Nat} (hc : vCode a b = some 4) : a < 137 ∧ b < 64 := by
  have hlen : zShape.length = 137 := rfl
  unfold vCode at hc
  cases hs : zShape[a]? with
  | none => rw [hs] at hc; cases hc
  | some s =>
    have ha : a < 137 := hlen ▸ (List.getElem?_eq_some_iff.mp hs).1
    refine ⟨ha, ?_⟩
    have hb := a_allN_ok vLen_all a ha
    rw [Nat.zero_add] at hb
    unfold vLen at hb
    rw [hs] at hb hc
    match s, hb, hc with
    | .inl q, hb, hc =>
      have hc : (if b < q.2 then some (zcode q.1) else none) = some 4 := hc
      have hb : (!(Nat.beq (zcode q.1) 4) || Nat.ble q.2 64) = true := hb
      by_cases hk : b < q.2
      · rw [if_pos hk] at hc
        have e : zcode q.1 = 4 := Option.some.inj hc
        rw [e] at hb
        have : q.2 ≤ 64 := Nat.le_of_ble_eq_true hb
        omega
      · rw [if_neg hk] at hc
        cases hc
    | .inr q, hb, hc =>
      have hc : (match vFt[q.1]? with
        | some l => l[b]?
        | none => none) = some 4 := hc
      have hb : (match vFt[q.1]? with
        | some l => Nat.ble l.length 64
        | none => true) = true := hb
      cases hf : vFt[q.1]? with
      | none => rw [hf] at hc; cases hc
      | some l =>
        rw [hf] at hb hc
        have h1 : b < l.length := (List.getElem?_eq_some_iff.mp hc).1
        have h2 : l.length ≤ 64 := Nat.le_of_ble_eq_true hb
        omega
theorem lI.out {D : zD} {qs : List aQ} {h : zH} (hZ : lI aG1 D Fl0 qs h) : oH 127 121 21 h := by
  intro a b hc hn
  obtain ⟨ha, hb⟩ := vCode_lt hc
  have h1 := a_allN_ok rOut_all a ha
  rw [Nat.zero_add] at h1
  have h2 := a_allN_ok h1 b hb
  rw [Nat.zero_add] at h2
  unfold rOut at h2
  rw [hc] at h2
  have h2 : ((Nat.beq a 121 && Nat.beq b 21) || (match a_at aTy1 a with
    | some l => (match a_uniF (Int.ofNat b) (Int.ofNat b) l with
      | some t => Nat.beq t.1 2 && a_all (fun c => !(@decide (c = 127) (a_decEqZ _ _))) t.2.2.2
      | none => false)
    | none => false)) = true := h2
  rw [Bool.or_eq_true, Bool.and_eq_true] at h2
  rcases h2 with e | e
  · exact absurd ⟨Nat.eq_of_beq_eq_true e.1, Nat.eq_of_beq_eq_true e.2⟩ hn
  · cases hl : a_at aTy1 a with
    | none => rw [hl] at e; cases e
    | some l =>
      rw [hl] at e
      have e : (match a_uniF (Int.ofNat b) (Int.ofNat b) l with
        | some t => Nat.beq t.1 2 && a_all (fun c => !(@decide (c = 127) (a_decEqZ _ _))) t.2.2.2
        | none => false) = true := e
      cases hu : a_uniF (Int.ofNat b) (Int.ofNat b) l with
      | none => rw [hu] at e; cases e
      | some t =>
        rw [hu] at e
        have e : (Nat.beq t.1 2 && a_all (fun c => !(@decide (c = 127) (a_decEqZ _ _))) t.2.2.2) = true := e
        rw [Bool.and_eq_true] at e
        have hat := a_uniF_ok (j := b) hu (hZ.ty a l hl) (Int.le_refl _) (Int.le_refl _)
        unfold atin at hat
        rw [Nat.eq_of_beq_eq_true e.1] at hat
        obtain ⟨c, hc', hv⟩ := (hat : ∃ c ∈ t.2.2.2, h a b = if c = -1 then (4, 0) else (2, c))
        have hne := a_all_ok e.2 c hc'
        rw [Bool.not_eq_true'] at hne
        have hne : c ≠ 127 := fun q => by
          rw [a_decT q] at hne
          cases hne
        rw [hv]
        split
        · exact oV_t (by decide)
        · exact fun q => hne (by have := q.2; omega)
theorem lI.outc {D : zD} {qs : List aQ} {h : zH} (hZ : lI aG1 D Fl0 qs h) : oH 126 121 20 h := by
  intro a b hc hn
  obtain ⟨ha, hb⟩ := vCode_lt hc
  have h1 := a_allN_ok rOut_allc a ha
  rw [Nat.zero_add] at h1
  have h2 := a_allN_ok h1 b hb
  rw [Nat.zero_add] at h2
  unfold rOut at h2
  rw [hc] at h2
  have h2 : ((Nat.beq a 121 && Nat.beq b 20) || (match a_at aTy1 a with
    | some l => (match a_uniF (Int.ofNat b) (Int.ofNat b) l with
      | some t => Nat.beq t.1 2 && a_all (fun c => !(@decide (c = 126) (a_decEqZ _ _))) t.2.2.2
      | none => false)
    | none => false)) = true := h2
  rw [Bool.or_eq_true, Bool.and_eq_true] at h2
  rcases h2 with e | e
  · exact absurd ⟨Nat.eq_of_beq_eq_true e.1, Nat.eq_of_beq_eq_true e.2⟩ hn
  · cases hl : a_at aTy1 a with
    | none => rw [hl] at e; cases e
    | some l =>
      rw [hl] at e
      have e : (match a_uniF (Int.ofNat b) (Int.ofNat b) l with
        | some t => Nat.beq t.1 2 && a_all (fun c => !(@decide (c = 126) (a_decEqZ _ _))) t.2.2.2
        | none => false) = true := e
      cases hu : a_uniF (Int.ofNat b) (Int.ofNat b) l with
      | none => rw [hu] at e; cases e
      | some t =>
        rw [hu] at e
        have e : (Nat.beq t.1 2 && a_all (fun c => !(@decide (c = 126) (a_decEqZ _ _))) t.2.2.2) = true := e
        rw [Bool.and_eq_true] at e
        have hat := a_uniF_ok (j := b) hu (hZ.ty a l hl) (Int.le_refl _) (Int.le_refl _)
        unfold atin at hat
        rw [Nat.eq_of_beq_eq_true e.1] at hat
        obtain ⟨c, hc', hv⟩ := (hat : ∃ c ∈ t.2.2.2, h a b = if c = -1 then (4, 0) else (2, c))
        have hne := a_all_ok e.2 c hc'
        rw [Bool.not_eq_true'] at hne
        have hne : c ≠ 126 := fun q => by
          rw [a_decT q] at hne
          cases hne
        rw [hv]
        split
        · exact oV_t (by decide)
        · exact fun q => hne (by have := q.2; omega)
