theorem qt_many0_39 {D : zD} {T : zT} (hT : hTab T) (hO : vOK T) {N : Nat} {h : zH} {Q : zR → Prop} {P : PT} (x : Int) (hv0 : zHv h) (e7 : h 0 7 = (2, 39)) (p0 : h 39 0 = (0, P 0 0)) (p1 : h 39 1 = (0, P 0 1)) (p2 : h 39 2 = (0, P 0 2)) (p3 : h 39 3 = (0, P 0 3)) (p4 : h 39 4 = (0, P 0 4))
    (k0 : (x = 0) → Q (zset h 0 0 (0, 0), some (0, (P 0 0))))
    (k1 : (x ≠ 0) → (x = 1) → Q (zset h 0 0 (0, 0), some (0, (P 0 1))))
    (k2 : (x ≠ 0) → (x ≠ 1) → (x = 2) → Q (zset h 0 0 (0, 0), some (0, (P 0 2))))
    (k3 : (x ≠ 0) → (x ≠ 1) → (x ≠ 2) → (x = 3) → Q (zset h 0 0 (0, 0), some (0, (P 0 3))))
    (k4 : (x ≠ 0) → (x ≠ 1) → (x ≠ 2) → (x ≠ 3) → (x = 4) → Q (zset h 0 0 (0, 0), some (0, (P 0 4))))
    (k5 : (x ≠ 0) → (x ≠ 1) → (x ≠ 2) → (x ≠ 3) → (x ≠ 4) → (x = 5) → vP D T N 32 0 h [some (2, 39), none, none, none] [] (fun r1 => vP D T N 163 108 r1.1 [some (2, 0), some (0, x)] (zpush r1.2 [(2, 0)]) Q))
    (k6 : (x ≠ 0) → (x ≠ 1) → (x ≠ 2) → (x ≠ 3) → (x ≠ 4) → (x ≠ 5) → Q (zset h 0 0 (0, 5), some (0, -1))) :
    vP D T N 163 0 h [some (2, 0), some (0, x)] [] Q := by
  refine v_load (v := (0, x)) (hz_X11_many hT _ _ rfl) rfl rfl ?_
  refine v_sw (hz_X11_many hT _ _ rfl) ?_
  refine ⟨fun hc1 => ?_, fun hc1 => ?_⟩
  · have hc1 : x = 0 := hc1
    refine v_load (v := (2, 0)) (hz_X11_many hT _ _ rfl) rfl rfl ?_
    refine v_load (v := (2, 0)) (hz_X11_many hT _ _ rfl) rfl rfl ?_
    refine v_getf (v := (2, 39)) (r := 0) (hz_X11_many hT _ _ rfl) rfl rfl (fun _ => e7) ?_
    refine v_getf (v := (0, (P 0 0))) (r := 39) (hz_X11_many hT _ _ rfl) rfl rfl (fun _ => p0) ?_
    refine v_call (w := 2) [some (2, 0), some (0, (P 0 0))] hO (hz_X11_many hT _ _ rfl) rfl rfl ?_
    refine v_load (v := (2, 0)) (hi_X11_answer_0 hT) rfl rfl ?_
    refine v_push (0) (hi_X11_answer_1 hT) rfl ?_
    refine v_putf (r := 0) hO (hi_X11_answer_2 hT) rfl (fun hf2 => ?_)
    refine v_load (v := (0, (P 0 0))) (hi_X11_answer_5 hT) rfl rfl ?_
    refine v_ret (hi_X11_answer_6 hT) (Or.inl rfl) ?_
    show vP D T N 163 51 (zset h 0 0 (0, 0)) [some (2, 0), some (0, x)] [(0, (P 0 0))] _
    refine v_ret (hz_X11_many hT _ _ rfl) (Or.inl rfl) ?_
    exact k0 hc1
  refine ⟨fun hc3 => ?_, fun hc3 => ?_⟩
  · have hc3 : x = 1 := hc3
    refine v_load (v := (2, 0)) (hz_X11_many hT _ _ rfl) rfl rfl ?_
    refine v_load (v := (2, 0)) (hz_X11_many hT _ _ rfl) rfl rfl ?_
    refine v_getf (v := (2, 39)) (r := 0) (hz_X11_many hT _ _ rfl) rfl rfl (fun _ => e7) ?_
    refine v_getf (v := (0, (P 0 1))) (r := 39) (hz_X11_many hT _ _ rfl) rfl rfl (fun _ => p1) ?_
    refine v_call (w := 2) [some (2, 0), some (0, (P 0 1))] hO (hz_X11_many hT _ _ rfl) rfl rfl ?_
    refine v_load (v := (2, 0)) (hi_X11_answer_0 hT) rfl rfl ?_
    refine v_push (0) (hi_X11_answer_1 hT) rfl ?_
    refine v_putf (r := 0) hO (hi_X11_answer_2 hT) rfl (fun hf4 => ?_)
    refine v_load (v := (0, (P 0 1))) (hi_X11_answer_5 hT) rfl rfl ?_
    refine v_ret (hi_X11_answer_6 hT) (Or.inl rfl) ?_
    show vP D T N 163 63 (zset h 0 0 (0, 0)) [some (2, 0), some (0, x)] [(0, (P 0 1))] _
    refine v_ret (hz_X11_many hT _ _ rfl) (Or.inl rfl) ?_
    exact k1 hc1 hc3
  refine ⟨fun hc5 => ?_, fun hc5 => ?_⟩
  · have hc5 : x = 2 := hc5
    refine v_load (v := (2, 0)) (hz_X11_many hT _ _ rfl) rfl rfl ?_
    refine v_load (v := (2, 0)) (hz_X11_many hT _ _ rfl) rfl rfl ?_
    refine v_getf (v := (2, 39)) (r := 0) (hz_X11_many hT _ _ rfl) rfl rfl (fun _ => e7) ?_
    refine v_getf (v := (0, (P 0 2))) (r := 39) (hz_X11_many hT _ _ rfl) rfl rfl (fun _ => p2) ?_
    refine v_call (w := 2) [some (2, 0), some (0, (P 0 2))] hO (hz_X11_many hT _ _ rfl) rfl rfl ?_
    refine v_load (v := (2, 0)) (hi_X11_answer_0 hT) rfl rfl ?_
    refine v_push (0) (hi_X11_answer_1 hT) rfl ?_
    refine v_putf (r := 0) hO (hi_X11_answer_2 hT) rfl (fun hf6 => ?_)
    refine v_load (v := (0, (P 0 2))) (hi_X11_answer_5 hT) rfl rfl ?_
    refine v_ret (hi_X11_answer_6 hT) (Or.inl rfl) ?_
    show vP D T N 163 75 (zset h 0 0 (0, 0)) [some (2, 0), some (0, x)] [(0, (P 0 2))] _
    refine v_ret (hz_X11_many hT _ _ rfl) (Or.inl rfl) ?_
    exact k2 hc1 hc3 hc5
  refine ⟨fun hc7 => ?_, fun hc7 => ?_⟩
  · have hc7 : x = 3 := hc7
    refine v_load (v := (2, 0)) (hz_X11_many hT _ _ rfl) rfl rfl ?_
    refine v_load (v := (2, 0)) (hz_X11_many hT _ _ rfl) rfl rfl ?_
    refine v_getf (v := (2, 39)) (r := 0) (hz_X11_many hT _ _ rfl) rfl rfl (fun _ => e7) ?_
    refine v_getf (v := (0, (P 0 3))) (r := 39) (hz_X11_many hT _ _ rfl) rfl rfl (fun _ => p3) ?_
    refine v_call (w := 2) [some (2, 0), some (0, (P 0 3))] hO (hz_X11_many hT _ _ rfl) rfl rfl ?_
    refine v_load (v := (2, 0)) (hi_X11_answer_0 hT) rfl rfl ?_
    refine v_push (0) (hi_X11_answer_1 hT) rfl ?_
    refine v_putf (r := 0) hO (hi_X11_answer_2 hT) rfl (fun hf8 => ?_)
    refine v_load (v := (0, (P 0 3))) (hi_X11_answer_5 hT) rfl rfl ?_
    refine v_ret (hi_X11_answer_6 hT) (Or.inl rfl) ?_
    show vP D T N 163 87 (zset h 0 0 (0, 0)) [some (2, 0), some (0, x)] [(0, (P 0 3))] _
    refine v_ret (hz_X11_many hT _ _ rfl) (Or.inl rfl) ?_
    exact k3 hc1 hc3 hc5 hc7
  refine ⟨fun hc9 => ?_, fun hc9 => ?_⟩
  · have hc9 : x = 4 := hc9
    refine v_load (v := (2, 0)) (hz_X11_many hT _ _ rfl) rfl rfl ?_
    refine v_load (v := (2, 0)) (hz_X11_many hT _ _ rfl) rfl rfl ?_
    refine v_getf (v := (2, 39)) (r := 0) (hz_X11_many hT _ _ rfl) rfl rfl (fun _ => e7) ?_
    refine v_getf (v := (0, (P 0 4))) (r := 39) (hz_X11_many hT _ _ rfl) rfl rfl (fun _ => p4) ?_
    refine v_call (w := 2) [some (2, 0), some (0, (P 0 4))] hO (hz_X11_many hT _ _ rfl) rfl rfl ?_
    refine v_load (v := (2, 0)) (hi_X11_answer_0 hT) rfl rfl ?_
    refine v_push (0) (hi_X11_answer_1 hT) rfl ?_
    refine v_putf (r := 0) hO (hi_X11_answer_2 hT) rfl (fun hf10 => ?_)
    refine v_load (v := (0, (P 0 4))) (hi_X11_answer_5 hT) rfl rfl ?_
    refine v_ret (hi_X11_answer_6 hT) (Or.inl rfl) ?_
    show vP D T N 163 99 (zset h 0 0 (0, 0)) [some (2, 0), some (0, x)] [(0, (P 0 4))] _
    refine v_ret (hz_X11_many hT _ _ rfl) (Or.inl rfl) ?_
    exact k4 hc1 hc3 hc5 hc7 hc9
  refine ⟨fun hc11 => ?_, fun hc11 => ?_⟩
  · have hc11 : x = 5 := hc11
    refine v_load (v := (2, 0)) (hz_X11_many hT _ _ rfl) rfl rfl ?_
    refine v_load (v := (2, 0)) (hz_X11_many hT _ _ rfl) rfl rfl ?_
    refine v_getf (v := (2, 39)) (r := 0) (hz_X11_many hT _ _ rfl) rfl rfl (fun _ => e7) ?_
    refine v_call (w := 4) [some (2, 39), none, none, none] hO (hz_X11_many hT _ _ rfl) rfl rfl ?_
    exact k5 hc1 hc3 hc5 hc7 hc9 hc11
  show vP _ _ _ _ _ _ _ _ _
  refine v_load (v := (2, 0)) (hz_X11_many hT _ _ rfl) rfl rfl ?_
  refine v_push (5) (hz_X11_many hT _ _ rfl) rfl ?_
  refine v_call (w := 2) [some (2, 0), some (0, 5)] hO (hz_X11_many hT _ _ rfl) rfl rfl ?_
  refine v_load (v := (2, 0)) (hi_X11_refused_0 hT) rfl rfl ?_
  refine v_load (v := (0, 5)) (hi_X11_refused_1 hT) rfl rfl ?_
  refine v_putf (r := 0) hO (hi_X11_refused_2 hT) rfl (fun hf12 => ?_)
  refine v_push (-1) (hi_X11_refused_5 hT) rfl ?_
  refine v_ret (hi_X11_refused_6 hT) (Or.inl rfl) ?_
  show vP D T N 163 117 (zset h 0 0 (0, 5)) [some (2, 0), some (0, x)] [(0, -1)] _
  refine v_ret (hz_X11_many hT _ _ rfl) (Or.inl rfl) ?_
  exact k6 hc1 hc3 hc5 hc7 hc9 hc11
theorem qk_cl0_39 {D : zD} {T : zT} (hT : hTab T) (hO : vOK T) {N : Nat} {h : zH} {Q : zR → Prop}  (hv0 : zHv h)
    (k0 : vP D T N 32 4 h [some (2, 39), some (0, 0), some (0, 0), none] [] Q) :
    vP D T N 32 0 h [some (2, 39), none, none, none] [] Q := by
  refine v_push (0) (hz_X2_crumbsLeft hT _ _ rfl) rfl ?_
  refine v_store1 [some (2, 39), some (0, 0), none, none] (hz_X2_crumbsLeft hT _ _ rfl) ⟨rfl, Nat.ne_of_beq_eq_false rfl⟩ (Nat.le_of_ble_eq_true rfl) rfl ?_
  refine v_push (0) (hz_X2_crumbsLeft hT _ _ rfl) rfl ?_
  refine v_store1 [some (2, 39), some (0, 0), some (0, 0), none] (hz_X2_crumbsLeft hT _ _ rfl) ⟨rfl, Nat.ne_of_beq_eq_false rfl⟩ (Nat.le_of_ble_eq_true rfl) rfl ?_
  exact k0 
theorem qk_cl4_39 {D : zD} {T : zT} (hT : hTab T) (hO : vOK T) {N : Nat} {h : zH} {Q : zR → Prop} {P : PT} {j : Nat} (w : Int) (o : Option zV) (hv0 : zHv h) (c2 : h 39 2 = (0, P 0 2))
    (k0 : ((j : Int) < (P 0 2)) → vP D T N 32 14 h [some (2, 39), some (0, w), some (0, (j : Int)), some (0, 0)] [] Q)
    (k1 : ((P 0 2) ≤ (j : Int)) → Q (h, some (0, w))) :
    vP D T N 32 4 h [some (2, 39), some (0, w), some (0, (j : Int)), o] [] Q := by
  refine v_load (v := (0, (j : Int))) (hz_X2_crumbsLeft hT _ _ rfl) rfl rfl ?_
  refine v_load (v := (2, 39)) (hz_X2_crumbsLeft hT _ _ rfl) rfl rfl ?_
  refine v_getf (v := (0, (P 0 2))) (r := 39) (hz_X2_crumbsLeft hT _ _ rfl) rfl rfl (fun _ => c2) ?_
  refine v_ic (hz_X2_crumbsLeft hT _ _ rfl) (fun hc1 => ?_) (fun hc1 => ?_)
  · have hc1 : (j : Int) < (P 0 2) := hc1
    refine v_push (0) (hz_X2_crumbsLeft hT _ _ rfl) rfl ?_
    refine v_store1 [some (2, 39), some (0, w), some (0, (j : Int)), some (0, 0)] (hz_X2_crumbsLeft hT _ _ rfl) ⟨rfl, Nat.ne_of_beq_eq_false rfl⟩ (Nat.le_of_ble_eq_true rfl) rfl ?_
    exact k0 hc1
  · have hc1 : (P 0 2) ≤ (j : Int) := Int.not_lt.mp hc1
    refine v_load (v := (0, w)) (hz_X2_crumbsLeft hT _ _ rfl) rfl rfl ?_
    refine v_ret (hz_X2_crumbsLeft hT _ _ rfl) (Or.inl rfl) ?_
    exact k1 hc1
theorem qk_cl14_39 {D : zD} {T : zT} (hT : hTab T) (hO : vOK T) {N : Nat} {h : zH} {Q : zR → Prop} {P : PT} {j q : Nat} (w : Int) (hv0 : zHv h) (hP : cP 39 P h) (hb : fB P) (hj : j < 3) (hq : (q : Int) < 48) (bw : 0 ≤ w ∧ w ≤ 100000) (hc : 1 ≤ gCr P q ∧ gCr P q ≤ 14)
    (k0 : (gIn P q) → ((P 3 (48 * j + q)) = 1) → vP D T N 32 14 h [some (2, 39), some (0, w), some (0, (j : Int)), some (0, ((q : Int) + 1))] [] Q)
    (k1 : (gIn P q) → ((P 3 (48 * j + q)) ≠ 1) → vP D T N 32 14 h [some (2, 39), some (0, (w + (gCr P q))), some (0, (j : Int)), some (0, ((q : Int) + 1))] [] Q)
    (k2 : (¬ gIn P q) → vP D T N 32 14 h [some (2, 39), some (0, w), some (0, (j : Int)), some (0, ((q : Int) + 1))] [] Q) :
    vP D T (N + 1) 32 14 h [some (2, 39), some (0, w), some (0, (j : Int)), some (0, (q : Int))] [] Q := by
  refine v_loadS (v := (0, (q : Int))) (hi_X2_crumbsLeft_14 hT) rfl rfl ?_
  refine v_push (48) (hi_X2_crumbsLeft_15 hT) rfl ?_
  refine v_ic (hi_X2_crumbsLeft_17 hT) (fun _ => ?_) (fun hc1 => absurd (show (q : Int) < 48 from hq) hc1)
  refine v_load (v := (2, 39)) (hz_X2_crumbsLeft hT _ _ rfl) rfl rfl ?_
  refine v_load (v := (0, (q : Int))) (hz_X2_crumbsLeft hT _ _ rfl) rfl rfl ?_
  refine v_call (w := 2) [some (2, 39), some (0, (q : Int))] hO (hz_X2_crumbsLeft hT _ _ rfl) rfl rfl (cb_isC_39 hT hO ((q : Int)) q rfl (by omega) hP.1.1 hP.1.2.1 hb.1 (fun hg2 => ?_) (fun hg2 => ?_))
  · show vP D T N 32 25 h [some (2, 39), some (0, w), some (0, (j : Int)), some (0, (q : Int))] [(0, 1)] _
    refine v_if (hi_X2_crumbsLeft_25 hT) (fun hc3 => absurd (show (1 : Int) = 0 from hc3) (by decide)) (fun _ => ?_)
    refine v_load (v := (2, 39)) (hz_X2_crumbsLeft hT _ _ rfl) rfl rfl ?_
    refine v_load (v := (0, (j : Int))) (hz_X2_crumbsLeft hT _ _ rfl) rfl rfl ?_
    refine v_load (v := (0, (q : Int))) (hz_X2_crumbsLeft hT _ _ rfl) rfl rfl ?_
    refine v_call (w := 3) [some (2, 39), some (0, (j : Int)), some (0, (q : Int))] hO (hz_X2_crumbsLeft hT _ _ rfl) rfl rfl (cb_st_39 hT hO ((j : Int)) ((q : Int)) j q rfl rfl (by omega) (by omega) hP.2.2.2.1 ?_)
    show vP D T N 32 34 h [some (2, 39), some (0, w), some (0, (j : Int)), some (0, (q : Int))] [(0, (P 3 (48 * j + q)))] _
    refine v_push (1) (hz_X2_crumbsLeft hT _ _ rfl) rfl ?_
    refine v_ic (hz_X2_crumbsLeft hT _ _ rfl) (fun hc4 => ?_) (fun hc4 => ?_)
    · have hc4 : (P 3 (48 * j + q)) = 1 := hc4
      refine v_iinc (x := (q : Int)) (u := 1) (w := ((q : Int) + 1)) [some (2, 39), some (0, w), some (0, (j : Int)), some (0, ((q : Int) + 1))] (hi_X2_crumbsLeft_46 hT) rfl rfl (Nat.le_of_ble_eq_true rfl) (vz_inc (by omega) (by omega)) rfl ?_
      refine v_goto (hi_X2_crumbsLeft_49 hT) ?_
      exact k0 hg2 hc4
    · have hc4 : (P 3 (48 * j + q)) ≠ 1 := hc4
      refine v_load (v := (0, w)) (hz_X2_crumbsLeft hT _ _ rfl) rfl rfl ?_
      refine v_load (v := (2, 39)) (hz_X2_crumbsLeft hT _ _ rfl) rfl rfl ?_
      refine v_load (v := (0, (q : Int))) (hz_X2_crumbsLeft hT _ _ rfl) rfl rfl ?_
      refine v_call (w := 2) [some (2, 39), some (0, (q : Int))] hO (hz_X2_crumbsLeft hT _ _ rfl) rfl rfl (cb_cr_39 hT hO ((q : Int)) q rfl (by omega) hb hP.2.1 hP.2.2.1 ?_)
      show vP D T N 32 44 h [some (2, 39), some (0, w), some (0, (j : Int)), some (0, (q : Int))] [(0, (gCr P q)), (0, w)] _
      refine v_bin (w := (w + (gCr P q))) (hz_X2_crumbsLeft hT _ _ rfl) (hq_add (by omega) (by omega)) ?_
      refine v_store1 [some (2, 39), some (0, (w + (gCr P q))), some (0, (j : Int)), some (0, (q : Int))] (hz_X2_crumbsLeft hT _ _ rfl) ⟨rfl, Nat.ne_of_beq_eq_false rfl⟩ (Nat.le_of_ble_eq_true rfl) rfl ?_
      refine v_iinc (x := (q : Int)) (u := 1) (w := ((q : Int) + 1)) [some (2, 39), some (0, (w + (gCr P q))), some (0, (j : Int)), some (0, ((q : Int) + 1))] (hi_X2_crumbsLeft_46 hT) rfl rfl (Nat.le_of_ble_eq_true rfl) (vz_inc (by omega) (by omega)) rfl ?_
      refine v_goto (hi_X2_crumbsLeft_49 hT) ?_
      exact k1 hg2 hc4
  · show vP D T N 32 25 h [some (2, 39), some (0, w), some (0, (j : Int)), some (0, (q : Int))] [(0, 0)] _
    refine v_if (hi_X2_crumbsLeft_25 hT) (fun _ => ?_) (fun hc5 => absurd (show (0 : Int) = 0 from (by decide)) hc5)
    refine v_iinc (x := (q : Int)) (u := 1) (w := ((q : Int) + 1)) [some (2, 39), some (0, w), some (0, (j : Int)), some (0, ((q : Int) + 1))] (hi_X2_crumbsLeft_46 hT) rfl rfl (Nat.le_of_ble_eq_true rfl) (vz_inc (by omega) (by omega)) rfl ?_
    refine v_goto (hi_X2_crumbsLeft_49 hT) ?_
    exact k2 hg2
theorem qk_cl14e_39 {D : zD} {T : zT} (hT : hTab T) (hO : vOK T) {N : Nat} {h : zH} {Q : zR → Prop} {j : Nat} (w : Int) (hv0 : zHv h) (hj : j < 3)
    (k0 : vP D T N 32 4 h [some (2, 39), some (0, w), some (0, ((j : Int) + 1)), some (0, 48)] [] Q) :
    vP D T (N + 1) 32 14 h [some (2, 39), some (0, w), some (0, (j : Int)), some (0, 48)] [] Q := by
  refine v_loadS (v := (0, 48)) (hi_X2_crumbsLeft_14 hT) rfl rfl ?_
  refine v_push (48) (hi_X2_crumbsLeft_15 hT) rfl ?_
  refine v_ic (hi_X2_crumbsLeft_17 hT) (fun hc1 => absurd (show (48 : Int) < 48 from hc1) (by decide)) (fun _ => ?_)
  refine v_iinc (x := (j : Int)) (u := 1) (w := ((j : Int) + 1)) [some (2, 39), some (0, w), some (0, ((j : Int) + 1)), some (0, 48)] (hz_X2_crumbsLeft hT _ _ rfl) rfl rfl (Nat.le_of_ble_eq_true rfl) (vz_inc (by omega) (by omega)) rfl ?_
  refine v_goto (hz_X2_crumbsLeft hT _ _ rfl) ?_
  exact k0 
section CA_39
variable {D : zD} {T : zT} {N : Nat} {h : zH} {P : PT}
theorem cx_clI_39 (hT : hTab T) (hO : vOK T) {Q : zR → Prop} (hP : cP 39 P h) (hb : fB P) {j m : Nat} (hj : j < 3) (hm : m ≤ 672 * j) (k : vP D T N 32 4 h [some (2, 39), some (0, ((m + sC P (mF P j) 48 : Nat) : Int)), some (0, ((j + 1 : Nat) : Int)), some (0, 48)] [] Q) : ∀ (r q : Nat), q + r = 48 → vP D T N 32 14 h [some (2, 39), some (0, ((m + sC P (mF P j) q : Nat) : Int)), some (0, (j : Int)), some (0, (q : Int))] [] Q
  | 0, q, hq => by
    have : q = 48 := hq
    subst this
    refine vP_dn (vP_hv (fun hv => qk_cl14e_39 hT hO _ hv hj ?_))
    rw [show ((j : Int) + 1) = ((j + 1 : Nat) : Int) from by omega]
    exact k
  | r + 1, q, hq => by
    have b := sC_le14 hb j q (by omega)
    have cr := gCr_b hb (q := q) (by omega)
    have ih := cx_clI_39 hT hO hP hb hj hm k r (q + 1) (by omega)
    have e : sC P (mF P j) (q + 1) = sC P (mF P j) q + (if gIx P q = 1 then mF P j q else 0) := rfl
    refine vP_dn (vP_hv (fun hv => qk_cl14_39 hT hO _ hv hP hb hj (by omega) ⟨by omega, by omega⟩ cr (fun g c => ?_) (fun g c => ?_) (fun g => ?_)))
    · rw [e, if_pos (gIx_y g), show mF P j q = 0 from if_pos c] at ih
      exact ih
    · rw [e, if_pos (gIx_y g), show mF P j q = (gCr P q).toNat from if_neg c] at ih
      rw [show ((m + sC P (mF P j) q : Nat) : Int) + gCr P q = ((m + (sC P (mF P j) q + (gCr P q).toNat) : Nat) : Int) from by omega]
      exact ih
    · rw [e, if_neg (fun e => by rw [gIx_n (by omega) g] at e; exact absurd e (by decide))] at ih
      exact ih
theorem cx_cl_39 (hT : hTab T) (hO : vOK T) {Q : zR → Prop} (hP : cP 39 P h) (hb : fB P) (k : Q (h, some (0, ((mT P (P 0 2).toNat : Nat) : Int)))) : ∀ (r j : Nat) (o : Option zV), j + r = (P 0 2).toNat → vP D T N 32 4 h [some (2, 39), some (0, ((mT P j : Nat) : Int)), some (0, (j : Int)), o] [] Q
  | 0, j, o, hj => by
    have hj : j = (P 0 2).toNat := hj
    subst hj
    refine vP_hv (fun hv => qk_cl4_39 (P := P) hT hO _ o hv hP.1.2.2.1 (fun c => ?_) (fun _ => k))
    omega
  | r + 1, j, o, hj => by
    have l3 := hb.1.2.2.1
    have ih := cx_cl_39 hT hO hP hb k r (j + 1) (some (0, 48)) (by omega)
    refine vP_hv (fun hv => qk_cl4_39 (P := P) hT hO _ o hv hP.1.2.2.1 (fun c => ?_) (fun c => ?_))
    · exact cx_clI_39 hT hO hP hb (by omega) (mT_le hb j) ih 48 0 (by omega)
    · omega
theorem cq_many_39 (hT : hTab T) (hO : vOK T) (hP : cP 39 P h) (hb : fB P) (e7 : h 0 7 = (2, 39)) (x : Int) : vP D T N 163 0 h [some (2, 0), some (0, x)] [] (fun r => r.2 = some (0, mnV P x)) := by
  have Y : ∀ v : Int, mnV P x = v → some ((0, v) : zV) = some (0, mnV P x) := fun v e => by rw [e]
  refine vP_hv (fun hv => qt_many0_39 (P := P) hT hO x hv e7 hP.1.1 hP.1.2.1 hP.1.2.2.1 hP.1.2.2.2.1 hP.1.2.2.2.2 ?_ ?_ ?_ ?_ ?_ ?_ ?_)
  · intro d; exact Y _ (if_pos d)
  · intro d0 d; exact Y _ ((if_neg d0).trans (if_pos d))
  · intro d0 d1 d; exact Y _ ((if_neg d0).trans ((if_neg d1).trans (if_pos d)))
  · intro d0 d1 d2 d; exact Y _ ((if_neg d0).trans ((if_neg d1).trans ((if_neg d2).trans (if_pos d))))
  · intro d0 d1 d2 d3 d; exact Y _ ((if_neg d0).trans ((if_neg d1).trans ((if_neg d2).trans ((if_neg d3).trans (if_pos d)))))
  · intro d0 d1 d2 d3 d4 d
    refine vP_hv (fun hv => qk_cl0_39 hT hO hv ?_)
    refine cx_cl_39 hT hO hP hb ?_ (P 0 2).toNat 0 none (by omega)
    exact vP_hv (fun hv => qt_many108 hT hO x _ hv (Y _ ((if_neg d0).trans ((if_neg d1).trans ((if_neg d2).trans ((if_neg d3).trans ((if_neg d4).trans (if_pos d))))))))
  · intro d0 d1 d2 d3 d4 d; exact Y _ ((if_neg d0).trans ((if_neg d1).trans ((if_neg d2).trans ((if_neg d3).trans ((if_neg d4).trans (if_neg d))))))
end CA_39
