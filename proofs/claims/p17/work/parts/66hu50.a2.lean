theorem qt_company0_39 {D : zD} {T : zT} (hT : hTab T) (hO : vOK T) {N : Nat} {h : zH} {Q : zR → Prop} {P : PT} (x y : Int) (hv0 : zHv h) (e7 : h 0 7 = (2, 39)) (p0 : h 39 0 = (0, P 0 0)) (p1 : h 39 1 = (0, P 0 1)) (p2 : h 39 2 = (0, P 0 2)) (p3 : h 39 3 = (0, P 0 3)) (lb : (0 ≤ P 0 0 ∧ P 0 0 ≤ 8) ∧ (0 ≤ P 0 1 ∧ P 0 1 ≤ 6) ∧ (0 ≤ P 0 2 ∧ P 0 2 ≤ 3) ∧ (0 ≤ P 0 3 ∧ P 0 3 ≤ 6))
    (k0 : (x < 0) → Q (zset h 0 0 (0, 2), some (0, -1)))
    (k1 : (0 ≤ x) → (x < (P 0 3)) → vP D T N 151 17 h [some (2, 0), some (0, x), some (0, y)] [] Q)
    (k2 : (0 ≤ x) → ((P 0 3) ≤ x) → Q (zset h 0 0 (0, 2), some (0, -1))) :
    vP D T N 151 0 h [some (2, 0), some (0, x), some (0, y)] [] Q := by
  refine v_load (v := (2, 0)) (hz_X11_company hT _ _ rfl) rfl rfl ?_
  refine v_getf (v := (2, 39)) (r := 0) (hz_X11_company hT _ _ rfl) rfl rfl (fun _ => e7) ?_
  refine v_load (v := (0, x)) (hz_X11_company hT _ _ rfl) rfl rfl ?_
  refine v_call (w := 2) [some (2, 39), some (0, x)] hO (hz_X11_company hT _ _ rfl) rfl rfl ?_
  refine v_load (v := (0, x)) (hi_X2_hasCompany_0 hT) rfl rfl ?_
  refine v_if (hi_X2_hasCompany_1 hT) (fun hc1 => ?_) (fun hc1 => ?_)
  · have hc1 : x < 0 := hc1
    refine v_push (0) (hi_X2_hasCompany_16 hT) rfl ?_
    refine v_ret (hi_X2_hasCompany_17 hT) (Or.inl rfl) ?_
    show vP D T N 151 8 h [some (2, 0), some (0, x), some (0, y)] [(0, 0)] _
    refine v_if (hi_X11_company_8 hT) (fun _ => ?_) (fun hc2 => absurd (show (0 : Int) = 0 from (by decide)) hc2)
    refine v_load (v := (2, 0)) (hi_X11_company_11 hT) rfl rfl ?_
    refine v_push (2) (hi_X11_company_12 hT) rfl ?_
    refine v_call (w := 2) [some (2, 0), some (0, 2)] hO (hi_X11_company_13 hT) rfl rfl ?_
    refine v_load (v := (2, 0)) (hi_X11_refused_0 hT) rfl rfl ?_
    refine v_load (v := (0, 2)) (hi_X11_refused_1 hT) rfl rfl ?_
    refine v_putf (r := 0) hO (hi_X11_refused_2 hT) rfl (fun hf3 => ?_)
    refine v_push (-1) (hi_X11_refused_5 hT) rfl ?_
    refine v_ret (hi_X11_refused_6 hT) (Or.inl rfl) ?_
    show vP D T N 151 16 (zset h 0 0 (0, 2)) [some (2, 0), some (0, x), some (0, y)] [(0, -1)] _
    refine v_ret (hi_X11_company_16 hT) (Or.inl rfl) ?_
    exact k0 hc1
  · have hc1 : 0 ≤ x := Int.not_lt.mp hc1
    refine v_load (v := (0, x)) (hi_X2_hasCompany_4 hT) rfl rfl ?_
    refine v_load (v := (2, 39)) (hi_X2_hasCompany_5 hT) rfl rfl ?_
    refine v_getf (v := (0, (P 0 3))) (r := 39) (hi_X2_hasCompany_6 hT) rfl rfl (fun _ => p3) ?_
    refine v_ic (hi_X2_hasCompany_9 hT) (fun hc4 => ?_) (fun hc4 => ?_)
    · have hc4 : x < (P 0 3) := hc4
      refine v_push (1) (hi_X2_hasCompany_12 hT) rfl ?_
      refine v_goto (hi_X2_hasCompany_13 hT) ?_
      refine v_ret (hi_X2_hasCompany_17 hT) (Or.inl rfl) ?_
      show vP D T N 151 8 h [some (2, 0), some (0, x), some (0, y)] [(0, 1)] _
      refine v_if (hi_X11_company_8 hT) (fun hc5 => absurd (show (1 : Int) = 0 from hc5) (by decide)) (fun _ => ?_)
      exact k1 hc1 hc4
    · have hc4 : (P 0 3) ≤ x := Int.not_lt.mp hc4
      refine v_push (0) (hi_X2_hasCompany_16 hT) rfl ?_
      refine v_ret (hi_X2_hasCompany_17 hT) (Or.inl rfl) ?_
      show vP D T N 151 8 h [some (2, 0), some (0, x), some (0, y)] [(0, 0)] _
      refine v_if (hi_X11_company_8 hT) (fun _ => ?_) (fun hc6 => absurd (show (0 : Int) = 0 from (by decide)) hc6)
      refine v_load (v := (2, 0)) (hi_X11_company_11 hT) rfl rfl ?_
      refine v_push (2) (hi_X11_company_12 hT) rfl ?_
      refine v_call (w := 2) [some (2, 0), some (0, 2)] hO (hi_X11_company_13 hT) rfl rfl ?_
      refine v_load (v := (2, 0)) (hi_X11_refused_0 hT) rfl rfl ?_
      refine v_load (v := (0, 2)) (hi_X11_refused_1 hT) rfl rfl ?_
      refine v_putf (r := 0) hO (hi_X11_refused_2 hT) rfl (fun hf7 => ?_)
      refine v_push (-1) (hi_X11_refused_5 hT) rfl ?_
      refine v_ret (hi_X11_refused_6 hT) (Or.inl rfl) ?_
      show vP D T N 151 16 (zset h 0 0 (0, 2)) [some (2, 0), some (0, x), some (0, y)] [(0, -1)] _
      refine v_ret (hi_X11_company_16 hT) (Or.inl rfl) ?_
      exact k2 hc1 hc4
theorem qt_company17_39 {D : zD} {T : zT} (hT : hTab T) (hO : vOK T) {N : Nat} {h : zH} {Q : zR → Prop} {P : PT} {a : Nat} (y : Int) (hv0 : zHv h) (e7 : h 0 7 = (2, 39)) (ha : a < 6) (s6 : h 45 a = (0, P 6 a)) (s7 : h 46 a = (0, P 7 a)) (s8 : h 47 a = (0, P 8 a)) (s9 : h 48 a = (0, P 9 a)) (b6 : 0 ≤ P 6 a ∧ P 6 a < 48) (b7 : 0 ≤ P 7 a ∧ P 7 a < 48)
    (k0 : (y = 0) → (0 ≤ (a : Int)) → ((a : Int) < 6) → Q (zset h 0 0 (0, 0), some (0, ((P 6 a) % 8))))
    (k1 : (y ≠ 0) → (y = 1) → (0 ≤ (a : Int)) → ((a : Int) < 6) → Q (zset h 0 0 (0, 0), some (0, ((P 6 a) / 8))))
    (k2 : (y ≠ 0) → (y ≠ 1) → (y = 2) → (0 ≤ (a : Int)) → ((a : Int) < 6) → Q (zset h 0 0 (0, 0), some (0, ((P 7 a) % 8))))
    (k3 : (y ≠ 0) → (y ≠ 1) → (y ≠ 2) → (y = 3) → (0 ≤ (a : Int)) → ((a : Int) < 6) → Q (zset h 0 0 (0, 0), some (0, ((P 7 a) / 8))))
    (k4 : (y ≠ 0) → (y ≠ 1) → (y ≠ 2) → (y ≠ 3) → (y = 4) → (0 ≤ (a : Int)) → ((a : Int) < 6) → Q (zset h 0 0 (0, 0), some (0, (P 8 a))))
    (k5 : (y ≠ 0) → (y ≠ 1) → (y ≠ 2) → (y ≠ 3) → (y ≠ 4) → (y = 5) → (0 ≤ (a : Int)) → ((a : Int) < 6) → Q (zset h 0 0 (0, 0), some (0, (P 9 a))))
    (k6 : (y ≠ 0) → (y ≠ 1) → (y ≠ 2) → (y ≠ 3) → (y ≠ 4) → (y ≠ 5) → Q (zset h 0 0 (0, 5), some (0, -1))) :
    vP D T N 151 17 h [some (2, 0), some (0, (a : Int)), some (0, y)] [] Q := by
  refine v_load (v := (0, y)) (hz_X11_company hT _ _ rfl) rfl rfl ?_
  refine v_sw (hz_X11_company hT _ _ rfl) ?_
  refine ⟨fun hc1 => ?_, fun hc1 => ?_⟩
  · have hc1 : y = 0 := hc1
    refine v_load (v := (2, 0)) (hz_X11_company hT _ _ rfl) rfl rfl ?_
    refine v_load (v := (2, 0)) (hz_X11_company hT _ _ rfl) rfl rfl ?_
    refine v_getf (v := (2, 39)) (r := 0) (hz_X11_company hT _ _ rfl) rfl rfl (fun _ => e7) ?_
    refine v_getR (c := 45) (r := 39) (hz_X11_company hT _ _ rfl) rfl rfl rfl ?_
    refine v_load (v := (0, (a : Int))) (hz_X11_company hT _ _ rfl) rfl rfl ?_
    refine v_aldB (t := 0) (r := 45) (w := (P 6 a)) (hz_X11_company hT _ _ rfl) rfl rfl rfl (fun _ _ => (congrArg Prod.snd s6)) (fun ha2 hb3 => ?_)
    refine v_call (w := 1) [some (0, (P 6 a))] hO (hz_X11_company hT _ _ rfl) rfl rfl ?_
    refine v_load (v := (0, (P 6 a))) (hi_X2_xOf_0 hT) rfl rfl ?_
    refine v_push (7) (hi_X2_xOf_1 hT) rfl ?_
    refine v_bin (w := ((P 6 a) % 8)) (hi_X2_xOf_3 hT) (and7 (by omega) (by omega)) ?_
    refine v_ret (hi_X2_xOf_4 hT) (Or.inl rfl) ?_
    show vP D T N 151 69 h [some (2, 0), some (0, (a : Int)), some (0, y)] [(0, ((P 6 a) % 8)), (2, 0)] _
    refine v_call (w := 2) [some (2, 0), some (0, ((P 6 a) % 8))] hO (hz_X11_company hT _ _ rfl) rfl rfl ?_
    refine v_load (v := (2, 0)) (hi_X11_answer_0 hT) rfl rfl ?_
    refine v_push (0) (hi_X11_answer_1 hT) rfl ?_
    refine v_putf (r := 0) hO (hi_X11_answer_2 hT) rfl (fun hf4 => ?_)
    refine v_load (v := (0, ((P 6 a) % 8))) (hi_X11_answer_5 hT) rfl rfl ?_
    refine v_ret (hi_X11_answer_6 hT) (Or.inl rfl) ?_
    show vP D T N 151 72 (zset h 0 0 (0, 0)) [some (2, 0), some (0, (a : Int)), some (0, y)] [(0, ((P 6 a) % 8))] _
    refine v_ret (hz_X11_company hT _ _ rfl) (Or.inl rfl) ?_
    exact k0 hc1 ha2 hb3
  refine ⟨fun hc5 => ?_, fun hc5 => ?_⟩
  · have hc5 : y = 1 := hc5
    refine v_load (v := (2, 0)) (hz_X11_company hT _ _ rfl) rfl rfl ?_
    refine v_load (v := (2, 0)) (hz_X11_company hT _ _ rfl) rfl rfl ?_
    refine v_getf (v := (2, 39)) (r := 0) (hz_X11_company hT _ _ rfl) rfl rfl (fun _ => e7) ?_
    refine v_getR (c := 45) (r := 39) (hz_X11_company hT _ _ rfl) rfl rfl rfl ?_
    refine v_load (v := (0, (a : Int))) (hz_X11_company hT _ _ rfl) rfl rfl ?_
    refine v_aldB (t := 0) (r := 45) (w := (P 6 a)) (hz_X11_company hT _ _ rfl) rfl rfl rfl (fun _ _ => (congrArg Prod.snd s6)) (fun ha6 hb7 => ?_)
    refine v_call (w := 1) [some (0, (P 6 a))] hO (hz_X11_company hT _ _ rfl) rfl rfl ?_
    refine v_load (v := (0, (P 6 a))) (hi_X2_yOf_0 hT) rfl rfl ?_
    refine v_push (3) (hi_X2_yOf_1 hT) rfl ?_
    refine v_bin (w := ((P 6 a) / 8)) (hi_X2_yOf_2 hT) (shr3 (by omega) (by omega)) ?_
    refine v_ret (hi_X2_yOf_3 hT) (Or.inl rfl) ?_
    show vP D T N 151 86 h [some (2, 0), some (0, (a : Int)), some (0, y)] [(0, ((P 6 a) / 8)), (2, 0)] _
    refine v_call (w := 2) [some (2, 0), some (0, ((P 6 a) / 8))] hO (hz_X11_company hT _ _ rfl) rfl rfl ?_
    refine v_load (v := (2, 0)) (hi_X11_answer_0 hT) rfl rfl ?_
    refine v_push (0) (hi_X11_answer_1 hT) rfl ?_
    refine v_putf (r := 0) hO (hi_X11_answer_2 hT) rfl (fun hf8 => ?_)
    refine v_load (v := (0, ((P 6 a) / 8))) (hi_X11_answer_5 hT) rfl rfl ?_
    refine v_ret (hi_X11_answer_6 hT) (Or.inl rfl) ?_
    show vP D T N 151 89 (zset h 0 0 (0, 0)) [some (2, 0), some (0, (a : Int)), some (0, y)] [(0, ((P 6 a) / 8))] _
    refine v_ret (hz_X11_company hT _ _ rfl) (Or.inl rfl) ?_
    exact k1 hc1 hc5 ha6 hb7
  refine ⟨fun hc9 => ?_, fun hc9 => ?_⟩
  · have hc9 : y = 2 := hc9
    refine v_load (v := (2, 0)) (hz_X11_company hT _ _ rfl) rfl rfl ?_
    refine v_load (v := (2, 0)) (hz_X11_company hT _ _ rfl) rfl rfl ?_
    refine v_getf (v := (2, 39)) (r := 0) (hz_X11_company hT _ _ rfl) rfl rfl (fun _ => e7) ?_
    refine v_getR (c := 46) (r := 39) (hz_X11_company hT _ _ rfl) rfl rfl rfl ?_
    refine v_load (v := (0, (a : Int))) (hz_X11_company hT _ _ rfl) rfl rfl ?_
    refine v_aldB (t := 0) (r := 46) (w := (P 7 a)) (hz_X11_company hT _ _ rfl) rfl rfl rfl (fun _ _ => (congrArg Prod.snd s7)) (fun ha10 hb11 => ?_)
    refine v_call (w := 1) [some (0, (P 7 a))] hO (hz_X11_company hT _ _ rfl) rfl rfl ?_
    refine v_load (v := (0, (P 7 a))) (hi_X2_xOf_0 hT) rfl rfl ?_
    refine v_push (7) (hi_X2_xOf_1 hT) rfl ?_
    refine v_bin (w := ((P 7 a) % 8)) (hi_X2_xOf_3 hT) (and7 (by omega) (by omega)) ?_
    refine v_ret (hi_X2_xOf_4 hT) (Or.inl rfl) ?_
    show vP D T N 151 103 h [some (2, 0), some (0, (a : Int)), some (0, y)] [(0, ((P 7 a) % 8)), (2, 0)] _
    refine v_call (w := 2) [some (2, 0), some (0, ((P 7 a) % 8))] hO (hz_X11_company hT _ _ rfl) rfl rfl ?_
    refine v_load (v := (2, 0)) (hi_X11_answer_0 hT) rfl rfl ?_
    refine v_push (0) (hi_X11_answer_1 hT) rfl ?_
    refine v_putf (r := 0) hO (hi_X11_answer_2 hT) rfl (fun hf12 => ?_)
    refine v_load (v := (0, ((P 7 a) % 8))) (hi_X11_answer_5 hT) rfl rfl ?_
    refine v_ret (hi_X11_answer_6 hT) (Or.inl rfl) ?_
    show vP D T N 151 106 (zset h 0 0 (0, 0)) [some (2, 0), some (0, (a : Int)), some (0, y)] [(0, ((P 7 a) % 8))] _
    refine v_ret (hz_X11_company hT _ _ rfl) (Or.inl rfl) ?_
    exact k2 hc1 hc5 hc9 ha10 hb11
  refine ⟨fun hc13 => ?_, fun hc13 => ?_⟩
  · have hc13 : y = 3 := hc13
    refine v_load (v := (2, 0)) (hz_X11_company hT _ _ rfl) rfl rfl ?_
    refine v_load (v := (2, 0)) (hz_X11_company hT _ _ rfl) rfl rfl ?_
    refine v_getf (v := (2, 39)) (r := 0) (hz_X11_company hT _ _ rfl) rfl rfl (fun _ => e7) ?_
    refine v_getR (c := 46) (r := 39) (hz_X11_company hT _ _ rfl) rfl rfl rfl ?_
    refine v_load (v := (0, (a : Int))) (hz_X11_company hT _ _ rfl) rfl rfl ?_
    refine v_aldB (t := 0) (r := 46) (w := (P 7 a)) (hz_X11_company hT _ _ rfl) rfl rfl rfl (fun _ _ => (congrArg Prod.snd s7)) (fun ha14 hb15 => ?_)
    refine v_call (w := 1) [some (0, (P 7 a))] hO (hz_X11_company hT _ _ rfl) rfl rfl ?_
    refine v_load (v := (0, (P 7 a))) (hi_X2_yOf_0 hT) rfl rfl ?_
    refine v_push (3) (hi_X2_yOf_1 hT) rfl ?_
    refine v_bin (w := ((P 7 a) / 8)) (hi_X2_yOf_2 hT) (shr3 (by omega) (by omega)) ?_
    refine v_ret (hi_X2_yOf_3 hT) (Or.inl rfl) ?_
    show vP D T N 151 120 h [some (2, 0), some (0, (a : Int)), some (0, y)] [(0, ((P 7 a) / 8)), (2, 0)] _
    refine v_call (w := 2) [some (2, 0), some (0, ((P 7 a) / 8))] hO (hz_X11_company hT _ _ rfl) rfl rfl ?_
    refine v_load (v := (2, 0)) (hi_X11_answer_0 hT) rfl rfl ?_
    refine v_push (0) (hi_X11_answer_1 hT) rfl ?_
    refine v_putf (r := 0) hO (hi_X11_answer_2 hT) rfl (fun hf16 => ?_)
    refine v_load (v := (0, ((P 7 a) / 8))) (hi_X11_answer_5 hT) rfl rfl ?_
    refine v_ret (hi_X11_answer_6 hT) (Or.inl rfl) ?_
    show vP D T N 151 123 (zset h 0 0 (0, 0)) [some (2, 0), some (0, (a : Int)), some (0, y)] [(0, ((P 7 a) / 8))] _
    refine v_ret (hz_X11_company hT _ _ rfl) (Or.inl rfl) ?_
    exact k3 hc1 hc5 hc9 hc13 ha14 hb15
  refine ⟨fun hc17 => ?_, fun hc17 => ?_⟩
  · have hc17 : y = 4 := hc17
    refine v_load (v := (2, 0)) (hz_X11_company hT _ _ rfl) rfl rfl ?_
    refine v_load (v := (2, 0)) (hz_X11_company hT _ _ rfl) rfl rfl ?_
    refine v_getf (v := (2, 39)) (r := 0) (hz_X11_company hT _ _ rfl) rfl rfl (fun _ => e7) ?_
    refine v_getR (c := 47) (r := 39) (hz_X11_company hT _ _ rfl) rfl rfl rfl ?_
    refine v_load (v := (0, (a : Int))) (hz_X11_company hT _ _ rfl) rfl rfl ?_
    refine v_aldB (t := 0) (r := 47) (w := (P 8 a)) (hz_X11_company hT _ _ rfl) rfl rfl rfl (fun _ _ => (congrArg Prod.snd s8)) (fun ha18 hb19 => ?_)
    refine v_call (w := 2) [some (2, 0), some (0, (P 8 a))] hO (hz_X11_company hT _ _ rfl) rfl rfl ?_
    refine v_load (v := (2, 0)) (hi_X11_answer_0 hT) rfl rfl ?_
    refine v_push (0) (hi_X11_answer_1 hT) rfl ?_
    refine v_putf (r := 0) hO (hi_X11_answer_2 hT) rfl (fun hf20 => ?_)
    refine v_load (v := (0, (P 8 a))) (hi_X11_answer_5 hT) rfl rfl ?_
    refine v_ret (hi_X11_answer_6 hT) (Or.inl rfl) ?_
    show vP D T N 151 137 (zset h 0 0 (0, 0)) [some (2, 0), some (0, (a : Int)), some (0, y)] [(0, (P 8 a))] _
    refine v_ret (hz_X11_company hT _ _ rfl) (Or.inl rfl) ?_
    exact k4 hc1 hc5 hc9 hc13 hc17 ha18 hb19
  refine ⟨fun hc21 => ?_, fun hc21 => ?_⟩
  · have hc21 : y = 5 := hc21
    refine v_load (v := (2, 0)) (hz_X11_company hT _ _ rfl) rfl rfl ?_
    refine v_load (v := (2, 0)) (hz_X11_company hT _ _ rfl) rfl rfl ?_
    refine v_getf (v := (2, 39)) (r := 0) (hz_X11_company hT _ _ rfl) rfl rfl (fun _ => e7) ?_
    refine v_getR (c := 48) (r := 39) (hz_X11_company hT _ _ rfl) rfl rfl rfl ?_
    refine v_load (v := (0, (a : Int))) (hz_X11_company hT _ _ rfl) rfl rfl ?_
    refine v_aldB (t := 0) (r := 48) (w := (P 9 a)) (hz_X11_company hT _ _ rfl) rfl rfl rfl (fun _ _ => (congrArg Prod.snd s9)) (fun ha22 hb23 => ?_)
    refine v_call (w := 2) [some (2, 0), some (0, (P 9 a))] hO (hz_X11_company hT _ _ rfl) rfl rfl ?_
    refine v_load (v := (2, 0)) (hi_X11_answer_0 hT) rfl rfl ?_
    refine v_push (0) (hi_X11_answer_1 hT) rfl ?_
    refine v_putf (r := 0) hO (hi_X11_answer_2 hT) rfl (fun hf24 => ?_)
    refine v_load (v := (0, (P 9 a))) (hi_X11_answer_5 hT) rfl rfl ?_
    refine v_ret (hi_X11_answer_6 hT) (Or.inl rfl) ?_
    show vP D T N 151 151 (zset h 0 0 (0, 0)) [some (2, 0), some (0, (a : Int)), some (0, y)] [(0, (P 9 a))] _
    refine v_ret (hz_X11_company hT _ _ rfl) (Or.inl rfl) ?_
    exact k5 hc1 hc5 hc9 hc13 hc17 hc21 ha22 hb23
  show vP _ _ _ _ _ _ _ _ _
  refine v_load (v := (2, 0)) (hz_X11_company hT _ _ rfl) rfl rfl ?_
  refine v_push (5) (hz_X11_company hT _ _ rfl) rfl ?_
  refine v_call (w := 2) [some (2, 0), some (0, 5)] hO (hz_X11_company hT _ _ rfl) rfl rfl ?_
  refine v_load (v := (2, 0)) (hi_X11_refused_0 hT) rfl rfl ?_
  refine v_load (v := (0, 5)) (hi_X11_refused_1 hT) rfl rfl ?_
  refine v_putf (r := 0) hO (hi_X11_refused_2 hT) rfl (fun hf25 => ?_)
  refine v_push (-1) (hi_X11_refused_5 hT) rfl ?_
  refine v_ret (hi_X11_refused_6 hT) (Or.inl rfl) ?_
  show vP D T N 151 157 (zset h 0 0 (0, 5)) [some (2, 0), some (0, (a : Int)), some (0, y)] [(0, -1)] _
  refine v_ret (hz_X11_company hT _ _ rfl) (Or.inl rfl) ?_
  exact k6 hc1 hc5 hc9 hc13 hc17 hc21
section CA_39
variable {D : zD} {T : zT} {N : Nat} {h : zH} {P : PT}
theorem cq_company_39 (hT : hTab T) (hO : vOK T) (hP : cP 39 P h) (hb : fB P) (e7 : h 0 7 = (2, 39)) (x y : Int) : vP D T N 151 0 h [some (2, 0), some (0, x), some (0, y)] [] (fun r => r.2 = some (0, cmV P x y)) := by
  have lb := hb.1
  have l6 := lb.2.2.2.2
  have no : ¬ (okM P x ∧ 0 ≤ y ∧ y ≤ 5) → (some ((0, -1) : zV)) = some (0, cmV P x y) := fun c => by
    unfold cmV
    rw [if_neg c]
  have yes : ∀ a : Nat, x = (a : Int) → (a : Int) < P 0 3 → ∀ v : Int, 0 ≤ y → y ≤ 5 → cmF P a y = v → some ((0, v) : zV) = some (0, cmV P x y) := fun a ea ha v h0 h5 e => by
    rw [ea, ← cmV_y ha h0 h5, e]
  refine vP_hv (fun hv => qt_company0_39 (P := P) hT hO x y hv e7 hP.1.1 hP.1.2.1 hP.1.2.2.1 hP.1.2.2.2.1 lb ?k0 ?k1 ?k2)
  case k1 =>
    intro c1 c2
    obtain ⟨a, ea⟩ : ∃ a : Nat, x = (a : Int) := ⟨x.toNat, by omega⟩
    have ha : (a : Int) < P 0 3 := by omega
    obtain ⟨_, ⟨b6, g6⟩, ⟨b7, g7⟩, _⟩ := hb.2.2.2 a ha
    have q6 := g6.1
    have q7 := g7.1
    have Y := yes a ea ha
    rw [ea]
    refine vP_hv (fun hv => qt_company17_39 hT hO y hv e7 (by omega) (hP.a6 a ha) (hP.a7 a ha) (hP.a8 a ha) (hP.a9 a ha) ⟨b6, by omega⟩ ⟨b7, by omega⟩ ?_ ?_ ?_ ?_ ?_ ?_ ?_)
    all_goals rw [← ea]
    · intro d _ _; exact Y _ (by omega) (by omega) (if_pos d)
    · intro d0 d _ _; exact Y _ (by omega) (by omega) ((if_neg d0).trans (if_pos d))
    · intro d0 d1 d _ _; exact Y _ (by omega) (by omega) ((if_neg d0).trans ((if_neg d1).trans (if_pos d)))
    · intro d0 d1 d2 d _ _; exact Y _ (by omega) (by omega) ((if_neg d0).trans ((if_neg d1).trans ((if_neg d2).trans (if_pos d))))
    · intro d0 d1 d2 d3 d _ _; exact Y _ (by omega) (by omega) ((if_neg d0).trans ((if_neg d1).trans ((if_neg d2).trans ((if_neg d3).trans (if_pos d)))))
    · intro d0 d1 d2 d3 d4 d _ _; exact Y _ (by omega) (by omega) ((if_neg d0).trans ((if_neg d1).trans ((if_neg d2).trans ((if_neg d3).trans (if_neg d4)))))
    · intro d0 d1 d2 d3 d4 d5; exact no (by rintro ⟨_, o1, o2⟩; omega)
  all_goals
    intros
    exact no (by rintro ⟨⟨o1, o2⟩, _⟩; omega)
end CA_39
