theorem qt_unlike0_39 {D : zD} {T : zT} (hT : hTab T) (hO : vOK T) {N : Nat} {h : zH} {Q : zR → Prop} {P : PT} (x y : Int) (hv0 : zHv h) (e7 : h 0 7 = (2, 39)) (p0 : h 39 0 = (0, P 0 0)) (p1 : h 39 1 = (0, P 0 1)) (p2 : h 39 2 = (0, P 0 2)) (p3 : h 39 3 = (0, P 0 3)) (lb : (0 ≤ P 0 0 ∧ P 0 0 ≤ 8) ∧ (0 ≤ P 0 1 ∧ P 0 1 ≤ 6) ∧ (0 ≤ P 0 2 ∧ P 0 2 ≤ 3) ∧ (0 ≤ P 0 3 ∧ P 0 3 ≤ 6))
    (k0 : (x < 0) → Q (zset h 0 0 (0, 2), some (0, -1)))
    (k1 : (0 ≤ x) → (x < (P 0 2)) → (y < 0) → Q (zset h 0 0 (0, 2), some (0, -1)))
    (k2 : (0 ≤ x) → (x < (P 0 2)) → (0 ≤ y) → (y < (P 0 2)) → vP D T N 190 28 h [some (2, 0), some (0, x), some (0, y)] [] Q)
    (k3 : (0 ≤ x) → (x < (P 0 2)) → (0 ≤ y) → ((P 0 2) ≤ y) → Q (zset h 0 0 (0, 2), some (0, -1)))
    (k4 : (0 ≤ x) → ((P 0 2) ≤ x) → Q (zset h 0 0 (0, 2), some (0, -1))) :
    vP D T N 190 0 h [some (2, 0), some (0, x), some (0, y)] [] Q := by
  refine v_load (v := (2, 0)) (hz_X11_unlike hT _ _ rfl) rfl rfl ?_
  refine v_getf (v := (2, 39)) (r := 0) (hz_X11_unlike hT _ _ rfl) rfl rfl (fun _ => e7) ?_
  refine v_load (v := (0, x)) (hz_X11_unlike hT _ _ rfl) rfl rfl ?_
  refine v_call (w := 2) [some (2, 39), some (0, x)] hO (hz_X11_unlike hT _ _ rfl) rfl rfl ?_
  refine v_load (v := (0, x)) (hi_X2_hasCopy_0 hT) rfl rfl ?_
  refine v_if (hi_X2_hasCopy_1 hT) (fun hc1 => ?_) (fun hc1 => ?_)
  · have hc1 : x < 0 := hc1
    refine v_push (0) (hi_X2_hasCopy_16 hT) rfl ?_
    refine v_ret (hi_X2_hasCopy_17 hT) (Or.inl rfl) ?_
    show vP D T N 190 8 h [some (2, 0), some (0, x), some (0, y)] [(0, 0)] _
    refine v_if (hi_X11_unlike_8 hT) (fun _ => ?_) (fun hc2 => absurd (show (0 : Int) = 0 from (by decide)) hc2)
    refine v_load (v := (2, 0)) (hi_X11_unlike_22 hT) rfl rfl ?_
    refine v_push (2) (hi_X11_unlike_23 hT) rfl ?_
    refine v_call (w := 2) [some (2, 0), some (0, 2)] hO (hi_X11_unlike_24 hT) rfl rfl ?_
    refine v_load (v := (2, 0)) (hi_X11_refused_0 hT) rfl rfl ?_
    refine v_load (v := (0, 2)) (hi_X11_refused_1 hT) rfl rfl ?_
    refine v_putf (r := 0) hO (hi_X11_refused_2 hT) rfl (fun hf3 => ?_)
    refine v_push (-1) (hi_X11_refused_5 hT) rfl ?_
    refine v_ret (hi_X11_refused_6 hT) (Or.inl rfl) ?_
    show vP D T N 190 27 (zset h 0 0 (0, 2)) [some (2, 0), some (0, x), some (0, y)] [(0, -1)] _
    refine v_ret (hi_X11_unlike_27 hT) (Or.inl rfl) ?_
    exact k0 hc1
  · have hc1 : 0 ≤ x := Int.not_lt.mp hc1
    refine v_load (v := (0, x)) (hi_X2_hasCopy_4 hT) rfl rfl ?_
    refine v_load (v := (2, 39)) (hi_X2_hasCopy_5 hT) rfl rfl ?_
    refine v_getf (v := (0, (P 0 2))) (r := 39) (hi_X2_hasCopy_6 hT) rfl rfl (fun _ => p2) ?_
    refine v_ic (hi_X2_hasCopy_9 hT) (fun hc4 => ?_) (fun hc4 => ?_)
    · have hc4 : x < (P 0 2) := hc4
      refine v_push (1) (hi_X2_hasCopy_12 hT) rfl ?_
      refine v_goto (hi_X2_hasCopy_13 hT) ?_
      refine v_ret (hi_X2_hasCopy_17 hT) (Or.inl rfl) ?_
      show vP D T N 190 8 h [some (2, 0), some (0, x), some (0, y)] [(0, 1)] _
      refine v_if (hi_X11_unlike_8 hT) (fun hc5 => absurd (show (1 : Int) = 0 from hc5) (by decide)) (fun _ => ?_)
      refine v_load (v := (2, 0)) (hz_X11_unlike hT _ _ rfl) rfl rfl ?_
      refine v_getf (v := (2, 39)) (r := 0) (hz_X11_unlike hT _ _ rfl) rfl rfl (fun _ => e7) ?_
      refine v_load (v := (0, y)) (hz_X11_unlike hT _ _ rfl) rfl rfl ?_
      refine v_call (w := 2) [some (2, 39), some (0, y)] hO (hz_X11_unlike hT _ _ rfl) rfl rfl ?_
      refine v_load (v := (0, y)) (hi_X2_hasCopy_0 hT) rfl rfl ?_
      refine v_if (hi_X2_hasCopy_1 hT) (fun hc6 => ?_) (fun hc6 => ?_)
      · have hc6 : y < 0 := hc6
        refine v_push (0) (hi_X2_hasCopy_16 hT) rfl ?_
        refine v_ret (hi_X2_hasCopy_17 hT) (Or.inl rfl) ?_
        show vP D T N 190 19 h [some (2, 0), some (0, x), some (0, y)] [(0, 0)] _
        refine v_if (hi_X11_unlike_19 hT) (fun _ => ?_) (fun hc7 => absurd (show (0 : Int) = 0 from (by decide)) hc7)
        refine v_load (v := (2, 0)) (hi_X11_unlike_22 hT) rfl rfl ?_
        refine v_push (2) (hi_X11_unlike_23 hT) rfl ?_
        refine v_call (w := 2) [some (2, 0), some (0, 2)] hO (hi_X11_unlike_24 hT) rfl rfl ?_
        refine v_load (v := (2, 0)) (hi_X11_refused_0 hT) rfl rfl ?_
        refine v_load (v := (0, 2)) (hi_X11_refused_1 hT) rfl rfl ?_
        refine v_putf (r := 0) hO (hi_X11_refused_2 hT) rfl (fun hf8 => ?_)
        refine v_push (-1) (hi_X11_refused_5 hT) rfl ?_
        refine v_ret (hi_X11_refused_6 hT) (Or.inl rfl) ?_
        show vP D T N 190 27 (zset h 0 0 (0, 2)) [some (2, 0), some (0, x), some (0, y)] [(0, -1)] _
        refine v_ret (hi_X11_unlike_27 hT) (Or.inl rfl) ?_
        exact k1 hc1 hc4 hc6
      · have hc6 : 0 ≤ y := Int.not_lt.mp hc6
        refine v_load (v := (0, y)) (hi_X2_hasCopy_4 hT) rfl rfl ?_
        refine v_load (v := (2, 39)) (hi_X2_hasCopy_5 hT) rfl rfl ?_
        refine v_getf (v := (0, (P 0 2))) (r := 39) (hi_X2_hasCopy_6 hT) rfl rfl (fun _ => p2) ?_
        refine v_ic (hi_X2_hasCopy_9 hT) (fun hc9 => ?_) (fun hc9 => ?_)
        · have hc9 : y < (P 0 2) := hc9
          refine v_push (1) (hi_X2_hasCopy_12 hT) rfl ?_
          refine v_goto (hi_X2_hasCopy_13 hT) ?_
          refine v_ret (hi_X2_hasCopy_17 hT) (Or.inl rfl) ?_
          show vP D T N 190 19 h [some (2, 0), some (0, x), some (0, y)] [(0, 1)] _
          refine v_if (hi_X11_unlike_19 hT) (fun hc10 => absurd (show (1 : Int) = 0 from hc10) (by decide)) (fun _ => ?_)
          exact k2 hc1 hc4 hc6 hc9
        · have hc9 : (P 0 2) ≤ y := Int.not_lt.mp hc9
          refine v_push (0) (hi_X2_hasCopy_16 hT) rfl ?_
          refine v_ret (hi_X2_hasCopy_17 hT) (Or.inl rfl) ?_
          show vP D T N 190 19 h [some (2, 0), some (0, x), some (0, y)] [(0, 0)] _
          refine v_if (hi_X11_unlike_19 hT) (fun _ => ?_) (fun hc11 => absurd (show (0 : Int) = 0 from (by decide)) hc11)
          refine v_load (v := (2, 0)) (hi_X11_unlike_22 hT) rfl rfl ?_
          refine v_push (2) (hi_X11_unlike_23 hT) rfl ?_
          refine v_call (w := 2) [some (2, 0), some (0, 2)] hO (hi_X11_unlike_24 hT) rfl rfl ?_
          refine v_load (v := (2, 0)) (hi_X11_refused_0 hT) rfl rfl ?_
          refine v_load (v := (0, 2)) (hi_X11_refused_1 hT) rfl rfl ?_
          refine v_putf (r := 0) hO (hi_X11_refused_2 hT) rfl (fun hf12 => ?_)
          refine v_push (-1) (hi_X11_refused_5 hT) rfl ?_
          refine v_ret (hi_X11_refused_6 hT) (Or.inl rfl) ?_
          show vP D T N 190 27 (zset h 0 0 (0, 2)) [some (2, 0), some (0, x), some (0, y)] [(0, -1)] _
          refine v_ret (hi_X11_unlike_27 hT) (Or.inl rfl) ?_
          exact k3 hc1 hc4 hc6 hc9
    · have hc4 : (P 0 2) ≤ x := Int.not_lt.mp hc4
      refine v_push (0) (hi_X2_hasCopy_16 hT) rfl ?_
      refine v_ret (hi_X2_hasCopy_17 hT) (Or.inl rfl) ?_
      show vP D T N 190 8 h [some (2, 0), some (0, x), some (0, y)] [(0, 0)] _
      refine v_if (hi_X11_unlike_8 hT) (fun _ => ?_) (fun hc13 => absurd (show (0 : Int) = 0 from (by decide)) hc13)
      refine v_load (v := (2, 0)) (hi_X11_unlike_22 hT) rfl rfl ?_
      refine v_push (2) (hi_X11_unlike_23 hT) rfl ?_
      refine v_call (w := 2) [some (2, 0), some (0, 2)] hO (hi_X11_unlike_24 hT) rfl rfl ?_
      refine v_load (v := (2, 0)) (hi_X11_refused_0 hT) rfl rfl ?_
      refine v_load (v := (0, 2)) (hi_X11_refused_1 hT) rfl rfl ?_
      refine v_putf (r := 0) hO (hi_X11_refused_2 hT) rfl (fun hf14 => ?_)
      refine v_push (-1) (hi_X11_refused_5 hT) rfl ?_
      refine v_ret (hi_X11_refused_6 hT) (Or.inl rfl) ?_
      show vP D T N 190 27 (zset h 0 0 (0, 2)) [some (2, 0), some (0, x), some (0, y)] [(0, -1)] _
      refine v_ret (hi_X11_unlike_27 hT) (Or.inl rfl) ?_
      exact k4 hc1 hc4
theorem qt_unlike28_39 {D : zD} {T : zT} (hT : hTab T) (hO : vOK T) {N : Nat} {h : zH} {Q : zR → Prop} {j t : Nat} (hv0 : zHv h) (e7 : h 0 7 = (2, 39))
    (k0 : vP D T N 34 0 h [some (2, 39), some (0, (j : Int)), some (0, (t : Int)), none, none] [] (fun r1 => vP D T N 190 38 r1.1 [some (2, 0), some (0, (j : Int)), some (0, (t : Int))] (zpush r1.2 [(2, 0)]) Q)) :
    vP D T N 190 28 h [some (2, 0), some (0, (j : Int)), some (0, (t : Int))] [] Q := by
  refine v_load (v := (2, 0)) (hz_X11_unlike hT _ _ rfl) rfl rfl ?_
  refine v_load (v := (2, 0)) (hz_X11_unlike hT _ _ rfl) rfl rfl ?_
  refine v_getf (v := (2, 39)) (r := 0) (hz_X11_unlike hT _ _ rfl) rfl rfl (fun _ => e7) ?_
  refine v_load (v := (0, (j : Int))) (hz_X11_unlike hT _ _ rfl) rfl rfl ?_
  refine v_load (v := (0, (t : Int))) (hz_X11_unlike hT _ _ rfl) rfl rfl ?_
  refine v_call (w := 5) [some (2, 39), some (0, (j : Int)), some (0, (t : Int)), none, none] hO (hz_X11_unlike hT _ _ rfl) rfl rfl ?_
  exact k0 
section CA_39
variable {D : zD} {T : zT} {N : Nat} {h : zH} {P : PT}
theorem cq_unlike_39 (hT : hTab T) (hO : vOK T) (hP : cP 39 P h) (hb : fB P) (e7 : h 0 7 = (2, 39)) (x y : Int) : vP D T N 190 0 h [some (2, 0), some (0, x), some (0, y)] [] (fun r => r.2 = some (0, ulV P x y)) := by
  have lb := hb.1
  have l3 := lb.2.2.1.2
  have no : ¬ okS P x y → (some ((0, -1) : zV)) = some (0, ulV P x y) := fun c => by
    unfold ulV
    rw [if_neg c]
  refine vP_hv (fun hv => qt_unlike0_39 (P := P) hT hO x y hv e7 hP.1.1 hP.1.2.1 hP.1.2.2.1 hP.1.2.2.2.1 lb ?k0 ?k1 ?k2 ?k3 ?k4)
  case k2 =>
    intro c1 c2 c3 c4
    obtain ⟨j, rfl⟩ : ∃ j : Nat, x = (j : Int) := ⟨x.toNat, by omega⟩
    obtain ⟨t, rfl⟩ : ∃ t : Nat, y = (t : Int) := ⟨y.toNat, by omega⟩
    have e2 : ulV P (j : Int) (t : Int) = ((uS P j t ((P 0 0).toNat * (P 0 1).toNat) : Nat) : Int) := if_pos ⟨c1, c2, c3, c4⟩
    rw [e2]
    refine vP_hv (fun hv => qt_unlike28_39 hT hO hv e7 ?_)
    refine cx_df_39 hT hO hP hb (by omega) (by omega) ?_
    exact vP_hv (fun hv => qt_unlike38 hT hO _ hv rfl)
  all_goals
    intros
    exact no (by rintro ⟨o1, o2, o3, o4⟩; omega)
end CA_39
