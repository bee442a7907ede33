theorem qt_best0_39 {D : zD} {T : zT} (hT : hTab T) (hO : vOK T) {N : Nat} {h : zH} {Q : zR → Prop} {P : PT} (x : Int) (hv0 : zHv h) (e7 : h 0 7 = (2, 39)) (p0 : h 39 0 = (0, P 0 0)) (p1 : h 39 1 = (0, P 0 1)) (p2 : h 39 2 = (0, P 0 2)) (p3 : h 39 3 = (0, P 0 3)) (lb : (0 ≤ P 0 0 ∧ P 0 0 ≤ 8) ∧ (0 ≤ P 0 1 ∧ P 0 1 ≤ 6) ∧ (0 ≤ P 0 2 ∧ P 0 2 ≤ 3) ∧ (0 ≤ P 0 3 ∧ P 0 3 ≤ 6))
    (k0 : (x < 0) → Q (zset h 0 0 (0, 2), some (0, -1)))
    (k1 : (0 ≤ x) → (x < (P 0 3)) → vP D T N 145 17 h [some (2, 0), some (0, x), none] [] Q)
    (k2 : (0 ≤ x) → ((P 0 3) ≤ x) → Q (zset h 0 0 (0, 2), some (0, -1))) :
    vP D T N 145 0 h [some (2, 0), some (0, x), none] [] Q := by
  refine v_load (v := (2, 0)) (hz_X11_best hT _ _ rfl) rfl rfl ?_
  refine v_getf (v := (2, 39)) (r := 0) (hz_X11_best hT _ _ rfl) rfl rfl (fun _ => e7) ?_
  refine v_load (v := (0, x)) (hz_X11_best hT _ _ rfl) rfl rfl ?_
  refine v_call (w := 2) [some (2, 39), some (0, x)] hO (hz_X11_best hT _ _ rfl) rfl rfl ?_
  refine v_load (v := (0, x)) (hi_X2_hasCompany_0 hT) rfl rfl ?_
  refine v_if (hi_X2_hasCompany_1 hT) (fun hc1 => ?_) (fun hc1 => ?_)
  · have hc1 : x < 0 := hc1
    refine v_push (0) (hi_X2_hasCompany_16 hT) rfl ?_
    refine v_ret (hi_X2_hasCompany_17 hT) (Or.inl rfl) ?_
    show vP D T N 145 8 h [some (2, 0), some (0, x), none] [(0, 0)] _
    refine v_if (hi_X11_best_8 hT) (fun _ => ?_) (fun hc2 => absurd (show (0 : Int) = 0 from (by decide)) hc2)
    refine v_load (v := (2, 0)) (hi_X11_best_11 hT) rfl rfl ?_
    refine v_push (2) (hi_X11_best_12 hT) rfl ?_
    refine v_call (w := 2) [some (2, 0), some (0, 2)] hO (hi_X11_best_13 hT) rfl rfl ?_
    refine v_load (v := (2, 0)) (hi_X11_refused_0 hT) rfl rfl ?_
    refine v_load (v := (0, 2)) (hi_X11_refused_1 hT) rfl rfl ?_
    refine v_putf (r := 0) hO (hi_X11_refused_2 hT) rfl (fun hf3 => ?_)
    refine v_push (-1) (hi_X11_refused_5 hT) rfl ?_
    refine v_ret (hi_X11_refused_6 hT) (Or.inl rfl) ?_
    show vP D T N 145 16 (zset h 0 0 (0, 2)) [some (2, 0), some (0, x), none] [(0, -1)] _
    refine v_ret (hi_X11_best_16 hT) (Or.inl rfl) ?_
    exact k0 hc1
  · have hc1 : 0 ≤ x := Int.not_lt.mp hc1
    refine v_load (v := (0, x)) (hi_X2_hasCompany_4 hT) rfl rfl ?_
    refine v_load (v := (2, 39)) (hi_X2_hasCompany_5 hT) rfl rfl ?_
    refine v_getf (v := (0, (P 0 3))) (r := 39) (hi_X2_hasCompany_6 hT) rfl rfl (fun _ => p3) ?_
    refine v_ic (hi_X2_hasCompany_9 hT) (fun hc4 => ?_) (fun hc4 => ?_)
    · have hc4 : x < (P 0 3) := hc4
      refine v_push (1) (hi_X2_hasCompany_12 hT) rfl ?_
      refine v_goto (hi_X2_hasCompany_13 hT) ?_
      refine v_ret (hi_X2_hasCompany_17 hT) (Or.inl rfl) ?_
      show vP D T N 145 8 h [some (2, 0), some (0, x), none] [(0, 1)] _
      refine v_if (hi_X11_best_8 hT) (fun hc5 => absurd (show (1 : Int) = 0 from hc5) (by decide)) (fun _ => ?_)
      exact k1 hc1 hc4
    · have hc4 : (P 0 3) ≤ x := Int.not_lt.mp hc4
      refine v_push (0) (hi_X2_hasCompany_16 hT) rfl ?_
      refine v_ret (hi_X2_hasCompany_17 hT) (Or.inl rfl) ?_
      show vP D T N 145 8 h [some (2, 0), some (0, x), none] [(0, 0)] _
      refine v_if (hi_X11_best_8 hT) (fun _ => ?_) (fun hc6 => absurd (show (0 : Int) = 0 from (by decide)) hc6)
      refine v_load (v := (2, 0)) (hi_X11_best_11 hT) rfl rfl ?_
      refine v_push (2) (hi_X11_best_12 hT) rfl ?_
      refine v_call (w := 2) [some (2, 0), some (0, 2)] hO (hi_X11_best_13 hT) rfl rfl ?_
      refine v_load (v := (2, 0)) (hi_X11_refused_0 hT) rfl rfl ?_
      refine v_load (v := (0, 2)) (hi_X11_refused_1 hT) rfl rfl ?_
      refine v_putf (r := 0) hO (hi_X11_refused_2 hT) rfl (fun hf7 => ?_)
      refine v_push (-1) (hi_X11_refused_5 hT) rfl ?_
      refine v_ret (hi_X11_refused_6 hT) (Or.inl rfl) ?_
      show vP D T N 145 16 (zset h 0 0 (0, 2)) [some (2, 0), some (0, x), none] [(0, -1)] _
      refine v_ret (hi_X11_best_16 hT) (Or.inl rfl) ?_
      exact k2 hc1 hc4
theorem qt_best17_39 {D : zD} {T : zT} (hT : hTab T) (hO : vOK T) {N : Nat} {h : zH} {Q : zR → Prop} {a : Nat} (hv0 : zHv h) (e7 : h 0 7 = (2, 39))
    (k0 : vP D T N 135 0 h [some (2, 100), some (2, 39), none] [] (fun r1 => vP D T N 145 28 r1.1 [some (2, 0), some (0, (a : Int)), none] (zpush r1.2 []) Q)) :
    vP D T N 145 17 h [some (2, 0), some (0, (a : Int)), none] [] Q := by
  refine v_load (v := (2, 0)) (hz_X11_best hT _ _ rfl) rfl rfl ?_
  refine v_getR (c := 100) (r := 0) (hz_X11_best hT _ _ rfl) rfl rfl rfl ?_
  refine v_load (v := (2, 0)) (hz_X11_best hT _ _ rfl) rfl rfl ?_
  refine v_getf (v := (2, 39)) (r := 0) (hz_X11_best hT _ _ rfl) rfl rfl (fun _ => e7) ?_
  refine v_call (w := 3) [some (2, 100), some (2, 39), none] hO (hz_X11_best hT _ _ rfl) rfl rfl ?_
  exact k0 
theorem qt_best28_39 {D : zD} {T : zT} (hT : hTab T) (hO : vOK T) {N : Nat} {h : zH} {Q : zR → Prop} {P : PT} {a : Nat} (hv0 : zHv h) (e7 : h 0 7 = (2, 39)) (ha : a < 6) (s6 : h 45 a = (0, P 6 a)) (s7 : h 46 a = (0, P 7 a))
    (k0 : (0 ≤ (a : Int)) → ((a : Int) < 6) → vP D T N 136 0 h [some (2, 100), some (2, 39), some (0, (P 6 a)), some (0, (P 7 a)), none, none, none, none, none] [] (fun r1 => vP D T N 145 57 r1.1 [some (2, 0), some (0, (a : Int)), none] (zpush r1.2 []) Q)) :
    vP D T N 145 28 h [some (2, 0), some (0, (a : Int)), none] [] Q := by
  refine v_load (v := (2, 0)) (hz_X11_best hT _ _ rfl) rfl rfl ?_
  refine v_getR (c := 100) (r := 0) (hz_X11_best hT _ _ rfl) rfl rfl rfl ?_
  refine v_load (v := (2, 0)) (hz_X11_best hT _ _ rfl) rfl rfl ?_
  refine v_getf (v := (2, 39)) (r := 0) (hz_X11_best hT _ _ rfl) rfl rfl (fun _ => e7) ?_
  refine v_load (v := (2, 0)) (hz_X11_best hT _ _ rfl) rfl rfl ?_
  refine v_getf (v := (2, 39)) (r := 0) (hz_X11_best hT _ _ rfl) rfl rfl (fun _ => e7) ?_
  refine v_getR (c := 45) (r := 39) (hz_X11_best hT _ _ rfl) rfl rfl rfl ?_
  refine v_load (v := (0, (a : Int))) (hz_X11_best hT _ _ rfl) rfl rfl ?_
  refine v_aldB (t := 0) (r := 45) (w := (P 6 a)) (hz_X11_best hT _ _ rfl) rfl rfl rfl (fun _ _ => (congrArg Prod.snd s6)) (fun ha1 hb2 => ?_)
  refine v_load (v := (2, 0)) (hz_X11_best hT _ _ rfl) rfl rfl ?_
  refine v_getf (v := (2, 39)) (r := 0) (hz_X11_best hT _ _ rfl) rfl rfl (fun _ => e7) ?_
  refine v_getR (c := 46) (r := 39) (hz_X11_best hT _ _ rfl) rfl rfl rfl ?_
  refine v_load (v := (0, (a : Int))) (hz_X11_best hT _ _ rfl) rfl rfl ?_
  refine v_aldB (t := 0) (r := 46) (w := (P 7 a)) (hz_X11_best hT _ _ rfl) rfl rfl rfl (fun _ _ => (congrArg Prod.snd s7)) (fun ha3 hb4 => ?_)
  refine v_call (w := 9) [some (2, 100), some (2, 39), some (0, (P 6 a)), some (0, (P 7 a)), none, none, none, none, none] hO (hz_X11_best hT _ _ rfl) rfl rfl ?_
  exact k0 ha1 hb2
section CA_39
variable {D : zD} {T : zT} {N : Nat} {h : zH} {P : PT}
theorem cq_best_39 (hT : hTab T) (hO : vOK T) (hP : cP 39 P h) (hb : fB P) (e7 : h 0 7 = (2, 39)) (x : Int) : vP D T N 145 0 h [some (2, 0), some (0, x), none] [] (fun r => r.2 = some (0, bsV P x)) := by
  have lb := hb.1
  have l6 := lb.2.2.2.2
  have no : ¬ okM P x → (some ((0, -1) : zV)) = some (0, bsV P x) := fun c => by
    unfold bsV
    rw [if_neg c]
  refine vP_hv (fun hv => qt_best0_39 (P := P) hT hO x hv e7 hP.1.1 hP.1.2.1 hP.1.2.2.1 hP.1.2.2.2.1 lb ?k0 ?k1 ?k2)
  case k1 =>
    intro c1 c2
    obtain ⟨a, rfl⟩ : ∃ a : Nat, x = (a : Int) := ⟨x.toNat, by omega⟩
    have e2 : bsV P (a : Int) = yCost P (gCg P) (P 6 a).toNat (P 7 a).toNat := if_pos ⟨c1, c2⟩
    rw [e2]
    obtain ⟨_, ⟨b6, g6⟩, ⟨b7, g7⟩, _⟩ := hb.2.2.2 a c2
    refine vP_hv (fun hv => qt_best17_39 hT hO hv e7 ?_)
    refine cx_lg_39 hT hO hP hb (fun g u1 u2 => ?_)
    show vP D T N 145 28 g [some (2, 0), some (0, (a : Int)), none] [] _
    have hP1 : cP 39 P g := hP.eq (fun i k h1 h2 => u2 i k (by omega))
    refine vP_hv (fun hv => qt_best28_39 hT hO hv ((u2 0 7 (by omega)).trans e7) (by omega) (hP1.a6 a c2) (hP1.a7 a c2) (fun _ _ => ?_))
    refine cx_me_39 hT hO _ _ (P 6 a).toNat (P 7 a).toNat (by omega) (by omega) lb hP1.1.1 hP1.1.2.1 u1 (fun i hi => gCg_b hb hi) g6 g7 (dW_ok (P := P) (co := gCg P) (to := (P 7 a).toNat)) ?_
    intro g2 f v1 v2 v3 v4 v5
    show vP D T N 145 57 g2 [some (2, 0), some (0, (a : Int)), none] [(0, yCost P (gCg P) (P 6 a).toNat (P 7 a).toNat)] _
    exact vP_hv (fun hv => qt_best57 hT hO _ hv (fun e => by rw [e]) (fun _ => rfl))
  all_goals
    intros
    exact no (by rintro ⟨o1, o2⟩; omega)
end CA_39
