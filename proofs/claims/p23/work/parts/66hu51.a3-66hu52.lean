section
theorem qs_unlike0 {D : zD} {T : zT} (hT : hTab T) (hO : vOK T) {N : Nat} {h : zH} {Q : zR → Prop} {P : PT} (x y : Int) (hv0 : zHv h) (p0 : h 126 0 = (0, P 0 0)) (p1 : h 126 1 = (0, P 0 1)) (p2 : h 126 2 = (0, P 0 2)) (p3 : h 126 3 = (0, P 0 3)) (lb : (0 ≤ P 0 0 ∧ P 0 0 ≤ 8) ∧ (0 ≤ P 0 1 ∧ P 0 1 ≤ 6) ∧ (0 ≤ P 0 2 ∧ P 0 2 ≤ 3) ∧ (0 ≤ P 0 3 ∧ P 0 3 ≤ 6))
    (k0 : (x < 0) → Q (zset (zset (zset h 121 1 (0, 0)) 121 0 (0, 0)) 121 0 (0, 2), some (0, -1)))
    (k1 : (0 ≤ x) → (((P 0 2) - 1) < x) → Q (zset (zset (zset h 121 1 (0, 0)) 121 0 (0, 0)) 121 0 (0, 2), some (0, -1)))
    (k2 : (0 ≤ x) → (x ≤ ((P 0 2) - 1)) → (y < 0) → Q (zset (zset (zset h 121 1 (0, 0)) 121 0 (0, 0)) 121 0 (0, 2), some (0, -1)))
    (k3 : (0 ≤ x) → (x ≤ ((P 0 2) - 1)) → (0 ≤ y) → (((P 0 2) - 1) < y) → Q (zset (zset (zset h 121 1 (0, 0)) 121 0 (0, 0)) 121 0 (0, 2), some (0, -1)))
    (k4 : (0 ≤ x) → (x ≤ ((P 0 2) - 1)) → (0 ≤ y) → (y ≤ ((P 0 2) - 1)) → vP D T N 332 26 (zset (zset h 121 1 (0, 0)) 121 0 (0, 0)) [some (2, 121), some (0, x), some (0, y)] [] Q) :
    vP D T N 332 0 h [some (2, 121), some (0, x), some (0, y)] [] Q := by
  refine v_load (v := (2, 121)) (hz_X12_unlike hT _ _ rfl) rfl rfl ?_
  refine v_push (0) (hz_X12_unlike hT _ _ rfl) rfl ?_
  refine v_putf (r := 121) hO (hz_X12_unlike hT _ _ rfl) rfl (fun hf1 => ?_)
  refine v_load (v := (2, 121)) (hz_X12_unlike hT _ _ rfl) rfl rfl ?_
  refine v_push (0) (hz_X12_unlike hT _ _ rfl) rfl ?_
  refine v_putf (r := 121) hO (hz_X12_unlike hT _ _ rfl) rfl (fun hf2 => ?_)
  refine v_load (v := (2, 121)) (hz_X12_unlike hT _ _ rfl) rfl rfl ?_
  refine v_load (v := (0, x)) (hz_X12_unlike hT _ _ rfl) rfl rfl ?_
  refine v_call (w := 2) [some (2, 121), some (0, x)] hO (hz_X12_unlike hT _ _ rfl) rfl rfl ?_
  refine v_load (v := (0, x)) (hi_X12_isCopy_0 hT) rfl rfl ?_
  refine v_i2l (hi_X12_isCopy_1 hT) ?_
  refine v_push (0) (hi_X12_isCopy_2 hT) rfl ?_
  refine v_load (v := (2, 121)) (hi_X12_isCopy_3 hT) rfl rfl ?_
  refine v_getR (c := 126) (r := 121) (hi_X12_isCopy_4 hT) rfl rfl rfl ?_
  refine v_push (2) (hi_X12_isCopy_7 hT) rfl ?_
  refine v_aldV (v := (0, (P 0 2))) (r := 126) (hi_X12_isCopy_8 hT) rfl rfl (fun _ _ _ => (Eq.trans (Eq.trans (zset_ne (fun c => absurd c.1 (by decide))) (zset_ne (fun c => absurd c.1 (by decide)))) (p2))) (fun ha3 hb4 => ?_)
  refine v_push (1) (hi_X12_isCopy_9 hT) rfl ?_
  refine v_bin (w := ((P 0 2) - 1)) (hi_X12_isCopy_10 hT) (hq_sub (by omega) (by omega)) ?_
  refine v_i2l (hi_X12_isCopy_11 hT) ?_
  refine v_call (w := 6) [some (1, x), none, some (1, 0), none, some (1, ((P 0 2) - 1)), none] hO (hi_X12_isCopy_12 hT) rfl rfl ?_
  refine v_load (v := (1, x)) (hi_X12_isIn_0 hT) rfl rfl ?_
  refine v_load (v := (1, 0)) (hi_X12_isIn_1 hT) rfl rfl ?_
  refine v_lif (hi_X12_isIn_2 hT) (hi_X12_isIn_3 hT) (fun hc5 => ?_) (fun hc5 => ?_)
  · have hc5 : x < 0 := hc5
    refine v_push (0) (hi_X12_isIn_17 hT) rfl ?_
    refine v_ret (hi_X12_isIn_18 hT) (Or.inl rfl) ?_
    show vP D T N 248 15 (zset (zset h 121 1 (0, 0)) 121 0 (0, 0)) [some (2, 121), some (0, x)] [(0, 0)] _
    refine v_ret (hi_X12_isCopy_15 hT) (Or.inl rfl) ?_
    show vP D T N 332 15 (zset (zset h 121 1 (0, 0)) 121 0 (0, 0)) [some (2, 121), some (0, x), some (0, y)] [(0, 0)] _
    refine v_if (hz_X12_unlike hT _ _ rfl) (fun _ => ?_) (fun hc6 => absurd (show (0 : Int) = 0 from (by decide)) hc6)
    refine v_load (v := (2, 121)) (hi_X12_unlike_35 hT) rfl rfl ?_
    refine v_push (2) (hi_X12_unlike_36 hT) rfl ?_
    refine v_call (w := 2) [some (2, 121), some (0, 2)] hO (hi_X12_unlike_37 hT) rfl rfl ?_
    refine v_load (v := (2, 121)) (hi_X12_refuse_0 hT) rfl rfl ?_
    refine v_load (v := (0, 2)) (hi_X12_refuse_1 hT) rfl rfl ?_
    refine v_putf (r := 121) hO (hi_X12_refuse_2 hT) rfl (fun hf7 => ?_)
    refine v_push (-1) (hi_X12_refuse_5 hT) rfl ?_
    refine v_ret (hi_X12_refuse_6 hT) (Or.inl rfl) ?_
    show vP D T N 332 40 (zset (zset (zset h 121 1 (0, 0)) 121 0 (0, 0)) 121 0 (0, 2)) [some (2, 121), some (0, x), some (0, y)] [(0, -1)] _
    refine v_ret (hi_X12_unlike_40 hT) (Or.inl rfl) ?_
    exact k0 hc5
  · have hc5 : 0 ≤ x := Int.not_lt.mp hc5
    refine v_load (v := (1, x)) (hi_X12_isIn_6 hT) rfl rfl ?_
    refine v_load (v := (1, ((P 0 2) - 1))) (hi_X12_isIn_7 hT) rfl rfl ?_
    refine v_lif (hi_X12_isIn_9 hT) (hi_X12_isIn_10 hT) (fun hc8 => ?_) (fun hc8 => ?_)
    · have hc8 : ((P 0 2) - 1) < x := hc8
      refine v_push (0) (hi_X12_isIn_17 hT) rfl ?_
      refine v_ret (hi_X12_isIn_18 hT) (Or.inl rfl) ?_
      show vP D T N 248 15 (zset (zset h 121 1 (0, 0)) 121 0 (0, 0)) [some (2, 121), some (0, x)] [(0, 0)] _
      refine v_ret (hi_X12_isCopy_15 hT) (Or.inl rfl) ?_
      show vP D T N 332 15 (zset (zset h 121 1 (0, 0)) 121 0 (0, 0)) [some (2, 121), some (0, x), some (0, y)] [(0, 0)] _
      refine v_if (hz_X12_unlike hT _ _ rfl) (fun _ => ?_) (fun hc9 => absurd (show (0 : Int) = 0 from (by decide)) hc9)
      refine v_load (v := (2, 121)) (hi_X12_unlike_35 hT) rfl rfl ?_
      refine v_push (2) (hi_X12_unlike_36 hT) rfl ?_
      refine v_call (w := 2) [some (2, 121), some (0, 2)] hO (hi_X12_unlike_37 hT) rfl rfl ?_
      refine v_load (v := (2, 121)) (hi_X12_refuse_0 hT) rfl rfl ?_
      refine v_load (v := (0, 2)) (hi_X12_refuse_1 hT) rfl rfl ?_
      refine v_putf (r := 121) hO (hi_X12_refuse_2 hT) rfl (fun hf10 => ?_)
      refine v_push (-1) (hi_X12_refuse_5 hT) rfl ?_
      refine v_ret (hi_X12_refuse_6 hT) (Or.inl rfl) ?_
      show vP D T N 332 40 (zset (zset (zset h 121 1 (0, 0)) 121 0 (0, 0)) 121 0 (0, 2)) [some (2, 121), some (0, x), some (0, y)] [(0, -1)] _
      refine v_ret (hi_X12_unlike_40 hT) (Or.inl rfl) ?_
      exact k1 hc5 hc8
    · have hc8 : x ≤ ((P 0 2) - 1) := Int.not_lt.mp hc8
      refine v_push (1) (hi_X12_isIn_13 hT) rfl ?_
      refine v_goto (hi_X12_isIn_14 hT) ?_
      refine v_ret (hi_X12_isIn_18 hT) (Or.inl rfl) ?_
      show vP D T N 248 15 (zset (zset h 121 1 (0, 0)) 121 0 (0, 0)) [some (2, 121), some (0, x)] [(0, 1)] _
      refine v_ret (hi_X12_isCopy_15 hT) (Or.inl rfl) ?_
      show vP D T N 332 15 (zset (zset h 121 1 (0, 0)) 121 0 (0, 0)) [some (2, 121), some (0, x), some (0, y)] [(0, 1)] _
      refine v_if (hz_X12_unlike hT _ _ rfl) (fun hc11 => absurd (show (1 : Int) = 0 from hc11) (by decide)) (fun _ => ?_)
      refine v_load (v := (2, 121)) (hz_X12_unlike hT _ _ rfl) rfl rfl ?_
      refine v_load (v := (0, y)) (hz_X12_unlike hT _ _ rfl) rfl rfl ?_
      refine v_call (w := 2) [some (2, 121), some (0, y)] hO (hz_X12_unlike hT _ _ rfl) rfl rfl ?_
      refine v_load (v := (0, y)) (hi_X12_isCopy_0 hT) rfl rfl ?_
      refine v_i2l (hi_X12_isCopy_1 hT) ?_
      refine v_push (0) (hi_X12_isCopy_2 hT) rfl ?_
      refine v_load (v := (2, 121)) (hi_X12_isCopy_3 hT) rfl rfl ?_
      refine v_getR (c := 126) (r := 121) (hi_X12_isCopy_4 hT) rfl rfl rfl ?_
      refine v_push (2) (hi_X12_isCopy_7 hT) rfl ?_
      refine v_aldV (v := (0, (P 0 2))) (r := 126) (hi_X12_isCopy_8 hT) rfl rfl (fun _ _ _ => (Eq.trans (Eq.trans (zset_ne (fun c => absurd c.1 (by decide))) (zset_ne (fun c => absurd c.1 (by decide)))) (p2))) (fun ha12 hb13 => ?_)
      refine v_push (1) (hi_X12_isCopy_9 hT) rfl ?_
      refine v_bin (w := ((P 0 2) - 1)) (hi_X12_isCopy_10 hT) (hq_sub (by omega) (by omega)) ?_
      refine v_i2l (hi_X12_isCopy_11 hT) ?_
      refine v_call (w := 6) [some (1, y), none, some (1, 0), none, some (1, ((P 0 2) - 1)), none] hO (hi_X12_isCopy_12 hT) rfl rfl ?_
      refine v_load (v := (1, y)) (hi_X12_isIn_0 hT) rfl rfl ?_
      refine v_load (v := (1, 0)) (hi_X12_isIn_1 hT) rfl rfl ?_
      refine v_lif (hi_X12_isIn_2 hT) (hi_X12_isIn_3 hT) (fun hc14 => ?_) (fun hc14 => ?_)
      · have hc14 : y < 0 := hc14
        refine v_push (0) (hi_X12_isIn_17 hT) rfl ?_
        refine v_ret (hi_X12_isIn_18 hT) (Or.inl rfl) ?_
        show vP D T N 248 15 (zset (zset h 121 1 (0, 0)) 121 0 (0, 0)) [some (2, 121), some (0, y)] [(0, 0)] _
        refine v_ret (hi_X12_isCopy_15 hT) (Or.inl rfl) ?_
        show vP D T N 332 23 (zset (zset h 121 1 (0, 0)) 121 0 (0, 0)) [some (2, 121), some (0, x), some (0, y)] [(0, 0)] _
        refine v_if (hz_X12_unlike hT _ _ rfl) (fun _ => ?_) (fun hc15 => absurd (show (0 : Int) = 0 from (by decide)) hc15)
        refine v_load (v := (2, 121)) (hi_X12_unlike_35 hT) rfl rfl ?_
        refine v_push (2) (hi_X12_unlike_36 hT) rfl ?_
        refine v_call (w := 2) [some (2, 121), some (0, 2)] hO (hi_X12_unlike_37 hT) rfl rfl ?_
        refine v_load (v := (2, 121)) (hi_X12_refuse_0 hT) rfl rfl ?_
        refine v_load (v := (0, 2)) (hi_X12_refuse_1 hT) rfl rfl ?_
        refine v_putf (r := 121) hO (hi_X12_refuse_2 hT) rfl (fun hf16 => ?_)
        refine v_push (-1) (hi_X12_refuse_5 hT) rfl ?_
        refine v_ret (hi_X12_refuse_6 hT) (Or.inl rfl) ?_
        show vP D T N 332 40 (zset (zset (zset h 121 1 (0, 0)) 121 0 (0, 0)) 121 0 (0, 2)) [some (2, 121), some (0, x), some (0, y)] [(0, -1)] _
        refine v_ret (hi_X12_unlike_40 hT) (Or.inl rfl) ?_
        exact k2 hc5 hc8 hc14
      · have hc14 : 0 ≤ y := Int.not_lt.mp hc14
        refine v_load (v := (1, y)) (hi_X12_isIn_6 hT) rfl rfl ?_
        refine v_load (v := (1, ((P 0 2) - 1))) (hi_X12_isIn_7 hT) rfl rfl ?_
        refine v_lif (hi_X12_isIn_9 hT) (hi_X12_isIn_10 hT) (fun hc17 => ?_) (fun hc17 => ?_)
        · have hc17 : ((P 0 2) - 1) < y := hc17
          refine v_push (0) (hi_X12_isIn_17 hT) rfl ?_
          refine v_ret (hi_X12_isIn_18 hT) (Or.inl rfl) ?_
          show vP D T N 248 15 (zset (zset h 121 1 (0, 0)) 121 0 (0, 0)) [some (2, 121), some (0, y)] [(0, 0)] _
          refine v_ret (hi_X12_isCopy_15 hT) (Or.inl rfl) ?_
          show vP D T N 332 23 (zset (zset h 121 1 (0, 0)) 121 0 (0, 0)) [some (2, 121), some (0, x), some (0, y)] [(0, 0)] _
          refine v_if (hz_X12_unlike hT _ _ rfl) (fun _ => ?_) (fun hc18 => absurd (show (0 : Int) = 0 from (by decide)) hc18)
          refine v_load (v := (2, 121)) (hi_X12_unlike_35 hT) rfl rfl ?_
          refine v_push (2) (hi_X12_unlike_36 hT) rfl ?_
          refine v_call (w := 2) [some (2, 121), some (0, 2)] hO (hi_X12_unlike_37 hT) rfl rfl ?_
          refine v_load (v := (2, 121)) (hi_X12_refuse_0 hT) rfl rfl ?_
          refine v_load (v := (0, 2)) (hi_X12_refuse_1 hT) rfl rfl ?_
          refine v_putf (r := 121) hO (hi_X12_refuse_2 hT) rfl (fun hf19 => ?_)
          refine v_push (-1) (hi_X12_refuse_5 hT) rfl ?_
          refine v_ret (hi_X12_refuse_6 hT) (Or.inl rfl) ?_
          show vP D T N 332 40 (zset (zset (zset h 121 1 (0, 0)) 121 0 (0, 0)) 121 0 (0, 2)) [some (2, 121), some (0, x), some (0, y)] [(0, -1)] _
          refine v_ret (hi_X12_unlike_40 hT) (Or.inl rfl) ?_
          exact k3 hc5 hc8 hc14 hc17
        · have hc17 : y ≤ ((P 0 2) - 1) := Int.not_lt.mp hc17
          refine v_push (1) (hi_X12_isIn_13 hT) rfl ?_
          refine v_goto (hi_X12_isIn_14 hT) ?_
          refine v_ret (hi_X12_isIn_18 hT) (Or.inl rfl) ?_
          show vP D T N 248 15 (zset (zset h 121 1 (0, 0)) 121 0 (0, 0)) [some (2, 121), some (0, y)] [(0, 1)] _
          refine v_ret (hi_X12_isCopy_15 hT) (Or.inl rfl) ?_
          show vP D T N 332 23 (zset (zset h 121 1 (0, 0)) 121 0 (0, 0)) [some (2, 121), some (0, x), some (0, y)] [(0, 1)] _
          refine v_if (hz_X12_unlike hT _ _ rfl) (fun hc20 => absurd (show (1 : Int) = 0 from hc20) (by decide)) (fun _ => ?_)
          exact k4 hc5 hc8 hc14 hc17
theorem qs_unlike26 {D : zD} {T : zT} (hT : hTab T) (hO : vOK T) {N : Nat} {h : zH} {Q : zR → Prop} {j t : Nat} (hv0 : zHv h)
    (k0 : vP D T N 333 0 h [some (2, 121), some (0, (j : Int)), some (0, (t : Int)), none, none] [] (fun r1 => vP D T N 332 32 r1.1 [some (2, 121), some (0, (j : Int)), some (0, (t : Int))] (zpush r1.2 []) Q)) :
    vP D T N 332 26 h [some (2, 121), some (0, (j : Int)), some (0, (t : Int))] [] Q := by
  refine v_load (v := (2, 121)) (hz_X12_unlike hT _ _ rfl) rfl rfl ?_
  refine v_load (v := (0, (j : Int))) (hz_X12_unlike hT _ _ rfl) rfl rfl ?_
  refine v_load (v := (0, (t : Int))) (hz_X12_unlike hT _ _ rfl) rfl rfl ?_
  refine v_call (w := 5) [some (2, 121), some (0, (j : Int)), some (0, (t : Int)), none, none] hO (hz_X12_unlike hT _ _ rfl) rfl rfl ?_
  exact k0 
theorem qs_unlike32 {D : zD} {T : zT} (hT : hTab T) (hO : vOK T) {N : Nat} {h : zH} {Q : zR → Prop} {j t : Nat} (w : Int) (hv0 : zHv h)
    (k0 : Q (h, some (0, w))) :
    vP D T N 332 32 h [some (2, 121), some (0, (j : Int)), some (0, (t : Int))] [(0, w)] Q := by
  refine v_goto (hz_X12_unlike hT _ _ rfl) ?_
  refine v_ret (hi_X12_unlike_40 hT) (Or.inl rfl) ?_
  exact k0 
section RA
variable {D : zD} {T : zT} {N : Nat} {h : zH} {P : PT}
theorem rq_unlike (hT : hTab T) (hO : vOK T) (hR : rBk 0 P h) (hb : fB P) (x y : Int) : vP D T N 332 0 h [some (2, 121), some (0, x), some (0, y)] [] (fun r => r.2 = some (0, ulV P x y)) := by
  have lb := hb.1
  have l3 := lb.2.2.1.2
  have hR2 : rBk 0 P (zset (zset h 121 1 (0, 0)) 121 0 (0, 0)) := (hR.z1 lb).z1 lb
  have no : ¬ okS P x y → (some ((0, -1) : zV)) = some (0, ulV P x y) := fun c => by
    unfold ulV
    rw [if_neg c]
  refine vP_hv (fun hv => qs_unlike0 (P := P) hT hO x y hv hR.w hR.r hR.c hR.m lb ?k0 ?k1 ?k2 ?k3 ?k4)
  case k4 =>
    intro c1 c2 c3 c4
    obtain ⟨j, rfl⟩ : ∃ j : Nat, x = (j : Int) := ⟨x.toNat, by omega⟩
    obtain ⟨t, rfl⟩ : ∃ t : Nat, y = (t : Int) := ⟨y.toNat, by omega⟩
    have e2 : ulV P (j : Int) (t : Int) = ((uS P j t ((P 0 0).toNat * (P 0 1).toNat) : Nat) : Int) := if_pos ⟨c1, by omega, c3, by omega⟩
    rw [e2]
    refine vP_hv (fun hv => qs_unlike26 hT hO hv ?_)
    refine vP_hv (fun hv => qr_un0 hT hO hv ?_)
    refine rx_unL hT hO hR2 hb (by omega) (by omega) ?_ ((P 0 0).toNat * (P 0 1).toNat) 0 0 (Nat.zero_add _) rfl
    exact vP_hv (fun hv => qs_unlike32 hT hO _ hv rfl)
  all_goals
    intros
    exact no (by rintro ⟨o1, o2, o3, o4⟩; omega)
end RA
end
section
theorem fRa_unlike {D : zD} (_ : ∀ i, -2147483648 ≤ D.2 i ∧ D.2 i ≤ 2147483647) {h h1 h2 : zH} {x y v1 v2 : Int} (hZ : lZ D h) (hZ1 : lZ D h1) (hR : fR h) (z1 : zRun D TLw 614 190 0 (h, zargs 0 [(2, 0), (0, x), (0, y)], []) (h1, some (0, v1))) (f1 : aFr lM_190 h h1) (z2 : zRun D TLw 614 332 0 (h1, zargs 0 [(2, 121), (0, x), (0, y)], []) (h2, some (0, v2))) (f2 : aFr lM_332 h1 h2) : fR h2 ∧ v1 = v2 := by
  refine ⟨fR_S.fr (M := lM_332) (by decide +kernel) f2 (fR_S.fr (M := lM_190) (by decide +kernel) f1 hR), ?_⟩
  obtain ⟨hL, hM, r, c, s1, s2, s3, P, p1, p2, p3, p4, o⟩ := hR
  have a1 : v1 = ulV P x y := by
    rcases s1 with ⟨rfl, rfl⟩ | ⟨rfl, rfl⟩
    · have q3 := hZ.run 3 z1 (Q := fun r => r.2 = some (0, ulV P x y)) (fun N => cq_unlike_39 TLw_T vOK_T p1 p3 s2 x y)
      cases (q3 : some ((0, v1) : zV) = some (0, ulV P x y)); rfl
    · have q3 := hZ.run 3 z1 (Q := fun r => r.2 = some (0, ulV P x y)) (fun N => cq_unlike_24 TLw_T vOK_T p1 p3 s2 x y)
      cases (q3 : some ((0, v1) : zV) = some (0, ulV P x y)); rfl
  have hR1 : rBk 0 P h1 := p2.eq p3.1 (fun b _ hb => f1.keep (S := [(126, 0, 274)]) (by decide +kernel) ⟨(126, 0, 274), List.mem_cons_self, rfl, Nat.zero_le _, show b ≤ 274 by omega⟩)
  have r3 := hZ1.run 3 z2 (Q := fun r => r.2 = some (0, ulV P x y)) (fun N => rq_unlike TLw_T vOK_T hR1 p3 x y)
  have r3 : v2 = ulV P x y := by cases (r3 : some ((0, v2) : zV) = some (0, ulV P x y)); rfl
  exact a1.trans r3.symm
end
