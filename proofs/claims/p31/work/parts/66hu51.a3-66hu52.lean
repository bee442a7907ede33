section
theorem qs_best0 {D : zD} {T : zT} (hT : hTab T) (hO : vOK T) {N : Nat} {h : zH} {Q : zR → Prop} {P : PT} (x : Int) (hv0 : zHv h) (p0 : h 126 0 = (0, P 0 0)) (p1 : h 126 1 = (0, P 0 1)) (p2 : h 126 2 = (0, P 0 2)) (p3 : h 126 3 = (0, P 0 3)) (lb : (0 ≤ P 0 0 ∧ P 0 0 ≤ 8) ∧ (0 ≤ P 0 1 ∧ P 0 1 ≤ 6) ∧ (0 ≤ P 0 2 ∧ P 0 2 ≤ 3) ∧ (0 ≤ P 0 3 ∧ P 0 3 ≤ 6))
    (k0 : (x < 0) → Q (zset (zset (zset h 121 1 (0, 0)) 121 0 (0, 0)) 121 0 (0, 2), some (0, -1)))
    (k1 : (0 ≤ x) → (((P 0 3) - 1) < x) → Q (zset (zset (zset h 121 1 (0, 0)) 121 0 (0, 0)) 121 0 (0, 2), some (0, -1)))
    (k2 : (0 ≤ x) → (x ≤ ((P 0 3) - 1)) → vP D T N 201 24 (zset (zset h 121 1 (0, 0)) 121 0 (0, 0)) [some (2, 121), some (0, x), none] [] Q) :
    vP D T N 201 0 h [some (2, 121), some (0, x), none] [] Q := by
  refine v_load (v := (2, 121)) (hz_X12_best hT _ _ rfl) rfl rfl ?_
  refine v_push (0) (hz_X12_best hT _ _ rfl) rfl ?_
  refine v_putf (r := 121) hO (hz_X12_best hT _ _ rfl) rfl (fun hf1 => ?_)
  refine v_load (v := (2, 121)) (hz_X12_best hT _ _ rfl) rfl rfl ?_
  refine v_push (0) (hz_X12_best hT _ _ rfl) rfl ?_
  refine v_putf (r := 121) hO (hz_X12_best hT _ _ rfl) rfl (fun hf2 => ?_)
  refine v_load (v := (2, 121)) (hz_X12_best hT _ _ rfl) rfl rfl ?_
  refine v_load (v := (0, x)) (hz_X12_best hT _ _ rfl) rfl rfl ?_
  refine v_call (w := 2) [some (2, 121), some (0, x)] hO (hz_X12_best hT _ _ rfl) rfl rfl ?_
  refine v_load (v := (0, x)) (hi_X12_isCompanyAt_0 hT) rfl rfl ?_
  refine v_i2l (hi_X12_isCompanyAt_1 hT) ?_
  refine v_push (0) (hi_X12_isCompanyAt_2 hT) rfl ?_
  refine v_load (v := (2, 121)) (hi_X12_isCompanyAt_3 hT) rfl rfl ?_
  refine v_getR (c := 126) (r := 121) (hi_X12_isCompanyAt_4 hT) rfl rfl rfl ?_
  refine v_push (3) (hi_X12_isCompanyAt_7 hT) rfl ?_
  refine v_aldV (v := (0, (P 0 3))) (r := 126) (hi_X12_isCompanyAt_8 hT) rfl rfl (fun _ _ _ => (Eq.trans (Eq.trans (zset_ne (fun c => absurd c.1 (by decide))) (zset_ne (fun c => absurd c.1 (by decide)))) (p3))) (fun ha3 hb4 => ?_)
  refine v_push (1) (hi_X12_isCompanyAt_9 hT) rfl ?_
  refine v_bin (w := ((P 0 3) - 1)) (hi_X12_isCompanyAt_10 hT) (hq_sub (by omega) (by omega)) ?_
  refine v_i2l (hi_X12_isCompanyAt_11 hT) ?_
  refine v_call (w := 6) [some (1, x), none, some (1, 0), none, some (1, ((P 0 3) - 1)), none] hO (hi_X12_isCompanyAt_12 hT) rfl rfl ?_
  refine v_load (v := (1, x)) (hi_X12_isIn_0 hT) rfl rfl ?_
  refine v_load (v := (1, 0)) (hi_X12_isIn_1 hT) rfl rfl ?_
  refine v_lif (hi_X12_isIn_2 hT) (hi_X12_isIn_3 hT) (fun hc5 => ?_) (fun hc5 => ?_)
  · have hc5 : x < 0 := hc5
    refine v_push (0) (hi_X12_isIn_17 hT) rfl ?_
    refine v_ret (hi_X12_isIn_18 hT) (Or.inl rfl) ?_
    show vP D T N 246 15 (zset (zset h 121 1 (0, 0)) 121 0 (0, 0)) [some (2, 121), some (0, x)] [(0, 0)] _
    refine v_ret (hi_X12_isCompanyAt_15 hT) (Or.inl rfl) ?_
    show vP D T N 201 15 (zset (zset h 121 1 (0, 0)) 121 0 (0, 0)) [some (2, 121), some (0, x), none] [(0, 0)] _
    refine v_if (hz_X12_best hT _ _ rfl) (fun _ => ?_) (fun hc6 => absurd (show (0 : Int) = 0 from (by decide)) hc6)
    refine v_load (v := (2, 121)) (hz_X12_best hT _ _ rfl) rfl rfl ?_
    refine v_push (2) (hz_X12_best hT _ _ rfl) rfl ?_
    refine v_call (w := 2) [some (2, 121), some (0, 2)] hO (hz_X12_best hT _ _ rfl) rfl rfl ?_
    refine v_load (v := (2, 121)) (hi_X12_refuse_0 hT) rfl rfl ?_
    refine v_load (v := (0, 2)) (hi_X12_refuse_1 hT) rfl rfl ?_
    refine v_putf (r := 121) hO (hi_X12_refuse_2 hT) rfl (fun hf7 => ?_)
    refine v_push (-1) (hi_X12_refuse_5 hT) rfl ?_
    refine v_ret (hi_X12_refuse_6 hT) (Or.inl rfl) ?_
    show vP D T N 201 23 (zset (zset (zset h 121 1 (0, 0)) 121 0 (0, 0)) 121 0 (0, 2)) [some (2, 121), some (0, x), none] [(0, -1)] _
    refine v_ret (hz_X12_best hT _ _ rfl) (Or.inl rfl) ?_
    exact k0 hc5
  · have hc5 : 0 ≤ x := Int.not_lt.mp hc5
    refine v_load (v := (1, x)) (hi_X12_isIn_6 hT) rfl rfl ?_
    refine v_load (v := (1, ((P 0 3) - 1))) (hi_X12_isIn_7 hT) rfl rfl ?_
    refine v_lif (hi_X12_isIn_9 hT) (hi_X12_isIn_10 hT) (fun hc8 => ?_) (fun hc8 => ?_)
    · have hc8 : ((P 0 3) - 1) < x := hc8
      refine v_push (0) (hi_X12_isIn_17 hT) rfl ?_
      refine v_ret (hi_X12_isIn_18 hT) (Or.inl rfl) ?_
      show vP D T N 246 15 (zset (zset h 121 1 (0, 0)) 121 0 (0, 0)) [some (2, 121), some (0, x)] [(0, 0)] _
      refine v_ret (hi_X12_isCompanyAt_15 hT) (Or.inl rfl) ?_
      show vP D T N 201 15 (zset (zset h 121 1 (0, 0)) 121 0 (0, 0)) [some (2, 121), some (0, x), none] [(0, 0)] _
      refine v_if (hz_X12_best hT _ _ rfl) (fun _ => ?_) (fun hc9 => absurd (show (0 : Int) = 0 from (by decide)) hc9)
      refine v_load (v := (2, 121)) (hz_X12_best hT _ _ rfl) rfl rfl ?_
      refine v_push (2) (hz_X12_best hT _ _ rfl) rfl ?_
      refine v_call (w := 2) [some (2, 121), some (0, 2)] hO (hz_X12_best hT _ _ rfl) rfl rfl ?_
      refine v_load (v := (2, 121)) (hi_X12_refuse_0 hT) rfl rfl ?_
      refine v_load (v := (0, 2)) (hi_X12_refuse_1 hT) rfl rfl ?_
      refine v_putf (r := 121) hO (hi_X12_refuse_2 hT) rfl (fun hf10 => ?_)
      refine v_push (-1) (hi_X12_refuse_5 hT) rfl ?_
      refine v_ret (hi_X12_refuse_6 hT) (Or.inl rfl) ?_
      show vP D T N 201 23 (zset (zset (zset h 121 1 (0, 0)) 121 0 (0, 0)) 121 0 (0, 2)) [some (2, 121), some (0, x), none] [(0, -1)] _
      refine v_ret (hz_X12_best hT _ _ rfl) (Or.inl rfl) ?_
      exact k1 hc5 hc8
    · have hc8 : x ≤ ((P 0 3) - 1) := Int.not_lt.mp hc8
      refine v_push (1) (hi_X12_isIn_13 hT) rfl ?_
      refine v_goto (hi_X12_isIn_14 hT) ?_
      refine v_ret (hi_X12_isIn_18 hT) (Or.inl rfl) ?_
      show vP D T N 246 15 (zset (zset h 121 1 (0, 0)) 121 0 (0, 0)) [some (2, 121), some (0, x)] [(0, 1)] _
      refine v_ret (hi_X12_isCompanyAt_15 hT) (Or.inl rfl) ?_
      show vP D T N 201 15 (zset (zset h 121 1 (0, 0)) 121 0 (0, 0)) [some (2, 121), some (0, x), none] [(0, 1)] _
      refine v_if (hz_X12_best hT _ _ rfl) (fun hc11 => absurd (show (1 : Int) = 0 from hc11) (by decide)) (fun _ => ?_)
      exact k2 hc5 hc8
theorem qs_best24 {D : zD} {T : zT} (hT : hTab T) (hO : vOK T) {N : Nat} {h : zH} {Q : zR → Prop} {P : PT} {a : Nat} (hv0 : zHv h) (ha : a < 6) (ea : h 126 (245 + (a : Int)).toNat = (0, ((gJ P (P 6 a).toNat : Nat) : Int))) (eg : h 126 (251 + (a : Int)).toNat = (0, ((gJ P (P 7 a).toNat : Nat) : Int)))
    (k0 : (0 ≤ (245 + (a : Int))) → ((245 + (a : Int)) < 2750) → (0 ≤ (251 + (a : Int))) → ((251 + (a : Int)) < 2750) → vP D T N 336 0 h [some (2, 121), some (0, -1), some (0, ((gJ P (P 6 a).toNat : Nat) : Int)), some (0, ((gJ P (P 7 a).toNat : Nat) : Int)), none, none, none, none] [] (fun r1 => vP D T N 201 49 r1.1 [some (2, 121), some (0, (a : Int)), none] (zpush r1.2 []) Q)) :
    vP D T N 201 24 h [some (2, 121), some (0, (a : Int)), none] [] Q := by
  refine v_load (v := (2, 121)) (hz_X12_best hT _ _ rfl) rfl rfl ?_
  refine v_push (-1) (hz_X12_best hT _ _ rfl) rfl ?_
  refine v_load (v := (2, 121)) (hz_X12_best hT _ _ rfl) rfl rfl ?_
  refine v_getR (c := 126) (r := 121) (hz_X12_best hT _ _ rfl) rfl rfl rfl ?_
  refine v_push (245) (hz_X12_best hT _ _ rfl) rfl ?_
  refine v_load (v := (0, (a : Int))) (hz_X12_best hT _ _ rfl) rfl rfl ?_
  refine v_bin (w := (245 + (a : Int))) (hz_X12_best hT _ _ rfl) (hq_add (by omega) (by omega)) ?_
  refine v_aldB (t := 0) (r := 126) (w := ((gJ P (P 6 a).toNat : Nat) : Int)) (hz_X12_best hT _ _ rfl) rfl rfl rfl (fun _ _ => (congrArg Prod.snd ea)) (fun ha1 hb2 => ?_)
  refine v_load (v := (2, 121)) (hz_X12_best hT _ _ rfl) rfl rfl ?_
  refine v_getR (c := 126) (r := 121) (hz_X12_best hT _ _ rfl) rfl rfl rfl ?_
  refine v_push (251) (hz_X12_best hT _ _ rfl) rfl ?_
  refine v_load (v := (0, (a : Int))) (hz_X12_best hT _ _ rfl) rfl rfl ?_
  refine v_bin (w := (251 + (a : Int))) (hz_X12_best hT _ _ rfl) (hq_add (by omega) (by omega)) ?_
  refine v_aldB (t := 0) (r := 126) (w := ((gJ P (P 7 a).toNat : Nat) : Int)) (hz_X12_best hT _ _ rfl) rfl rfl rfl (fun _ _ => (congrArg Prod.snd eg)) (fun ha3 hb4 => ?_)
  refine v_call (w := 8) [some (2, 121), some (0, -1), some (0, ((gJ P (P 6 a).toNat : Nat) : Int)), some (0, ((gJ P (P 7 a).toNat : Nat) : Int)), none, none, none, none] hO (hz_X12_best hT _ _ rfl) rfl rfl ?_
  exact k0 ha1 hb2 ha3 hb4
theorem qs_best49 {D : zD} {T : zT} (hT : hTab T) (hO : vOK T) {N : Nat} {h : zH} {Q : zR → Prop} {a : Nat} (w : Int) (hv0 : zHv h)
    (k0 : (w = 1000000) → Q (zset h 121 0 (0, 9), some (0, -1)))
    (k1 : (w ≠ 1000000) → Q (h, some (0, w))) :
    vP D T N 201 49 h [some (2, 121), some (0, (a : Int)), none] [(0, w)] Q := by
  refine v_store1 [some (2, 121), some (0, (a : Int)), some (0, w)] (hz_X12_best hT _ _ rfl) ⟨rfl, Nat.ne_of_beq_eq_false rfl⟩ (Nat.le_of_ble_eq_true rfl) rfl ?_
  refine v_load (v := (0, w)) (hz_X12_best hT _ _ rfl) rfl rfl ?_
  refine v_push (1000000) (hz_X12_best hT _ _ rfl) rfl ?_
  refine v_ic (hz_X12_best hT _ _ rfl) (fun hc1 => ?_) (fun hc1 => ?_)
  · have hc1 : w = 1000000 := hc1
    refine v_load (v := (2, 121)) (hz_X12_best hT _ _ rfl) rfl rfl ?_
    refine v_push (9) (hz_X12_best hT _ _ rfl) rfl ?_
    refine v_call (w := 2) [some (2, 121), some (0, 9)] hO (hz_X12_best hT _ _ rfl) rfl rfl ?_
    refine v_load (v := (2, 121)) (hi_X12_refuse_0 hT) rfl rfl ?_
    refine v_load (v := (0, 9)) (hi_X12_refuse_1 hT) rfl rfl ?_
    refine v_putf (r := 121) hO (hi_X12_refuse_2 hT) rfl (fun hf2 => ?_)
    refine v_push (-1) (hi_X12_refuse_5 hT) rfl ?_
    refine v_ret (hi_X12_refuse_6 hT) (Or.inl rfl) ?_
    show vP D T N 201 63 (zset h 121 0 (0, 9)) [some (2, 121), some (0, (a : Int)), some (0, w)] [(0, -1)] _
    refine v_goto (hz_X12_best hT _ _ rfl) ?_
    refine v_ret (hz_X12_best hT _ _ rfl) (Or.inl rfl) ?_
    exact k0 hc1
  · have hc1 : w ≠ 1000000 := hc1
    refine v_load (v := (0, w)) (hz_X12_best hT _ _ rfl) rfl rfl ?_
    refine v_ret (hz_X12_best hT _ _ rfl) (Or.inl rfl) ?_
    exact k1 hc1
section RA
variable {D : zD} {T : zT} {N : Nat} {h : zH} {P : PT}
theorem rq_best (hT : hTab T) (hO : vOK T) (hR : rBk 0 P h) (hb : fB P) (x : Int) : vP D T N 201 0 h [some (2, 121), some (0, x), none] [] (fun r => r.2 = some (0, bsV P x)) := by
  have lb := hb.1
  have l6 := lb.2.2.2.2
  have w6 : wFar = 1000000 := rfl
  have hR2 : rBk 0 P (zset (zset h 121 1 (0, 0)) 121 0 (0, 0)) := (hR.z1 lb).z1 lb
  have no : ¬ okM P x → (some ((0, -1) : zV)) = some (0, bsV P x) := fun c => by
    unfold bsV
    rw [if_neg c]
  refine vP_hv (fun hv => qs_best0 (P := P) hT hO x hv hR.w hR.r hR.c hR.m lb ?k0 ?k1 ?k2)
  case k2 =>
    intro c1 c2
    obtain ⟨a, rfl⟩ : ∃ a : Nat, x = (a : Int) := ⟨x.toNat, by omega⟩
    have c2 : (a : Int) < P 0 3 := by omega
    have e2 : bsV P (a : Int) = yCost P (gCg P) (P 6 a).toNat (P 7 a).toNat := if_pos ⟨c1, c2⟩
    rw [e2]
    obtain ⟨_, ⟨b6, g6⟩, ⟨b7, g7⟩, _⟩ := hb.2.2.2 a c2
    refine vP_hv (fun hv => qs_best24 (P := P) hT hO hv (by omega) (hR2.at c2) (hR2.go c2) (fun _ _ _ _ => ?_))
    refine rx_wo hT hO (-1) (P 6 a).toNat (P 7 a).toNat hR2 hb (by decide) (by decide) g6 g7 (co := gCg P) (fun q gq => ?_) ?_
    · have e1 : gCg P q = gGr P q := if_neg (by rw [gIx_y gq]; decide)
      have e2 : rC P (-1) q = gGr P q := if_pos (by decide)
      rw [e1, e2]
    · intro g d u1 hD hp
      have hDW := dW_ok (P := P) (co := gCg P) (to := (P 7 a).toNat)
      have ed : d (P 6 a).toNat = dW P (gCg P) (P 7 a).toNat (P 6 a).toNat := wD_uni g100_p hD hDW g6
      have bd := hDW.2.1.1 (P 6 a).toNat g6
      rw [ed]
      show vP D T N 201 49 g [some (2, 121), some (0, (a : Int)), none] [(0, if dW P (gCg P) (P 7 a).toNat (P 6 a).toNat = 1000000 then 1000000 else dW P (gCg P) (P 7 a).toNat (P 6 a).toNat / 100)] _
      by_cases c : dW P (gCg P) (P 7 a).toNat (P 6 a).toNat = 1000000
      · have e3 : yCost P (gCg P) (P 6 a).toNat (P 7 a).toNat = -1 := if_neg (by omega)
        rw [if_pos c, e3]
        exact vP_hv (fun hv => qs_best49 hT hO _ hv (fun _ => rfl) (fun f => absurd rfl f))
      · have e3 : yCost P (gCg P) (P 6 a).toNat (P 7 a).toNat = dW P (gCg P) (P 7 a).toNat (P 6 a).toNat / 100 := if_pos (by omega)
        rw [if_neg c, e3]
        exact vP_hv (fun hv => qs_best49 hT hO _ hv (fun f => by omega) (fun _ => rfl))
  all_goals
    intros
    exact no (by rintro ⟨o1, o2⟩; omega)
end RA
end
section
theorem fRa_best {D : zD} (_ : ∀ i, -2147483648 ≤ D.2 i ∧ D.2 i ≤ 2147483647) {h h1 h2 : zH} {x v1 v2 : Int} (hZ : lZ D h) (hZ1 : lZ D h1) (hR : fR h) (z1 : zRun D TLw 614 145 0 (h, zargs 0 [(2, 0), (0, x)], []) (h1, some (0, v1))) (f1 : aFr lM_145 h h1) (z2 : zRun D TLw 614 201 0 (h1, zargs 0 [(2, 121), (0, x)], []) (h2, some (0, v2))) (f2 : aFr lM_201 h1 h2) : fR h2 ∧ v1 = v2 := by
  refine ⟨fR_S.fr (M := lM_201) (by decide +kernel) f2 (fR_S.fr (M := lM_145) (by decide +kernel) f1 hR), ?_⟩
  obtain ⟨hL, hM, r, c, s1, s2, s3, P, p1, p2, p3, p4, o⟩ := hR
  have a1 : v1 = bsV P x := by
    rcases s1 with ⟨rfl, rfl⟩ | ⟨rfl, rfl⟩
    · have q3 := hZ.run 3 z1 (Q := fun r => r.2 = some (0, bsV P x)) (fun N => cq_best_39 TLw_T vOK_T p1 p3 s2 x)
      cases (q3 : some ((0, v1) : zV) = some (0, bsV P x)); rfl
    · have q3 := hZ.run 3 z1 (Q := fun r => r.2 = some (0, bsV P x)) (fun N => cq_best_24 TLw_T vOK_T p1 p3 s2 x)
      cases (q3 : some ((0, v1) : zV) = some (0, bsV P x)); rfl
  have hR1 : rBk 0 P h1 := p2.eq p3.1 (fun b _ hb => f1.keep (S := [(126, 0, 274)]) (by decide +kernel) ⟨(126, 0, 274), List.mem_cons_self, rfl, Nat.zero_le _, show b ≤ 274 by omega⟩)
  have r3 := hZ1.run 3 z2 (Q := fun r => r.2 = some (0, bsV P x)) (fun N => rq_best TLw_T vOK_T hR1 p3 x)
  have r3 : v2 = bsV P x := by cases (r3 : some ((0, v2) : zV) = some (0, bsV P x)); rfl
  exact a1.trans r3.symm
end
