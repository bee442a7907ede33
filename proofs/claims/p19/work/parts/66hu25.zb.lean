theorem qk_eat_39 {D : zD} {T : zT} (hT : hTab T) (hO : vOK T) {N : Nat} {h : zH} {Q : zR → Prop} {P : PT} {j q : Nat} (hv0 : zHv h) (hP : cP 39 P h) (hb : fB P) (hj : j < 3) (hq : q < 48)
    (k0 : ((P 3 (48 * j + q)) = 1) → Q (h, some (0, 0)))
    (k1 : ((P 3 (48 * j + q)) ≠ 1) → (0 ≤ (((j : Int) * 48) + (q : Int))) → ((((j : Int) * 48) + (q : Int)) < 144) → Q (zset (zset h 42 (((((j : Int) * 48) + (q : Int))).toNat) (0, 1)) 39 4 (0, (wA ((P 0 4)) ((gCr P q)))), some (0, 1))) :
    vP D T N 35 0 h [some (2, 39), some (0, (j : Int)), some (0, (q : Int))] [] Q := by
  refine v_load (v := (2, 39)) (hz_X2_eat hT _ _ rfl) rfl rfl ?_
  refine v_load (v := (0, (j : Int))) (hz_X2_eat hT _ _ rfl) rfl rfl ?_
  refine v_load (v := (0, (q : Int))) (hz_X2_eat hT _ _ rfl) rfl rfl ?_
  refine v_call (w := 3) [some (2, 39), some (0, (j : Int)), some (0, (q : Int))] hO (hz_X2_eat hT _ _ rfl) rfl rfl (cb_st_39 hT hO ((j : Int)) ((q : Int)) j q rfl rfl (by omega) (by omega) hP.2.2.2.1 ?_)
  show vP D T N 35 6 h [some (2, 39), some (0, (j : Int)), some (0, (q : Int))] [(0, (P 3 (48 * j + q)))] _
  refine v_push (1) (hz_X2_eat hT _ _ rfl) rfl ?_
  refine v_ic (hz_X2_eat hT _ _ rfl) (fun hc1 => ?_) (fun hc1 => ?_)
  · have hc1 : (P 3 (48 * j + q)) = 1 := hc1
    refine v_push (0) (hz_X2_eat hT _ _ rfl) rfl ?_
    refine v_ret (hz_X2_eat hT _ _ rfl) (Or.inl rfl) ?_
    exact k0 hc1
  · have hc1 : (P 3 (48 * j + q)) ≠ 1 := hc1
    refine v_load (v := (2, 39)) (hz_X2_eat hT _ _ rfl) rfl rfl ?_
    refine v_getR (c := 42) (r := 39) (hz_X2_eat hT _ _ rfl) rfl rfl rfl ?_
    refine v_load (v := (0, (j : Int))) (hz_X2_eat hT _ _ rfl) rfl rfl ?_
    refine v_push (48) (hz_X2_eat hT _ _ rfl) rfl ?_
    refine v_bin (w := ((j : Int) * 48)) (hz_X2_eat hT _ _ rfl) (hq_mul (by omega) (by omega)) ?_
    refine v_load (v := (0, (q : Int))) (hz_X2_eat hT _ _ rfl) rfl rfl ?_
    refine v_bin (w := (((j : Int) * 48) + (q : Int))) (hz_X2_eat hT _ _ rfl) (hq_add (by omega) (by omega)) ?_
    refine v_push (1) (hz_X2_eat hT _ _ rfl) rfl ?_
    refine v_ast (r := 42) (hz_X2_eat hT _ _ rfl) rfl rfl (fun ha2 hb3 hf4 => ?_)
    refine v_load (v := (2, 39)) (hz_X2_eat hT _ _ rfl) rfl rfl ?_
    refine v_dup (hz_X2_eat hT _ _ rfl) (Nat.ne_of_beq_eq_false rfl) ?_
    refine v_getf (v := (0, (P 0 4))) (r := 39) (hz_X2_eat hT _ _ rfl) rfl rfl (fun _ => Eq.trans (zset_ne (fun c => absurd c.1 (by decide))) (hP.1.2.2.2.2)) ?_
    refine v_load (v := (2, 39)) (hz_X2_eat hT _ _ rfl) rfl rfl ?_
    refine v_load (v := (0, (q : Int))) (hz_X2_eat hT _ _ rfl) rfl rfl ?_
    refine v_call (w := 2) [some (2, 39), some (0, (q : Int))] hO (hz_X2_eat hT _ _ rfl) rfl rfl (cb_cr_39 hT hO ((q : Int)) q rfl (by omega) hb (fun i hi => (zset_ne (fun c => absurd c.1 (by decide))).trans (hP.2.1 i hi)) (fun i hi => (zset_ne (fun c => absurd c.1 (by decide))).trans (hP.2.2.1 i hi)) ?_)
    show vP D T N 35 34 (zset h 42 (((((j : Int) * 48) + (q : Int))).toNat) (0, 1)) [some (2, 39), some (0, (j : Int)), some (0, (q : Int))] [(0, (gCr P q)), (0, (P 0 4)), (2, 39)] _
    refine v_bin (w := (wA ((P 0 4)) ((gCr P q)))) (hz_X2_eat hT _ _ rfl) rfl ?_
    refine v_putf (r := 39) hO (hz_X2_eat hT _ _ rfl) rfl (fun hf5 => ?_)
    refine v_push (1) (hz_X2_eat hT _ _ rfl) rfl ?_
    refine v_ret (hz_X2_eat hT _ _ rfl) (Or.inl rfl) ?_
    exact k1 hc1 ha2 hb3
theorem cb_eat_39 {D : zD} {T : zT} (hT : hTab T) (hO : vOK T) {N : Nat} {h : zH} {Q : zR → Prop} {P : PT} (x y : Int) (j q : Nat) (ex : x = (j : Int)) (ey : y = (q : Int)) (hj : j < 3) (hq : q < 48) (hP : cP 39 P h) (hb : fB P) (k1 : P 3 (48 * j + q) = 1 → Q (h, some (0, 0))) (k2 : P 3 (48 * j + q) ≠ 1 → ∀ g, cP 39 (pBite P j q) g → cFr 39 h g → Q (g, some (0, 1))) : vP D T N 35 0 h [some (2, 39), some (0, x), some (0, y)] [] Q := by
  subst ex ey
  refine vP_hv (fun hv => qk_eat_39 hT hO hv hP hb hj hq ?_ ?_)
  · intro c
    exact k1 c
  · intro c _ _
    rw [show ((j : Int) * 48 + (q : Int)).toNat = 48 * j + q from by omega]
    exact k2 c _ hP.s3.s04 (cFr.z (by omega) (cFr.z (by omega) (fun _ _ _ => rfl)))
theorem qk_mo_39 {D : zD} {T : zT} (hT : hTab T) (hO : vOK T) {N : Nat} {h : zH} {Q : zR → Prop} {P : PT} {j q : Nat} (hv0 : zHv h) (hP : cP 39 P h) (hb : fB P) (hj : j < 3) (hq : q < 48)
    (k0 : ((P 3 (48 * j + q)) = 0) → (0 ≤ (((j : Int) * 48) + (q : Int))) → ((((j : Int) * 48) + (q : Int)) < 144) → Q (zset h 42 (((((j : Int) * 48) + (q : Int))).toNat) (0, 2), some (0, 1)))
    (k1 : ((P 3 (48 * j + q)) ≠ 0) → Q (h, some (0, 0))) :
    vP D T N 39 0 h [some (2, 39), some (0, (j : Int)), some (0, (q : Int))] [] Q := by
  refine v_load (v := (2, 39)) (hz_X2_growMould hT _ _ rfl) rfl rfl ?_
  refine v_load (v := (0, (j : Int))) (hz_X2_growMould hT _ _ rfl) rfl rfl ?_
  refine v_load (v := (0, (q : Int))) (hz_X2_growMould hT _ _ rfl) rfl rfl ?_
  refine v_call (w := 3) [some (2, 39), some (0, (j : Int)), some (0, (q : Int))] hO (hz_X2_growMould hT _ _ rfl) rfl rfl (cb_st_39 hT hO ((j : Int)) ((q : Int)) j q rfl rfl (by omega) (by omega) hP.2.2.2.1 ?_)
  show vP D T N 39 6 h [some (2, 39), some (0, (j : Int)), some (0, (q : Int))] [(0, (P 3 (48 * j + q)))] _
  refine v_if (hz_X2_growMould hT _ _ rfl) (fun hc1 => ?_) (fun hc1 => ?_)
  · have hc1 : (P 3 (48 * j + q)) = 0 := hc1
    refine v_load (v := (2, 39)) (hz_X2_growMould hT _ _ rfl) rfl rfl ?_
    refine v_getR (c := 42) (r := 39) (hz_X2_growMould hT _ _ rfl) rfl rfl rfl ?_
    refine v_load (v := (0, (j : Int))) (hz_X2_growMould hT _ _ rfl) rfl rfl ?_
    refine v_push (48) (hz_X2_growMould hT _ _ rfl) rfl ?_
    refine v_bin (w := ((j : Int) * 48)) (hz_X2_growMould hT _ _ rfl) (hq_mul (by omega) (by omega)) ?_
    refine v_load (v := (0, (q : Int))) (hz_X2_growMould hT _ _ rfl) rfl rfl ?_
    refine v_bin (w := (((j : Int) * 48) + (q : Int))) (hz_X2_growMould hT _ _ rfl) (hq_add (by omega) (by omega)) ?_
    refine v_push (2) (hz_X2_growMould hT _ _ rfl) rfl ?_
    refine v_ast (r := 42) (hz_X2_growMould hT _ _ rfl) rfl rfl (fun ha2 hb3 hf4 => ?_)
    refine v_push (1) (hz_X2_growMould hT _ _ rfl) rfl ?_
    refine v_ret (hz_X2_growMould hT _ _ rfl) (Or.inl rfl) ?_
    exact k0 hc1 ha2 hb3
  · have hc1 : (P 3 (48 * j + q)) ≠ 0 := hc1
    refine v_push (0) (hz_X2_growMould hT _ _ rfl) rfl ?_
    refine v_ret (hz_X2_growMould hT _ _ rfl) (Or.inl rfl) ?_
    exact k1 hc1
theorem cb_mo_39 {D : zD} {T : zT} (hT : hTab T) (hO : vOK T) {N : Nat} {h : zH} {Q : zR → Prop} {P : PT} (x y : Int) (j q : Nat) (ex : x = (j : Int)) (ey : y = (q : Int)) (hj : j < 3) (hq : q < 48) (hP : cP 39 P h) (hb : fB P) (k1 : P 3 (48 * j + q) ≠ 0 → Q (h, some (0, 0))) (k2 : P 3 (48 * j + q) = 0 → ∀ g, cP 39 (pSt P j q 2) g → cFr 39 h g → Q (g, some (0, 1))) : vP D T N 39 0 h [some (2, 39), some (0, x), some (0, y)] [] Q := by
  subst ex ey
  refine vP_hv (fun hv => qk_mo_39 hT hO hv hP hb hj hq ?_ ?_) <;> intros
  all_goals first
    | exact k1 (by omega)
    | (rw [show ((j : Int) * 48 + (q : Int)).toNat = 48 * j + q from by omega]; exact k2 (by omega) _ hP.s3 (cFr.z (by omega) (fun _ _ _ => rfl)))
theorem qk_ho_39 {D : zD} {T : zT} (hT : hTab T) (hO : vOK T) {N : Nat} {h : zH} {Q : zR → Prop} {P : PT} {j q : Nat} (hv0 : zHv h) (hP : cP 39 P h) (hb : fB P) (hj : j < 3) (hq : q < 48)
    (k0 : ((P 3 (48 * j + q)) = 0) → (0 ≤ (((j : Int) * 48) + (q : Int))) → ((((j : Int) * 48) + (q : Int)) < 144) → Q (zset h 42 (((((j : Int) * 48) + (q : Int))).toNat) (0, 3), some (0, 1)))
    (k1 : ((P 3 (48 * j + q)) ≠ 0) → ((P 3 (48 * j + q)) = 2) → (0 ≤ (((j : Int) * 48) + (q : Int))) → ((((j : Int) * 48) + (q : Int)) < 144) → Q (zset h 42 (((((j : Int) * 48) + (q : Int))).toNat) (0, 3), some (0, 1)))
    (k2 : ((P 3 (48 * j + q)) ≠ 0) → ((P 3 (48 * j + q)) ≠ 2) → Q (h, some (0, 0))) :
    vP D T N 55 0 h [some (2, 39), some (0, (j : Int)), some (0, (q : Int)), none] [] Q := by
  refine v_load (v := (2, 39)) (hz_X2_spreadHoney hT _ _ rfl) rfl rfl ?_
  refine v_load (v := (0, (j : Int))) (hz_X2_spreadHoney hT _ _ rfl) rfl rfl ?_
  refine v_load (v := (0, (q : Int))) (hz_X2_spreadHoney hT _ _ rfl) rfl rfl ?_
  refine v_call (w := 3) [some (2, 39), some (0, (j : Int)), some (0, (q : Int))] hO (hz_X2_spreadHoney hT _ _ rfl) rfl rfl (cb_st_39 hT hO ((j : Int)) ((q : Int)) j q rfl rfl (by omega) (by omega) hP.2.2.2.1 ?_)
  show vP D T N 55 6 h [some (2, 39), some (0, (j : Int)), some (0, (q : Int)), none] [(0, (P 3 (48 * j + q)))] _
  refine v_store1 [some (2, 39), some (0, (j : Int)), some (0, (q : Int)), some (0, (P 3 (48 * j + q)))] (hz_X2_spreadHoney hT _ _ rfl) ⟨rfl, Nat.ne_of_beq_eq_false rfl⟩ (Nat.le_of_ble_eq_true rfl) rfl ?_
  refine v_load (v := (0, (P 3 (48 * j + q)))) (hz_X2_spreadHoney hT _ _ rfl) rfl rfl ?_
  refine v_if (hz_X2_spreadHoney hT _ _ rfl) (fun hc1 => ?_) (fun hc1 => ?_)
  · have hc1 : (P 3 (48 * j + q)) = 0 := hc1
    refine v_load (v := (2, 39)) (hz_X2_spreadHoney hT _ _ rfl) rfl rfl ?_
    refine v_getR (c := 42) (r := 39) (hz_X2_spreadHoney hT _ _ rfl) rfl rfl rfl ?_
    refine v_load (v := (0, (j : Int))) (hz_X2_spreadHoney hT _ _ rfl) rfl rfl ?_
    refine v_push (48) (hz_X2_spreadHoney hT _ _ rfl) rfl ?_
    refine v_bin (w := ((j : Int) * 48)) (hz_X2_spreadHoney hT _ _ rfl) (hq_mul (by omega) (by omega)) ?_
    refine v_load (v := (0, (q : Int))) (hz_X2_spreadHoney hT _ _ rfl) rfl rfl ?_
    refine v_bin (w := (((j : Int) * 48) + (q : Int))) (hz_X2_spreadHoney hT _ _ rfl) (hq_add (by omega) (by omega)) ?_
    refine v_push (3) (hz_X2_spreadHoney hT _ _ rfl) rfl ?_
    refine v_ast (r := 42) (hz_X2_spreadHoney hT _ _ rfl) rfl rfl (fun ha2 hb3 hf4 => ?_)
    refine v_push (1) (hz_X2_spreadHoney hT _ _ rfl) rfl ?_
    refine v_ret (hz_X2_spreadHoney hT _ _ rfl) (Or.inl rfl) ?_
    exact k0 hc1 ha2 hb3
  · have hc1 : (P 3 (48 * j + q)) ≠ 0 := hc1
    refine v_load (v := (0, (P 3 (48 * j + q)))) (hz_X2_spreadHoney hT _ _ rfl) rfl rfl ?_
    refine v_push (2) (hz_X2_spreadHoney hT _ _ rfl) rfl ?_
    refine v_ic (hz_X2_spreadHoney hT _ _ rfl) (fun hc5 => ?_) (fun hc5 => ?_)
    · have hc5 : (P 3 (48 * j + q)) = 2 := hc5
      refine v_load (v := (2, 39)) (hz_X2_spreadHoney hT _ _ rfl) rfl rfl ?_
      refine v_getR (c := 42) (r := 39) (hz_X2_spreadHoney hT _ _ rfl) rfl rfl rfl ?_
      refine v_load (v := (0, (j : Int))) (hz_X2_spreadHoney hT _ _ rfl) rfl rfl ?_
      refine v_push (48) (hz_X2_spreadHoney hT _ _ rfl) rfl ?_
      refine v_bin (w := ((j : Int) * 48)) (hz_X2_spreadHoney hT _ _ rfl) (hq_mul (by omega) (by omega)) ?_
      refine v_load (v := (0, (q : Int))) (hz_X2_spreadHoney hT _ _ rfl) rfl rfl ?_
      refine v_bin (w := (((j : Int) * 48) + (q : Int))) (hz_X2_spreadHoney hT _ _ rfl) (hq_add (by omega) (by omega)) ?_
      refine v_push (3) (hz_X2_spreadHoney hT _ _ rfl) rfl ?_
      refine v_ast (r := 42) (hz_X2_spreadHoney hT _ _ rfl) rfl rfl (fun ha6 hb7 hf8 => ?_)
      refine v_push (1) (hz_X2_spreadHoney hT _ _ rfl) rfl ?_
      refine v_ret (hz_X2_spreadHoney hT _ _ rfl) (Or.inl rfl) ?_
      exact k1 hc1 hc5 ha6 hb7
    · have hc5 : (P 3 (48 * j + q)) ≠ 2 := hc5
      refine v_push (0) (hz_X2_spreadHoney hT _ _ rfl) rfl ?_
      refine v_ret (hz_X2_spreadHoney hT _ _ rfl) (Or.inl rfl) ?_
      exact k2 hc1 hc5
theorem cb_ho_39 {D : zD} {T : zT} (hT : hTab T) (hO : vOK T) {N : Nat} {h : zH} {Q : zR → Prop} {P : PT} (x y : Int) (j q : Nat) (ex : x = (j : Int)) (ey : y = (q : Int)) (hj : j < 3) (hq : q < 48) (hP : cP 39 P h) (hb : fB P) (k1 : (P 3 (48 * j + q) ≠ 0 ∧ P 3 (48 * j + q) ≠ 2) → Q (h, some (0, 0))) (k2 : (P 3 (48 * j + q) = 0 ∨ P 3 (48 * j + q) = 2) → ∀ g, cP 39 (pSt P j q 3) g → cFr 39 h g → Q (g, some (0, 1))) : vP D T N 55 0 h [some (2, 39), some (0, x), some (0, y), none] [] Q := by
  subst ex ey
  refine vP_hv (fun hv => qk_ho_39 hT hO hv hP hb hj hq ?_ ?_ ?_) <;> intros
  all_goals first
    | exact k1 (by omega)
    | (rw [show ((j : Int) * 48 + (q : Int)).toNat = 48 * j + q from by omega]; exact k2 (by omega) _ hP.s3 (cFr.z (by omega) (fun _ _ _ => rfl)))
theorem qk_wi_39 {D : zD} {T : zT} (hT : hTab T) (hO : vOK T) {N : Nat} {h : zH} {Q : zR → Prop} {P : PT} {j q : Nat} (hv0 : zHv h) (hP : cP 39 P h) (hb : fB P) (hj : j < 3) (hq : q < 48)
    (k0 : ((P 3 (48 * j + q)) = 2) → (0 ≤ (((j : Int) * 48) + (q : Int))) → ((((j : Int) * 48) + (q : Int)) < 144) → Q (zset h 42 (((((j : Int) * 48) + (q : Int))).toNat) (0, 0), some (0, 1)))
    (k1 : ((P 3 (48 * j + q)) ≠ 2) → ((P 3 (48 * j + q)) = 3) → (0 ≤ (((j : Int) * 48) + (q : Int))) → ((((j : Int) * 48) + (q : Int)) < 144) → Q (zset h 42 (((((j : Int) * 48) + (q : Int))).toNat) (0, 0), some (0, 1)))
    (k2 : ((P 3 (48 * j + q)) ≠ 2) → ((P 3 (48 * j + q)) ≠ 3) → Q (h, some (0, 0))) :
    vP D T N 58 0 h [some (2, 39), some (0, (j : Int)), some (0, (q : Int)), none] [] Q := by
  refine v_load (v := (2, 39)) (hz_X2_wipe hT _ _ rfl) rfl rfl ?_
  refine v_load (v := (0, (j : Int))) (hz_X2_wipe hT _ _ rfl) rfl rfl ?_
  refine v_load (v := (0, (q : Int))) (hz_X2_wipe hT _ _ rfl) rfl rfl ?_
  refine v_call (w := 3) [some (2, 39), some (0, (j : Int)), some (0, (q : Int))] hO (hz_X2_wipe hT _ _ rfl) rfl rfl (cb_st_39 hT hO ((j : Int)) ((q : Int)) j q rfl rfl (by omega) (by omega) hP.2.2.2.1 ?_)
  show vP D T N 58 6 h [some (2, 39), some (0, (j : Int)), some (0, (q : Int)), none] [(0, (P 3 (48 * j + q)))] _
  refine v_store1 [some (2, 39), some (0, (j : Int)), some (0, (q : Int)), some (0, (P 3 (48 * j + q)))] (hz_X2_wipe hT _ _ rfl) ⟨rfl, Nat.ne_of_beq_eq_false rfl⟩ (Nat.le_of_ble_eq_true rfl) rfl ?_
  refine v_load (v := (0, (P 3 (48 * j + q)))) (hz_X2_wipe hT _ _ rfl) rfl rfl ?_
  refine v_push (2) (hz_X2_wipe hT _ _ rfl) rfl ?_
  refine v_ic (hz_X2_wipe hT _ _ rfl) (fun hc1 => ?_) (fun hc1 => ?_)
  · have hc1 : (P 3 (48 * j + q)) = 2 := hc1
    refine v_load (v := (2, 39)) (hz_X2_wipe hT _ _ rfl) rfl rfl ?_
    refine v_getR (c := 42) (r := 39) (hz_X2_wipe hT _ _ rfl) rfl rfl rfl ?_
    refine v_load (v := (0, (j : Int))) (hz_X2_wipe hT _ _ rfl) rfl rfl ?_
    refine v_push (48) (hz_X2_wipe hT _ _ rfl) rfl ?_
    refine v_bin (w := ((j : Int) * 48)) (hz_X2_wipe hT _ _ rfl) (hq_mul (by omega) (by omega)) ?_
    refine v_load (v := (0, (q : Int))) (hz_X2_wipe hT _ _ rfl) rfl rfl ?_
    refine v_bin (w := (((j : Int) * 48) + (q : Int))) (hz_X2_wipe hT _ _ rfl) (hq_add (by omega) (by omega)) ?_
    refine v_push (0) (hz_X2_wipe hT _ _ rfl) rfl ?_
    refine v_ast (r := 42) (hz_X2_wipe hT _ _ rfl) rfl rfl (fun ha2 hb3 hf4 => ?_)
    refine v_push (1) (hz_X2_wipe hT _ _ rfl) rfl ?_
    refine v_ret (hz_X2_wipe hT _ _ rfl) (Or.inl rfl) ?_
    exact k0 hc1 ha2 hb3
  · have hc1 : (P 3 (48 * j + q)) ≠ 2 := hc1
    refine v_load (v := (0, (P 3 (48 * j + q)))) (hz_X2_wipe hT _ _ rfl) rfl rfl ?_
    refine v_push (3) (hz_X2_wipe hT _ _ rfl) rfl ?_
    refine v_ic (hz_X2_wipe hT _ _ rfl) (fun hc5 => ?_) (fun hc5 => ?_)
    · have hc5 : (P 3 (48 * j + q)) = 3 := hc5
      refine v_load (v := (2, 39)) (hz_X2_wipe hT _ _ rfl) rfl rfl ?_
      refine v_getR (c := 42) (r := 39) (hz_X2_wipe hT _ _ rfl) rfl rfl rfl ?_
      refine v_load (v := (0, (j : Int))) (hz_X2_wipe hT _ _ rfl) rfl rfl ?_
      refine v_push (48) (hz_X2_wipe hT _ _ rfl) rfl ?_
      refine v_bin (w := ((j : Int) * 48)) (hz_X2_wipe hT _ _ rfl) (hq_mul (by omega) (by omega)) ?_
      refine v_load (v := (0, (q : Int))) (hz_X2_wipe hT _ _ rfl) rfl rfl ?_
      refine v_bin (w := (((j : Int) * 48) + (q : Int))) (hz_X2_wipe hT _ _ rfl) (hq_add (by omega) (by omega)) ?_
      refine v_push (0) (hz_X2_wipe hT _ _ rfl) rfl ?_
      refine v_ast (r := 42) (hz_X2_wipe hT _ _ rfl) rfl rfl (fun ha6 hb7 hf8 => ?_)
      refine v_push (1) (hz_X2_wipe hT _ _ rfl) rfl ?_
      refine v_ret (hz_X2_wipe hT _ _ rfl) (Or.inl rfl) ?_
      exact k1 hc1 hc5 ha6 hb7
    · have hc5 : (P 3 (48 * j + q)) ≠ 3 := hc5
      refine v_push (0) (hz_X2_wipe hT _ _ rfl) rfl ?_
      refine v_ret (hz_X2_wipe hT _ _ rfl) (Or.inl rfl) ?_
      exact k2 hc1 hc5
theorem cb_wi_39 {D : zD} {T : zT} (hT : hTab T) (hO : vOK T) {N : Nat} {h : zH} {Q : zR → Prop} {P : PT} (x y : Int) (j q : Nat) (ex : x = (j : Int)) (ey : y = (q : Int)) (hj : j < 3) (hq : q < 48) (hP : cP 39 P h) (hb : fB P) (k1 : (P 3 (48 * j + q) ≠ 2 ∧ P 3 (48 * j + q) ≠ 3) → Q (h, some (0, 0))) (k2 : (P 3 (48 * j + q) = 2 ∨ P 3 (48 * j + q) = 3) → ∀ g, cP 39 (pSt P j q 0) g → cFr 39 h g → Q (g, some (0, 1))) : vP D T N 58 0 h [some (2, 39), some (0, x), some (0, y), none] [] Q := by
  subst ex ey
  refine vP_hv (fun hv => qk_wi_39 hT hO hv hP hb hj hq ?_ ?_ ?_) <;> intros
  all_goals first
    | exact k1 (by omega)
    | (rw [show ((j : Int) * 48 + (q : Int)).toNat = 48 * j + q from by omega]; exact k2 (by omega) _ hP.s3 (cFr.z (by omega) (fun _ _ _ => rfl)))
theorem qk_so_39 {D : zD} {T : zT} (hT : hTab T) (hO : vOK T) {N : Nat} {h : zH} {Q : zR → Prop} {j t : Nat} (hv0 : zHv h) (hj : j < 3) (ht : t < 3)
    (k0 : (0 ≤ ((j : Int) * 48)) → (0 ≤ ((t : Int) * 48)) → (((j : Int) * 48) + 48 ≤ 144) → (((t : Int) * 48) + 48 ≤ 144) → Q (zcopy h 42 ((((j : Int) * 48)).toNat) 42 ((((t : Int) * 48)).toNat) 48, none)) :
    vP D T N 57 0 h [some (2, 39), some (0, (j : Int)), some (0, (t : Int))] [] Q := by
  refine v_load (v := (2, 39)) (hz_X2_steamOff hT _ _ rfl) rfl rfl ?_
  refine v_getR (c := 42) (r := 39) (hz_X2_steamOff hT _ _ rfl) rfl rfl rfl ?_
  refine v_load (v := (0, (j : Int))) (hz_X2_steamOff hT _ _ rfl) rfl rfl ?_
  refine v_push (48) (hz_X2_steamOff hT _ _ rfl) rfl ?_
  refine v_bin (w := ((j : Int) * 48)) (hz_X2_steamOff hT _ _ rfl) (hq_mul (by omega) (by omega)) ?_
  refine v_load (v := (2, 39)) (hz_X2_steamOff hT _ _ rfl) rfl rfl ?_
  refine v_getR (c := 42) (r := 39) (hz_X2_steamOff hT _ _ rfl) rfl rfl rfl ?_
  refine v_load (v := (0, (t : Int))) (hz_X2_steamOff hT _ _ rfl) rfl rfl ?_
  refine v_push (48) (hz_X2_steamOff hT _ _ rfl) rfl ?_
  refine v_bin (w := ((t : Int) * 48)) (hz_X2_steamOff hT _ _ rfl) (hq_mul (by omega) (by omega)) ?_
  refine v_push (48) (hz_X2_steamOff hT _ _ rfl) rfl ?_
  refine v_copy (r0 := 42) (r1 := 42) (hz_X2_steamOff hT _ _ rfl) rfl rfl rfl rfl (fun hd1 hd2 hd3 hd4 hd5 => ?_)
  refine v_ret0 (hz_X2_steamOff hT _ _ rfl) ?_
  exact k0 hd2 hd3 hd4 hd5
theorem cb_so_39 {D : zD} {T : zT} (hT : hTab T) (hO : vOK T) {N : Nat} {h : zH} {Q : zR → Prop} {P : PT} (x y : Int) (j t : Nat) (ex : x = (j : Int)) (ey : y = (t : Int)) (hj : j < 3) (ht : t < 3) (hP : cP 39 P h) (k : ∀ g, cP 39 (pSteam P j t) g → cFr 39 h g → Q (g, none)) : vP D T N 57 0 h [some (2, 39), some (0, x), some (0, y)] [] Q := by
  subst ex ey
  refine vP_hv (fun hv => qk_so_39 hT hO hv hj ht ?_)
  intros
  rw [show ((j : Int) * 48).toNat = 48 * j from by omega, show ((t : Int) * 48).toNat = 48 * t from by omega]
  exact k _ (hP.steam hj ht) (fun a b hn => vcopy_ne (fun e => hn (by omega)))
theorem qk_sh2_39 {D : zD} {T : zT} (hT : hTab T) (hO : vOK T) {N : Nat} {h : zH} {Q : zR → Prop}  (hv0 : zHv h)
    (k0 : Q (zcopy h 44 0 45 0 6, none)) :
    vP D T N 52 0 h [some (2, 39)] [] Q := by
  refine v_load (v := (2, 39)) (hz_X2_sendHome hT _ _ rfl) rfl rfl ?_
  refine v_getR (c := 44) (r := 39) (hz_X2_sendHome hT _ _ rfl) rfl rfl rfl ?_
  refine v_push (0) (hz_X2_sendHome hT _ _ rfl) rfl ?_
  refine v_load (v := (2, 39)) (hz_X2_sendHome hT _ _ rfl) rfl rfl ?_
  refine v_getR (c := 45) (r := 39) (hz_X2_sendHome hT _ _ rfl) rfl rfl rfl ?_
  refine v_push (0) (hz_X2_sendHome hT _ _ rfl) rfl ?_
  refine v_push (6) (hz_X2_sendHome hT _ _ rfl) rfl ?_
  refine v_copy (r0 := 44) (r1 := 45) (hz_X2_sendHome hT _ _ rfl) rfl rfl rfl rfl (fun hd1 hd2 hd3 hd4 hd5 => ?_)
  refine v_ret0 (hz_X2_sendHome hT _ _ rfl) ?_
  exact k0 
theorem cb_hm_39 {D : zD} {T : zT} (hT : hTab T) (hO : vOK T) {N : Nat} {h : zH} {Q : zR → Prop} {P : PT} (hP : cP 39 P h) (hb : fB P) (k : ∀ g, cP 39 (pHome P) g → cFr 39 h g → Q (g, none)) : vP D T N 52 0 h [some (2, 39)] [] Q := by
  refine vP_hv (fun hv => qk_sh2_39 hT hO hv ?_)
  intros
  exact k _ (hP.home hb.1.2.2.2.2) (fun a b hn => vcopy_ne (fun e => hn (by omega)))
