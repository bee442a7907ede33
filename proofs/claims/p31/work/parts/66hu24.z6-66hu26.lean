section
theorem qk_la0_39 {D : zD} {T : zT} (hT : hTab T) (hO : vOK T) {N : Nat} {h : zH} {Q : zR → Prop} {P : PT} {j : Nat} (hv0 : zHv h)
    (k0 : vP D T N 134 2 h [some (2, 100), some (2, 39), some (0, (j : Int)), some (0, 0)] [] Q) :
    vP D T N 134 0 h [some (2, 100), some (2, 39), some (0, (j : Int)), none] [] Q := by
  refine v_push (0) (hz_X10_lookAt hT _ _ rfl) rfl ?_
  refine v_store1 [some (2, 100), some (2, 39), some (0, (j : Int)), some (0, 0)] (hz_X10_lookAt hT _ _ rfl) ⟨rfl, Nat.ne_of_beq_eq_false rfl⟩ (Nat.le_of_ble_eq_true rfl) rfl ?_
  exact k0 
theorem qk_la2_39 {D : zD} {T : zT} (hT : hTab T) (hO : vOK T) {N : Nat} {h : zH} {Q : zR → Prop} {P : PT} {j i : Nat} (hv0 : zHv h) (hP : cP 39 P h) (hb : fB P) (hj : j < 3) (hi : i ≤ 48)
    (k0 : ((i : Int) < 48) → (gIn P i) → (0 ≤ (i : Int)) → vP D T N 134 2 (zset h 101 (((i : Int)).toNat) (0, (gSh P j i))) [some (2, 100), some (2, 39), some (0, (j : Int)), some (0, ((i : Int) + 1))] [] Q)
    (k1 : ((i : Int) < 48) → (¬ gIn P i) → (0 ≤ (i : Int)) → vP D T N 134 2 (zset h 101 (((i : Int)).toNat) (0, 0)) [some (2, 100), some (2, 39), some (0, (j : Int)), some (0, ((i : Int) + 1))] [] Q)
    (k2 : (48 ≤ (i : Int)) → Q (h, none)) :
    vP D T (N + 1) 134 2 h [some (2, 100), some (2, 39), some (0, (j : Int)), some (0, (i : Int))] [] Q := by
  refine v_loadS (v := (0, (i : Int))) (hz_X10_lookAt hT _ _ rfl) rfl rfl ?_
  refine v_push (48) (hz_X10_lookAt hT _ _ rfl) rfl ?_
  refine v_ic (hz_X10_lookAt hT _ _ rfl) (fun hc1 => ?_) (fun hc1 => ?_)
  · have hc1 : (i : Int) < 48 := hc1
    refine v_load (v := (2, 100)) (hz_X10_lookAt hT _ _ rfl) rfl rfl ?_
    refine v_getR (c := 101) (r := 100) (hz_X10_lookAt hT _ _ rfl) rfl rfl rfl ?_
    refine v_load (v := (0, (i : Int))) (hz_X10_lookAt hT _ _ rfl) rfl rfl ?_
    refine v_load (v := (2, 39)) (hz_X10_lookAt hT _ _ rfl) rfl rfl ?_
    refine v_load (v := (0, (i : Int))) (hz_X10_lookAt hT _ _ rfl) rfl rfl ?_
    refine v_call (w := 2) [some (2, 39), some (0, (i : Int))] hO (hz_X10_lookAt hT _ _ rfl) rfl rfl (cb_isC_39 hT hO ((i : Int)) i rfl (by omega) hP.1.1 hP.1.2.1 hb.1 (fun hg2 => ?_) (fun hg2 => ?_))
    · show vP D T N 134 18 h [some (2, 100), some (2, 39), some (0, (j : Int)), some (0, (i : Int))] [(0, 1), (0, (i : Int)), (2, 101)] _
      refine v_if (hi_X10_lookAt_18 hT) (fun hc3 => absurd (show (1 : Int) = 0 from hc3) (by decide)) (fun _ => ?_)
      refine v_load (v := (2, 39)) (hz_X10_lookAt hT _ _ rfl) rfl rfl ?_
      refine v_load (v := (0, (j : Int))) (hz_X10_lookAt hT _ _ rfl) rfl rfl ?_
      refine v_load (v := (0, (i : Int))) (hz_X10_lookAt hT _ _ rfl) rfl rfl ?_
      refine v_call (w := 3) [some (2, 39), some (0, (j : Int)), some (0, (i : Int))] hO (hz_X10_lookAt hT _ _ rfl) rfl rfl (cb_sh_39 hT hO ((j : Int)) ((i : Int)) j rfl (by omega) i rfl (by omega) hb hP.2.1 hP.2.2.1 hP.2.2.2.1 ?_)
      show vP D T N 134 27 h [some (2, 100), some (2, 39), some (0, (j : Int)), some (0, (i : Int))] [(0, (gSh P j i)), (0, (i : Int)), (2, 101)] _
      refine v_goto (hz_X10_lookAt hT _ _ rfl) ?_
      refine v_ast (r := 101) (hi_X10_lookAt_31 hT) rfl rfl (fun ha4 hb5 hf6 => ?_)
      refine v_iinc (x := (i : Int)) (u := 1) (w := ((i : Int) + 1)) [some (2, 100), some (2, 39), some (0, (j : Int)), some (0, ((i : Int) + 1))] (hi_X10_lookAt_32 hT) rfl rfl (Nat.le_of_ble_eq_true rfl) (vz_inc (by omega) (by omega)) rfl ?_
      refine v_goto (hi_X10_lookAt_35 hT) ?_
      exact k0 hc1 hg2 ha4
    · show vP D T N 134 18 h [some (2, 100), some (2, 39), some (0, (j : Int)), some (0, (i : Int))] [(0, 0), (0, (i : Int)), (2, 101)] _
      refine v_if (hi_X10_lookAt_18 hT) (fun _ => ?_) (fun hc7 => absurd (show (0 : Int) = 0 from (by decide)) hc7)
      refine v_push (0) (hz_X10_lookAt hT _ _ rfl) rfl ?_
      refine v_ast (r := 101) (hi_X10_lookAt_31 hT) rfl rfl (fun ha8 hb9 hf10 => ?_)
      refine v_iinc (x := (i : Int)) (u := 1) (w := ((i : Int) + 1)) [some (2, 100), some (2, 39), some (0, (j : Int)), some (0, ((i : Int) + 1))] (hi_X10_lookAt_32 hT) rfl rfl (Nat.le_of_ble_eq_true rfl) (vz_inc (by omega) (by omega)) rfl ?_
      refine v_goto (hi_X10_lookAt_35 hT) ?_
      exact k1 hc1 hg2 ha8
  · have hc1 : 48 ≤ (i : Int) := Int.not_lt.mp hc1
    refine v_ret0 (hz_X10_lookAt hT _ _ rfl) ?_
    exact k2 hc1
theorem qk_lg0_39 {D : zD} {T : zT} (hT : hTab T) (hO : vOK T) {N : Nat} {h : zH} {Q : zR → Prop} {P : PT} {i : Nat} (hv0 : zHv h)
    (k0 : vP D T N 135 2 h [some (2, 100), some (2, 39), some (0, 0)] [] Q) :
    vP D T N 135 0 h [some (2, 100), some (2, 39), none] [] Q := by
  refine v_push (0) (hz_X10_lookAtGround hT _ _ rfl) rfl ?_
  refine v_store1 [some (2, 100), some (2, 39), some (0, 0)] (hz_X10_lookAtGround hT _ _ rfl) ⟨rfl, Nat.ne_of_beq_eq_false rfl⟩ (Nat.le_of_ble_eq_true rfl) rfl ?_
  exact k0 
theorem qk_lg2_39 {D : zD} {T : zT} (hT : hTab T) (hO : vOK T) {N : Nat} {h : zH} {Q : zR → Prop} {P : PT} {i : Nat} (hv0 : zHv h) (hP : cP 39 P h) (hb : fB P) (hi : i ≤ 48)
    (k0 : ((i : Int) < 48) → (gIn P i) → (0 ≤ (i : Int)) → vP D T N 135 2 (zset h 101 (((i : Int)).toNat) (0, (gGr P i))) [some (2, 100), some (2, 39), some (0, ((i : Int) + 1))] [] Q)
    (k1 : ((i : Int) < 48) → (¬ gIn P i) → (0 ≤ (i : Int)) → vP D T N 135 2 (zset h 101 (((i : Int)).toNat) (0, 0)) [some (2, 100), some (2, 39), some (0, ((i : Int) + 1))] [] Q)
    (k2 : (48 ≤ (i : Int)) → Q (h, none)) :
    vP D T (N + 1) 135 2 h [some (2, 100), some (2, 39), some (0, (i : Int))] [] Q := by
  refine v_loadS (v := (0, (i : Int))) (hz_X10_lookAtGround hT _ _ rfl) rfl rfl ?_
  refine v_push (48) (hz_X10_lookAtGround hT _ _ rfl) rfl ?_
  refine v_ic (hz_X10_lookAtGround hT _ _ rfl) (fun hc1 => ?_) (fun hc1 => ?_)
  · have hc1 : (i : Int) < 48 := hc1
    refine v_load (v := (2, 100)) (hz_X10_lookAtGround hT _ _ rfl) rfl rfl ?_
    refine v_getR (c := 101) (r := 100) (hz_X10_lookAtGround hT _ _ rfl) rfl rfl rfl ?_
    refine v_load (v := (0, (i : Int))) (hz_X10_lookAtGround hT _ _ rfl) rfl rfl ?_
    refine v_load (v := (2, 39)) (hz_X10_lookAtGround hT _ _ rfl) rfl rfl ?_
    refine v_load (v := (0, (i : Int))) (hz_X10_lookAtGround hT _ _ rfl) rfl rfl ?_
    refine v_call (w := 2) [some (2, 39), some (0, (i : Int))] hO (hz_X10_lookAtGround hT _ _ rfl) rfl rfl (cb_isC_39 hT hO ((i : Int)) i rfl (by omega) hP.1.1 hP.1.2.1 hb.1 (fun hg2 => ?_) (fun hg2 => ?_))
    · show vP D T N 135 18 h [some (2, 100), some (2, 39), some (0, (i : Int))] [(0, 1), (0, (i : Int)), (2, 101)] _
      refine v_if (hi_X10_lookAtGround_18 hT) (fun hc3 => absurd (show (1 : Int) = 0 from hc3) (by decide)) (fun _ => ?_)
      refine v_load (v := (2, 39)) (hz_X10_lookAtGround hT _ _ rfl) rfl rfl ?_
      refine v_load (v := (0, (i : Int))) (hz_X10_lookAtGround hT _ _ rfl) rfl rfl ?_
      refine v_call (w := 2) [some (2, 39), some (0, (i : Int))] hO (hz_X10_lookAtGround hT _ _ rfl) rfl rfl (cb_gr_39 hT hO ((i : Int)) i rfl (by omega) hb hP.2.1 hP.2.2.1 ?_)
      show vP D T N 135 26 h [some (2, 100), some (2, 39), some (0, (i : Int))] [(0, (gGr P i)), (0, (i : Int)), (2, 101)] _
      refine v_goto (hz_X10_lookAtGround hT _ _ rfl) ?_
      refine v_ast (r := 101) (hi_X10_lookAtGround_30 hT) rfl rfl (fun ha4 hb5 hf6 => ?_)
      refine v_iinc (x := (i : Int)) (u := 1) (w := ((i : Int) + 1)) [some (2, 100), some (2, 39), some (0, ((i : Int) + 1))] (hi_X10_lookAtGround_31 hT) rfl rfl (Nat.le_of_ble_eq_true rfl) (vz_inc (by omega) (by omega)) rfl ?_
      refine v_goto (hi_X10_lookAtGround_34 hT) ?_
      exact k0 hc1 hg2 ha4
    · show vP D T N 135 18 h [some (2, 100), some (2, 39), some (0, (i : Int))] [(0, 0), (0, (i : Int)), (2, 101)] _
      refine v_if (hi_X10_lookAtGround_18 hT) (fun _ => ?_) (fun hc7 => absurd (show (0 : Int) = 0 from (by decide)) hc7)
      refine v_push (0) (hz_X10_lookAtGround hT _ _ rfl) rfl ?_
      refine v_ast (r := 101) (hi_X10_lookAtGround_30 hT) rfl rfl (fun ha8 hb9 hf10 => ?_)
      refine v_iinc (x := (i : Int)) (u := 1) (w := ((i : Int) + 1)) [some (2, 100), some (2, 39), some (0, ((i : Int) + 1))] (hi_X10_lookAtGround_31 hT) rfl rfl (Nat.le_of_ble_eq_true rfl) (vz_inc (by omega) (by omega)) rfl ?_
      refine v_goto (hi_X10_lookAtGround_34 hT) ?_
      exact k1 hc1 hg2 ha8
  · have hc1 : 48 ≤ (i : Int) := Int.not_lt.mp hc1
    refine v_ret0 (hz_X10_lookAtGround hT _ _ rfl) ?_
    exact k2 hc1
theorem qk_me0_39 {D : zD} {T : zT} (hT : hTab T) (hO : vOK T) {N : Nat} {h : zH} {Q : zR → Prop} {P : PT} (f : Int) {t : Nat} (hv0 : zHv h) (ht : t < 48)
    (k0 : ∀ (g1 : zH), (∀ a b, g1 a b = if a = 102 ∧ b < 48 then (0, 1000000) else h a b) → (0 ≤ (t : Int)) → ((t : Int) < 48) → ((v64 3 ((vS 1 0 ((t : Int)))) 1) = 0) → vP D T N 136 33 (zset (zset (zset (zset (zset (zset (zset g1 100 3 (1, 0)) 100 4 (0, 0)) 100 5 (0, 0)) 102 (((t : Int)).toNat) (0, 0)) 100 3 (1, (v64 4 0 ((vS 0 1 ((t : Int))))))) 103 0 (0, (t : Int))) 100 5 (0, (1 % 64))) [some (2, 100), some (2, 39), some (0, f), some (0, (t : Int)), some (0, 0), none, none, none, none] [] Q)
    (k1 : ∀ (g1 : zH), (∀ a b, g1 a b = if a = 102 ∧ b < 48 then (0, 1000000) else h a b) → (0 ≤ (t : Int)) → ((t : Int) < 48) → ((v64 3 ((vS 1 0 ((t : Int)))) 1) ≠ 0) → vP D T N 136 33 (zset (zset (zset (zset g1 100 3 (1, 0)) 100 4 (0, 0)) 100 5 (0, 0)) 102 (((t : Int)).toNat) (0, 0)) [some (2, 100), some (2, 39), some (0, f), some (0, (t : Int)), some (0, 0), none, none, none, none] [] Q) :
    vP D T N 136 0 h [some (2, 100), some (2, 39), some (0, f), some (0, (t : Int)), none, none, none, none, none] [] Q := by
  refine v_load (v := (2, 100)) (hz_X10_measure hT _ _ rfl) rfl rfl ?_
  refine v_getR (c := 102) (r := 100) (hz_X10_measure hT _ _ rfl) rfl rfl rfl ?_
  refine v_push (1000000) (hz_X10_measure hT _ _ rfl) rfl ?_
  refine v_call (w := 4) [some (2, 102), some (0, 1000000), none, none] hO (hz_X10_measure hT _ _ rfl) rfl rfl (cx_fi_102 hT hO 1000000 (fun g1 ff1 => ?_))
  · show vP D T N 136 9 g1 [some (2, 100), some (2, 39), some (0, f), some (0, (t : Int)), none, none, none, none, none] [] _
    refine vP_hv (fun hv1 => ?_)
    refine v_load (v := (2, 100)) (hz_X10_measure hT _ _ rfl) rfl rfl ?_
    refine v_push (0) (hz_X10_measure hT _ _ rfl) rfl ?_
    refine v_putf (r := 100) hO (hz_X10_measure hT _ _ rfl) rfl (fun hf2 => ?_)
    refine v_load (v := (2, 100)) (hz_X10_measure hT _ _ rfl) rfl rfl ?_
    refine v_push (0) (hz_X10_measure hT _ _ rfl) rfl ?_
    refine v_putf (r := 100) hO (hz_X10_measure hT _ _ rfl) rfl (fun hf3 => ?_)
    refine v_load (v := (2, 100)) (hz_X10_measure hT _ _ rfl) rfl rfl ?_
    refine v_push (0) (hz_X10_measure hT _ _ rfl) rfl ?_
    refine v_putf (r := 100) hO (hz_X10_measure hT _ _ rfl) rfl (fun hf4 => ?_)
    refine v_load (v := (2, 100)) (hz_X10_measure hT _ _ rfl) rfl rfl ?_
    refine v_load (v := (0, (t : Int))) (hz_X10_measure hT _ _ rfl) rfl rfl ?_
    refine v_push (0) (hz_X10_measure hT _ _ rfl) rfl ?_
    refine v_call (w := 3) [some (2, 100), some (0, (t : Int)), some (0, 0)] hO (hz_X10_measure hT _ _ rfl) rfl rfl ?_
    refine v_load (v := (2, 100)) (hi_X10_reachCell_0 hT) rfl rfl ?_
    refine v_getR (c := 102) (r := 100) (hi_X10_reachCell_1 hT) rfl rfl rfl ?_
    refine v_load (v := (0, (t : Int))) (hi_X10_reachCell_4 hT) rfl rfl ?_
    refine v_load (v := (0, 0)) (hi_X10_reachCell_5 hT) rfl rfl ?_
    refine v_ast (r := 102) (hi_X10_reachCell_6 hT) rfl rfl (fun ha5 hb6 hf7 => ?_)
    refine v_load (v := (2, 100)) (hi_X10_reachCell_7 hT) rfl rfl ?_
    refine v_getf (v := (1, 0)) (r := 100) (hi_X10_reachCell_8 hT) rfl rfl (fun _ => Eq.trans (Eq.trans (zset_ne (fun c => absurd c.1 (by decide))) (Eq.trans (zset_ne (fun c => absurd c.2 (by decide))) (zset_ne (fun c => absurd c.2 (by decide))))) zset_same) ?_
    refine v_load (v := (0, (t : Int))) (hi_X10_reachCell_11 hT) rfl rfl ?_
    refine v_sh64 (w := (vS 1 0 ((t : Int)))) (hi_X10_reachCell_12 hT) rfl ?_
    refine v_push (1) (hi_X10_reachCell_13 hT) rfl ?_
    refine v_bin64 (w := (v64 3 ((vS 1 0 ((t : Int)))) 1)) (hi_X10_reachCell_14 hT) rfl ?_
    refine v_push (0) (hi_X10_reachCell_15 hT) rfl ?_
    refine v_lif (hi_X10_reachCell_16 hT) (hi_X10_reachCell_17 hT) (fun hc8 => ?_) (fun hc8 => ?_)
    · have hc8 : (v64 3 ((vS 1 0 ((t : Int)))) 1) = 0 := hc8
      refine v_load (v := (2, 100)) (hi_X10_reachCell_20 hT) rfl rfl ?_
      refine v_dup (hi_X10_reachCell_21 hT) (Nat.ne_of_beq_eq_false rfl) ?_
      refine v_getf (v := (1, 0)) (r := 100) (hi_X10_reachCell_22 hT) rfl rfl (fun _ => Eq.trans (Eq.trans (zset_ne (fun c => absurd c.1 (by decide))) (Eq.trans (zset_ne (fun c => absurd c.2 (by decide))) (zset_ne (fun c => absurd c.2 (by decide))))) zset_same) ?_
      refine v_push (1) (hi_X10_reachCell_25 hT) rfl ?_
      refine v_load (v := (0, (t : Int))) (hi_X10_reachCell_26 hT) rfl rfl ?_
      refine v_sh64 (w := (vS 0 1 ((t : Int)))) (hi_X10_reachCell_27 hT) rfl ?_
      refine v_bin64 (w := (v64 4 0 ((vS 0 1 ((t : Int)))))) (hi_X10_reachCell_28 hT) rfl ?_
      refine v_putf (r := 100) hO (hi_X10_reachCell_29 hT) rfl (fun hf9 => ?_)
      refine v_load (v := (2, 100)) (hi_X10_reachCell_32 hT) rfl rfl ?_
      refine v_getR (c := 103) (r := 100) (hi_X10_reachCell_33 hT) rfl rfl rfl ?_
      refine v_load (v := (2, 100)) (hi_X10_reachCell_36 hT) rfl rfl ?_
      refine v_getf (v := (0, 0)) (r := 100) (hi_X10_reachCell_37 hT) rfl rfl (fun _ => Eq.trans (Eq.trans (zset_ne (fun c => absurd c.2 (by decide))) (zset_ne (fun c => absurd c.1 (by decide)))) zset_same) ?_
      refine v_load (v := (0, (t : Int))) (hi_X10_reachCell_40 hT) rfl rfl ?_
      refine v_ast (r := 103) (hi_X10_reachCell_41 hT) rfl rfl (fun ha10 hb11 hf12 => ?_)
      refine v_load (v := (2, 100)) (hi_X10_reachCell_42 hT) rfl rfl ?_
      refine v_load (v := (2, 100)) (hi_X10_reachCell_43 hT) rfl rfl ?_
      refine v_getf (v := (0, 0)) (r := 100) (hi_X10_reachCell_44 hT) rfl rfl (fun _ => Eq.trans (Eq.trans (zset_ne (fun c => absurd c.1 (by decide))) (Eq.trans (zset_ne (fun c => absurd c.2 (by decide))) (zset_ne (fun c => absurd c.1 (by decide))))) zset_same) ?_
      refine v_push (1) (hi_X10_reachCell_47 hT) rfl ?_
      refine v_bin (w := 1) (hi_X10_reachCell_48 hT) (by decide) ?_
      refine v_push (63) (hi_X10_reachCell_49 hT) rfl ?_
      refine v_bin (w := (1 % 64)) (hi_X10_reachCell_51 hT) (and63 (by omega) (by omega)) ?_
      refine v_putf (r := 100) hO (hi_X10_reachCell_52 hT) rfl (fun hf13 => ?_)
      refine v_ret0 (hi_X10_reachCell_55 hT) ?_
      show vP D T N 136 30 (zset (zset (zset (zset (zset (zset (zset g1 100 3 (1, 0)) 100 4 (0, 0)) 100 5 (0, 0)) 102 (((t : Int)).toNat) (0, 0)) 100 3 (1, (v64 4 0 ((vS 0 1 ((t : Int))))))) 103 0 (0, (t : Int))) 100 5 (0, (1 % 64))) [some (2, 100), some (2, 39), some (0, f), some (0, (t : Int)), none, none, none, none, none] [] _
      refine v_push (0) (hi_X10_measure_30 hT) rfl ?_
      refine v_store1 [some (2, 100), some (2, 39), some (0, f), some (0, (t : Int)), some (0, 0), none, none, none, none] (hi_X10_measure_31 hT) ⟨rfl, Nat.ne_of_beq_eq_false rfl⟩ (Nat.le_of_ble_eq_true rfl) rfl ?_
      exact k0 g1 ff1 ha5 hb6 hc8
    · have hc8 : (v64 3 ((vS 1 0 ((t : Int)))) 1) ≠ 0 := hc8
      refine v_ret0 (hi_X10_reachCell_55 hT) ?_
      show vP D T N 136 30 (zset (zset (zset (zset g1 100 3 (1, 0)) 100 4 (0, 0)) 100 5 (0, 0)) 102 (((t : Int)).toNat) (0, 0)) [some (2, 100), some (2, 39), some (0, f), some (0, (t : Int)), none, none, none, none, none] [] _
      refine v_push (0) (hi_X10_measure_30 hT) rfl ?_
      refine v_store1 [some (2, 100), some (2, 39), some (0, f), some (0, (t : Int)), some (0, 0), none, none, none, none] (hi_X10_measure_31 hT) ⟨rfl, Nat.ne_of_beq_eq_false rfl⟩ (Nat.le_of_ble_eq_true rfl) rfl ?_
      exact k1 g1 ff1 ha5 hb6 hc8
theorem qk_me33_39 {D : zD} {T : zT} (hT : hTab T) (hO : vOK T) {N : Nat} {h : zH} {Q : zR → Prop} {hd tl tk b : Nat} {co f : Nat → Int} {z : Int} (x y : Int) (o0 o1 o2 o3 : Option zV) (hv0 : zHv h) (e3 : h 100 3 = (1, z)) (e4 : h 100 4 = (0, (hd : Int))) (e5 : h 100 5 = (0, (tl : Int))) (hc : ∀ i, i < 48 → h 101 i = (0, co i)) (hf : ∀ i, i < 48 → h 102 i = (0, f i)) (bh : hd < 64) (bl : tl < 64) (eb : h 103 hd = (0, (b : Int))) (hb : b < 48) (bf : 0 ≤ f b ∧ f b ≤ 1000000) (bc : 0 ≤ co b ∧ co b ≤ 14)
    (k0 : ((tk : Int) < 2304) → ((hd : Int) = (tl : Int)) → vP D T N 136 193 h [some (2, 100), some (2, 39), some (0, x), some (0, y), some (0, (tk : Int)), o0, o1, o2, o3] [] Q)
    (k1 : ((tk : Int) < 2304) → ((hd : Int) ≠ (tl : Int)) → (0 ≤ (hd : Int)) → ((hd : Int) < 64) → (0 ≤ (b : Int)) → ((b : Int) < 48) → vP D T N 136 118 (zset (zset h 100 4 (0, (((hd : Int) + 1) % 64))) 100 3 (1, (v64 3 z ((v64 5 ((vS 0 1 ((b : Int)))) (-1)))))) [some (2, 100), some (2, 39), some (0, x), some (0, y), some (0, (tk : Int)), some (0, (b : Int)), some (0, (((f b) + ((co b) * 64)) + 1)), some (0, 0), o3] [] Q)
    (k2 : (2304 ≤ (tk : Int)) → vP D T N 136 193 h [some (2, 100), some (2, 39), some (0, x), some (0, y), some (0, (tk : Int)), o0, o1, o2, o3] [] Q) :
    vP D T (N + 1) 136 33 h [some (2, 100), some (2, 39), some (0, x), some (0, y), some (0, (tk : Int)), o0, o1, o2, o3] [] Q := by
  refine v_loadS (v := (0, (tk : Int))) (hi_X10_measure_33 hT) rfl rfl ?_
  refine v_push (2304) (hi_X10_measure_35 hT) rfl ?_
  refine v_ic (hi_X10_measure_38 hT) (fun hc1 => ?_) (fun hc1 => ?_)
  · have hc1 : (tk : Int) < 2304 := hc1
    refine v_load (v := (2, 100)) (hi_X10_measure_41 hT) rfl rfl ?_
    refine v_getf (v := (0, (hd : Int))) (r := 100) (hi_X10_measure_42 hT) rfl rfl (fun _ => e4) ?_
    refine v_load (v := (2, 100)) (hi_X10_measure_45 hT) rfl rfl ?_
    refine v_getf (v := (0, (tl : Int))) (r := 100) (hi_X10_measure_46 hT) rfl rfl (fun _ => e5) ?_
    refine v_ic (hi_X10_measure_49 hT) (fun hc2 => ?_) (fun hc2 => ?_)
    · have hc2 : (hd : Int) = (tl : Int) := hc2
      exact k0 hc1 hc2
    · have hc2 : (hd : Int) ≠ (tl : Int) := hc2
      refine v_load (v := (2, 100)) (hz_X10_measure hT _ _ rfl) rfl rfl ?_
      refine v_getR (c := 103) (r := 100) (hz_X10_measure hT _ _ rfl) rfl rfl rfl ?_
      refine v_load (v := (2, 100)) (hz_X10_measure hT _ _ rfl) rfl rfl ?_
      refine v_getf (v := (0, (hd : Int))) (r := 100) (hz_X10_measure hT _ _ rfl) rfl rfl (fun _ => e4) ?_
      refine v_aldB (t := 0) (r := 103) (w := (b : Int)) (hz_X10_measure hT _ _ rfl) rfl rfl rfl (fun _ _ => (congrArg Prod.snd eb)) (fun ha3 hb4 => ?_)
      refine v_store1 [some (2, 100), some (2, 39), some (0, x), some (0, y), some (0, (tk : Int)), some (0, (b : Int)), o1, o2, o3] (hz_X10_measure hT _ _ rfl) ⟨rfl, Nat.ne_of_beq_eq_false rfl⟩ (Nat.le_of_ble_eq_true rfl) rfl ?_
      refine v_load (v := (2, 100)) (hz_X10_measure hT _ _ rfl) rfl rfl ?_
      refine v_load (v := (2, 100)) (hz_X10_measure hT _ _ rfl) rfl rfl ?_
      refine v_getf (v := (0, (hd : Int))) (r := 100) (hz_X10_measure hT _ _ rfl) rfl rfl (fun _ => e4) ?_
      refine v_push (1) (hz_X10_measure hT _ _ rfl) rfl ?_
      refine v_bin (w := ((hd : Int) + 1)) (hz_X10_measure hT _ _ rfl) (hq_add (by omega) (by omega)) ?_
      refine v_push (63) (hz_X10_measure hT _ _ rfl) rfl ?_
      refine v_bin (w := (((hd : Int) + 1) % 64)) (hz_X10_measure hT _ _ rfl) (and63 (by omega) (by omega)) ?_
      refine v_putf (r := 100) hO (hz_X10_measure hT _ _ rfl) rfl (fun hf5 => ?_)
      refine v_load (v := (2, 100)) (hz_X10_measure hT _ _ rfl) rfl rfl ?_
      refine v_dup (hz_X10_measure hT _ _ rfl) (Nat.ne_of_beq_eq_false rfl) ?_
      refine v_getf (v := (1, z)) (r := 100) (hz_X10_measure hT _ _ rfl) rfl rfl (fun _ => Eq.trans (zset_ne (fun c => absurd c.2 (by decide))) (e3)) ?_
      refine v_push (1) (hz_X10_measure hT _ _ rfl) rfl ?_
      refine v_load (v := (0, (b : Int))) (hz_X10_measure hT _ _ rfl) rfl rfl ?_
      refine v_sh64 (w := (vS 0 1 ((b : Int)))) (hz_X10_measure hT _ _ rfl) rfl ?_
      refine v_push (-1) (hz_X10_measure hT _ _ rfl) rfl ?_
      refine v_bin64 (w := (v64 5 ((vS 0 1 ((b : Int)))) (-1))) (hz_X10_measure hT _ _ rfl) rfl ?_
      refine v_bin64 (w := (v64 3 z ((v64 5 ((vS 0 1 ((b : Int)))) (-1))))) (hz_X10_measure hT _ _ rfl) rfl ?_
      refine v_putf (r := 100) hO (hz_X10_measure hT _ _ rfl) rfl (fun hf6 => ?_)
      refine v_load (v := (2, 100)) (hz_X10_measure hT _ _ rfl) rfl rfl ?_
      refine v_getR (c := 102) (r := 100) (hz_X10_measure hT _ _ rfl) rfl rfl rfl ?_
      refine v_load (v := (0, (b : Int))) (hz_X10_measure hT _ _ rfl) rfl rfl ?_
      refine v_aldB (t := 0) (r := 102) (w := (f b)) (hz_X10_measure hT _ _ rfl) rfl rfl rfl (fun _ _ => (congrArg Prod.snd ((Eq.trans (zset_ne (fun c => absurd c.1 (by decide))) (zset_ne (fun c => absurd c.1 (by decide)))).trans (hf b (by omega))))) (fun ha7 hb8 => ?_)
      refine v_load (v := (2, 100)) (hz_X10_measure hT _ _ rfl) rfl rfl ?_
      refine v_getR (c := 101) (r := 100) (hz_X10_measure hT _ _ rfl) rfl rfl rfl ?_
      refine v_load (v := (0, (b : Int))) (hz_X10_measure hT _ _ rfl) rfl rfl ?_
      refine v_aldB (t := 0) (r := 101) (w := (co b)) (hz_X10_measure hT _ _ rfl) rfl rfl rfl (fun _ _ => (congrArg Prod.snd ((Eq.trans (zset_ne (fun c => absurd c.1 (by decide))) (zset_ne (fun c => absurd c.1 (by decide)))).trans (hc b (by omega))))) (fun ha9 hb10 => ?_)
      refine v_push (64) (hz_X10_measure hT _ _ rfl) rfl ?_
      refine v_bin (w := ((co b) * 64)) (hz_X10_measure hT _ _ rfl) (hq_mul (by omega) (by omega)) ?_
      refine v_bin (w := ((f b) + ((co b) * 64))) (hz_X10_measure hT _ _ rfl) (hq_add (by omega) (by omega)) ?_
      refine v_push (1) (hz_X10_measure hT _ _ rfl) rfl ?_
      refine v_bin (w := (((f b) + ((co b) * 64)) + 1)) (hz_X10_measure hT _ _ rfl) (hq_add (by omega) (by omega)) ?_
      refine v_store1 [some (2, 100), some (2, 39), some (0, x), some (0, y), some (0, (tk : Int)), some (0, (b : Int)), some (0, (((f b) + ((co b) * 64)) + 1)), o2, o3] (hz_X10_measure hT _ _ rfl) ⟨rfl, Nat.ne_of_beq_eq_false rfl⟩ (Nat.le_of_ble_eq_true rfl) rfl ?_
      refine v_push (0) (hz_X10_measure hT _ _ rfl) rfl ?_
      refine v_store1 [some (2, 100), some (2, 39), some (0, x), some (0, y), some (0, (tk : Int)), some (0, (b : Int)), some (0, (((f b) + ((co b) * 64)) + 1)), some (0, 0), o3] (hz_X10_measure hT _ _ rfl) ⟨rfl, Nat.ne_of_beq_eq_false rfl⟩ (Nat.le_of_ble_eq_true rfl) rfl ?_
      exact k1 hc1 hc2 ha3 hb4 ha7 hb8
  · have hc1 : 2304 ≤ (tk : Int) := Int.not_lt.mp hc1
    exact k2 hc1
theorem qk_me33e_39 {D : zD} {T : zT} (hT : hTab T) (hO : vOK T) {N : Nat} {h : zH} {Q : zR → Prop} {hd tk : Nat} (x y : Nat) (o0 o1 o2 o3 : Option zV) (hv0 : zHv h) (e4 : h 100 4 = (0, (hd : Int))) (e5 : h 100 5 = (0, (hd : Int))) (c1 : (tk : Int) < 2304)
    (k0 : vP D T N 136 193 h [some (2, 100), some (2, 39), some (0, (x : Int)), some (0, (y : Int)), some (0, (tk : Int)), o0, o1, o2, o3] [] Q) :
    vP D T (N + 1) 136 33 h [some (2, 100), some (2, 39), some (0, (x : Int)), some (0, (y : Int)), some (0, (tk : Int)), o0, o1, o2, o3] [] Q := by
  refine v_loadS (v := (0, (tk : Int))) (hi_X10_measure_33 hT) rfl rfl ?_
  refine v_push (2304) (hi_X10_measure_35 hT) rfl ?_
  refine v_ic (hi_X10_measure_38 hT) (fun _ => ?_) (fun hc1 => absurd (show (tk : Int) < 2304 from c1) hc1)
  refine v_load (v := (2, 100)) (hi_X10_measure_41 hT) rfl rfl ?_
  refine v_getf (v := (0, (hd : Int))) (r := 100) (hi_X10_measure_42 hT) rfl rfl (fun _ => e4) ?_
  refine v_load (v := (2, 100)) (hi_X10_measure_45 hT) rfl rfl ?_
  refine v_getf (v := (0, (hd : Int))) (r := 100) (hi_X10_measure_46 hT) rfl rfl (fun _ => e5) ?_
  refine v_ic (hi_X10_measure_49 hT) (fun _ => ?_) (fun hc2 => absurd (show (hd : Int) = (hd : Int) from rfl) hc2)
  exact k0 
theorem qk_me33f_39 {D : zD} {T : zT} (hT : hTab T) (hO : vOK T) {N : Nat} {h : zH} {Q : zR → Prop} {tk : Nat} (x y : Nat) (o0 o1 o2 o3 : Option zV) (hv0 : zHv h) (c1 : 2304 ≤ (tk : Int))
    (k0 : vP D T N 136 193 h [some (2, 100), some (2, 39), some (0, (x : Int)), some (0, (y : Int)), some (0, (tk : Int)), o0, o1, o2, o3] [] Q) :
    vP D T (N + 1) 136 33 h [some (2, 100), some (2, 39), some (0, (x : Int)), some (0, (y : Int)), some (0, (tk : Int)), o0, o1, o2, o3] [] Q := by
  refine v_loadS (v := (0, (tk : Int))) (hi_X10_measure_33 hT) rfl rfl ?_
  refine v_push (2304) (hi_X10_measure_35 hT) rfl ?_
  refine v_ic (hi_X10_measure_38 hT) (fun hc1 => absurd (show (tk : Int) < 2304 from hc1) (by omega)) (fun _ => ?_)
  exact k0 
theorem qk_me118_39 {D : zD} {T : zT} (hT : hTab T) (hO : vOK T) {N : Nat} {h : zH} {Q : zR → Prop} {P : PT} {hd tl tk b d fr : Nat} {co f : Nat → Int} {z : Int} (y w : Int) (o0 : Option zV) (hv0 : zHv h) (p0 : h 39 0 = (0, P 0 0)) (p1 : h 39 1 = (0, P 0 1)) (lb : lB P) (e3 : h 100 3 = (1, z)) (e4 : h 100 4 = (0, (hd : Int))) (e5 : h 100 5 = (0, (tl : Int))) (hc : ∀ i, i < 48 → h 101 i = (0, co i)) (hf : ∀ i, i < 48 → h 102 i = (0, f i)) (bh : hd < 64) (bl : tl < 64) (gb : gIn P b) (hb : b < 48) (hfr : fr < 48) (hd4 : d ≤ 4) (htk : tk < 2304)
    (k0 : ((d : Int) < 4) → (0 ≤ (b : Int)) → ((b : Int) < 48) → (0 < (co b)) → (gNb P b d = -1) → vP D T N 136 118 h [some (2, 100), some (2, 39), some (0, (fr : Int)), some (0, y), some (0, (tk : Int)), some (0, (b : Int)), some (0, w), some (0, ((d : Int) + 1)), some (0, -1)] [] Q)
    (k1 : ((d : Int) < 4) → (0 ≤ (b : Int)) → ((b : Int) < 48) → (0 < (co b)) → ∀ (q5 : Nat), (gNb P b d = (q5 : Int)) → (gIn P q5) → ((q5 : Int) = -1) → vP D T N 136 118 h [some (2, 100), some (2, 39), some (0, (fr : Int)), some (0, y), some (0, (tk : Int)), some (0, (b : Int)), some (0, w), some (0, ((d : Int) + 1)), some (0, (q5 : Int))] [] Q)
    (k2 : ((d : Int) < 4) → (0 ≤ (b : Int)) → ((b : Int) < 48) → (0 < (co b)) → ∀ (q5 : Nat), (gNb P b d = (q5 : Int)) → (gIn P q5) → ((q5 : Int) ≠ -1) → (0 ≤ (q5 : Int)) → ((q5 : Int) < 48) → (w < (f q5)) → (0 ≤ (fr : Int)) → ((fr : Int) < 48) → (w < (f fr)) → ((v64 3 ((vS 1 z ((q5 : Int)))) 1) = 0) → (0 ≤ (tl : Int)) → ((tl : Int) < 64) → vP D T N 136 118 (zset (zset (zset (zset h 102 (((q5 : Int)).toNat) (0, w)) 100 3 (1, (v64 4 z ((vS 0 1 ((q5 : Int))))))) 103 (((tl : Int)).toNat) (0, (q5 : Int))) 100 5 (0, (((tl : Int) + 1) % 64))) [some (2, 100), some (2, 39), some (0, (fr : Int)), some (0, y), some (0, (tk : Int)), some (0, (b : Int)), some (0, w), some (0, ((d : Int) + 1)), some (0, (q5 : Int))] [] Q)
    (k3 : ((d : Int) < 4) → (0 ≤ (b : Int)) → ((b : Int) < 48) → (0 < (co b)) → ∀ (q5 : Nat), (gNb P b d = (q5 : Int)) → (gIn P q5) → ((q5 : Int) ≠ -1) → (0 ≤ (q5 : Int)) → ((q5 : Int) < 48) → (w < (f q5)) → (0 ≤ (fr : Int)) → ((fr : Int) < 48) → (w < (f fr)) → ((v64 3 ((vS 1 z ((q5 : Int)))) 1) ≠ 0) → vP D T N 136 118 (zset h 102 (((q5 : Int)).toNat) (0, w)) [some (2, 100), some (2, 39), some (0, (fr : Int)), some (0, y), some (0, (tk : Int)), some (0, (b : Int)), some (0, w), some (0, ((d : Int) + 1)), some (0, (q5 : Int))] [] Q)
    (k4 : ((d : Int) < 4) → (0 ≤ (b : Int)) → ((b : Int) < 48) → (0 < (co b)) → ∀ (q5 : Nat), (gNb P b d = (q5 : Int)) → (gIn P q5) → ((q5 : Int) ≠ -1) → (0 ≤ (q5 : Int)) → ((q5 : Int) < 48) → (w < (f q5)) → (0 ≤ (fr : Int)) → ((fr : Int) < 48) → ((f fr) ≤ w) → vP D T N 136 118 h [some (2, 100), some (2, 39), some (0, (fr : Int)), some (0, y), some (0, (tk : Int)), some (0, (b : Int)), some (0, w), some (0, ((d : Int) + 1)), some (0, (q5 : Int))] [] Q)
    (k5 : ((d : Int) < 4) → (0 ≤ (b : Int)) → ((b : Int) < 48) → (0 < (co b)) → ∀ (q5 : Nat), (gNb P b d = (q5 : Int)) → (gIn P q5) → ((q5 : Int) ≠ -1) → (0 ≤ (q5 : Int)) → ((q5 : Int) < 48) → ((f q5) ≤ w) → vP D T N 136 118 h [some (2, 100), some (2, 39), some (0, (fr : Int)), some (0, y), some (0, (tk : Int)), some (0, (b : Int)), some (0, w), some (0, ((d : Int) + 1)), some (0, (q5 : Int))] [] Q)
    (k6 : ((d : Int) < 4) → (0 ≤ (b : Int)) → ((b : Int) < 48) → ((co b) ≤ 0) → vP D T N 136 33 h [some (2, 100), some (2, 39), some (0, (fr : Int)), some (0, y), some (0, ((tk : Int) + 1)), some (0, (b : Int)), some (0, w), some (0, (d : Int)), o0] [] Q)
    (k7 : (4 ≤ (d : Int)) → vP D T N 136 33 h [some (2, 100), some (2, 39), some (0, (fr : Int)), some (0, y), some (0, ((tk : Int) + 1)), some (0, (b : Int)), some (0, w), some (0, (d : Int)), o0] [] Q) :
    vP D T (N + 1) 136 118 h [some (2, 100), some (2, 39), some (0, (fr : Int)), some (0, y), some (0, (tk : Int)), some (0, (b : Int)), some (0, w), some (0, (d : Int)), o0] [] Q := by
  refine v_loadS (v := (0, (d : Int))) (hz_X10_measure hT _ _ rfl) rfl rfl ?_
  refine v_push (4) (hz_X10_measure hT _ _ rfl) rfl ?_
  refine v_ic (hz_X10_measure hT _ _ rfl) (fun hc1 => ?_) (fun hc1 => ?_)
  · have hc1 : (d : Int) < 4 := hc1
    refine v_load (v := (2, 100)) (hz_X10_measure hT _ _ rfl) rfl rfl ?_
    refine v_getR (c := 101) (r := 100) (hz_X10_measure hT _ _ rfl) rfl rfl rfl ?_
    refine v_load (v := (0, (b : Int))) (hz_X10_measure hT _ _ rfl) rfl rfl ?_
    refine v_aldB (t := 0) (r := 101) (w := (co b)) (hz_X10_measure hT _ _ rfl) rfl rfl rfl (fun _ _ => (congrArg Prod.snd (hc b (by omega)))) (fun ha2 hb3 => ?_)
    refine v_if (hz_X10_measure hT _ _ rfl) (fun hc4 => ?_) (fun hc4 => ?_)
    · have hc4 : 0 < (co b) := hc4
      refine v_load (v := (2, 39)) (hz_X10_measure hT _ _ rfl) rfl rfl ?_
      refine v_load (v := (0, (b : Int))) (hz_X10_measure hT _ _ rfl) rfl rfl ?_
      refine v_load (v := (0, (d : Int))) (hz_X10_measure hT _ _ rfl) rfl rfl ?_
      refine v_call (w := 4) [some (2, 39), some (0, (b : Int)), some (0, (d : Int)), none] hO (hz_X10_measure hT _ _ rfl) rfl rfl (cb_bes_39 hT hO ((b : Int)) ((d : Int)) b d rfl rfl gb (by omega) p0 p1 lb (fun en5 => ?_) (fun q5 en5 hg5 => ?_))
      · show vP D T N 136 142 h [some (2, 100), some (2, 39), some (0, (fr : Int)), some (0, y), some (0, (tk : Int)), some (0, (b : Int)), some (0, w), some (0, (d : Int)), o0] [(0, -1)] _
        refine v_store1 [some (2, 100), some (2, 39), some (0, (fr : Int)), some (0, y), some (0, (tk : Int)), some (0, (b : Int)), some (0, w), some (0, (d : Int)), some (0, -1)] (hi_X10_measure_142 hT) ⟨rfl, Nat.ne_of_beq_eq_false rfl⟩ (Nat.le_of_ble_eq_true rfl) rfl ?_
        refine v_load (v := (0, -1)) (hi_X10_measure_144 hT) rfl rfl ?_
        refine v_push (-1) (hi_X10_measure_146 hT) rfl ?_
        refine v_ic (hi_X10_measure_147 hT) (fun _ => ?_) (fun hc6 => absurd (show (-1 : Int) = -1 from (by decide)) hc6)
        refine v_iinc (x := (d : Int)) (u := 1) (w := ((d : Int) + 1)) [some (2, 100), some (2, 39), some (0, (fr : Int)), some (0, y), some (0, (tk : Int)), some (0, (b : Int)), some (0, w), some (0, ((d : Int) + 1)), some (0, -1)] (hi_X10_measure_181 hT) rfl rfl (Nat.le_of_ble_eq_true rfl) (vz_inc (by omega) (by omega)) rfl ?_
        refine v_goto (hi_X10_measure_184 hT) ?_
        exact k0 hc1 ha2 hb3 hc4 en5
      · show vP D T N 136 142 h [some (2, 100), some (2, 39), some (0, (fr : Int)), some (0, y), some (0, (tk : Int)), some (0, (b : Int)), some (0, w), some (0, (d : Int)), o0] [(0, (q5 : Int))] _
        refine v_store1 [some (2, 100), some (2, 39), some (0, (fr : Int)), some (0, y), some (0, (tk : Int)), some (0, (b : Int)), some (0, w), some (0, (d : Int)), some (0, (q5 : Int))] (hi_X10_measure_142 hT) ⟨rfl, Nat.ne_of_beq_eq_false rfl⟩ (Nat.le_of_ble_eq_true rfl) rfl ?_
        refine v_load (v := (0, (q5 : Int))) (hi_X10_measure_144 hT) rfl rfl ?_
        refine v_push (-1) (hi_X10_measure_146 hT) rfl ?_
        refine v_ic (hi_X10_measure_147 hT) (fun hc7 => ?_) (fun hc7 => ?_)
        · have hc7 : (q5 : Int) = -1 := hc7
          refine v_iinc (x := (d : Int)) (u := 1) (w := ((d : Int) + 1)) [some (2, 100), some (2, 39), some (0, (fr : Int)), some (0, y), some (0, (tk : Int)), some (0, (b : Int)), some (0, w), some (0, ((d : Int) + 1)), some (0, (q5 : Int))] (hi_X10_measure_181 hT) rfl rfl (Nat.le_of_ble_eq_true rfl) (vz_inc (by omega) (by omega)) rfl ?_
          refine v_goto (hi_X10_measure_184 hT) ?_
          exact k1 hc1 ha2 hb3 hc4 q5 en5 hg5 hc7
        · have hc7 : (q5 : Int) ≠ -1 := hc7
          refine v_load (v := (0, w)) (hz_X10_measure hT _ _ rfl) rfl rfl ?_
          refine v_load (v := (2, 100)) (hz_X10_measure hT _ _ rfl) rfl rfl ?_
          refine v_getR (c := 102) (r := 100) (hz_X10_measure hT _ _ rfl) rfl rfl rfl ?_
          refine v_load (v := (0, (q5 : Int))) (hz_X10_measure hT _ _ rfl) rfl rfl ?_
          refine v_aldB (t := 0) (r := 102) (w := (f q5)) (hz_X10_measure hT _ _ rfl) rfl rfl rfl (fun _ _ => (congrArg Prod.snd (hf q5 (by omega)))) (fun ha8 hb9 => ?_)
          refine v_ic (hz_X10_measure hT _ _ rfl) (fun hc10 => ?_) (fun hc10 => ?_)
          · have hc10 : w < (f q5) := hc10
            refine v_load (v := (0, w)) (hz_X10_measure hT _ _ rfl) rfl rfl ?_
            refine v_load (v := (2, 100)) (hz_X10_measure hT _ _ rfl) rfl rfl ?_
            refine v_getR (c := 102) (r := 100) (hz_X10_measure hT _ _ rfl) rfl rfl rfl ?_
            refine v_load (v := (0, (fr : Int))) (hz_X10_measure hT _ _ rfl) rfl rfl ?_
            refine v_aldB (t := 0) (r := 102) (w := (f fr)) (hz_X10_measure hT _ _ rfl) rfl rfl rfl (fun _ _ => (congrArg Prod.snd (hf fr (by omega)))) (fun ha11 hb12 => ?_)
            refine v_ic (hz_X10_measure hT _ _ rfl) (fun hc13 => ?_) (fun hc13 => ?_)
            · have hc13 : w < (f fr) := hc13
              refine v_load (v := (2, 100)) (hz_X10_measure hT _ _ rfl) rfl rfl ?_
              refine v_load (v := (0, (q5 : Int))) (hz_X10_measure hT _ _ rfl) rfl rfl ?_
              refine v_load (v := (0, w)) (hz_X10_measure hT _ _ rfl) rfl rfl ?_
              refine v_call (w := 3) [some (2, 100), some (0, (q5 : Int)), some (0, w)] hO (hz_X10_measure hT _ _ rfl) rfl rfl ?_
              refine v_load (v := (2, 100)) (hi_X10_reachCell_0 hT) rfl rfl ?_
              refine v_getR (c := 102) (r := 100) (hi_X10_reachCell_1 hT) rfl rfl rfl ?_
              refine v_load (v := (0, (q5 : Int))) (hi_X10_reachCell_4 hT) rfl rfl ?_
              refine v_load (v := (0, w)) (hi_X10_reachCell_5 hT) rfl rfl ?_
              refine v_ast (r := 102) (hi_X10_reachCell_6 hT) rfl rfl (fun ha14 hb15 hf16 => ?_)
              refine v_load (v := (2, 100)) (hi_X10_reachCell_7 hT) rfl rfl ?_
              refine v_getf (v := (1, z)) (r := 100) (hi_X10_reachCell_8 hT) rfl rfl (fun _ => Eq.trans (zset_ne (fun c => absurd c.1 (by decide))) (e3)) ?_
              refine v_load (v := (0, (q5 : Int))) (hi_X10_reachCell_11 hT) rfl rfl ?_
              refine v_sh64 (w := (vS 1 z ((q5 : Int)))) (hi_X10_reachCell_12 hT) rfl ?_
              refine v_push (1) (hi_X10_reachCell_13 hT) rfl ?_
              refine v_bin64 (w := (v64 3 ((vS 1 z ((q5 : Int)))) 1)) (hi_X10_reachCell_14 hT) rfl ?_
              refine v_push (0) (hi_X10_reachCell_15 hT) rfl ?_
              refine v_lif (hi_X10_reachCell_16 hT) (hi_X10_reachCell_17 hT) (fun hc17 => ?_) (fun hc17 => ?_)
              · have hc17 : (v64 3 ((vS 1 z ((q5 : Int)))) 1) = 0 := hc17
                refine v_load (v := (2, 100)) (hi_X10_reachCell_20 hT) rfl rfl ?_
                refine v_dup (hi_X10_reachCell_21 hT) (Nat.ne_of_beq_eq_false rfl) ?_
                refine v_getf (v := (1, z)) (r := 100) (hi_X10_reachCell_22 hT) rfl rfl (fun _ => Eq.trans (zset_ne (fun c => absurd c.1 (by decide))) (e3)) ?_
                refine v_push (1) (hi_X10_reachCell_25 hT) rfl ?_
                refine v_load (v := (0, (q5 : Int))) (hi_X10_reachCell_26 hT) rfl rfl ?_
                refine v_sh64 (w := (vS 0 1 ((q5 : Int)))) (hi_X10_reachCell_27 hT) rfl ?_
                refine v_bin64 (w := (v64 4 z ((vS 0 1 ((q5 : Int)))))) (hi_X10_reachCell_28 hT) rfl ?_
                refine v_putf (r := 100) hO (hi_X10_reachCell_29 hT) rfl (fun hf18 => ?_)
                refine v_load (v := (2, 100)) (hi_X10_reachCell_32 hT) rfl rfl ?_
                refine v_getR (c := 103) (r := 100) (hi_X10_reachCell_33 hT) rfl rfl rfl ?_
                refine v_load (v := (2, 100)) (hi_X10_reachCell_36 hT) rfl rfl ?_
                refine v_getf (v := (0, (tl : Int))) (r := 100) (hi_X10_reachCell_37 hT) rfl rfl (fun _ => Eq.trans (Eq.trans (zset_ne (fun c => absurd c.2 (by decide))) (zset_ne (fun c => absurd c.1 (by decide)))) (e5)) ?_
                refine v_load (v := (0, (q5 : Int))) (hi_X10_reachCell_40 hT) rfl rfl ?_
                refine v_ast (r := 103) (hi_X10_reachCell_41 hT) rfl rfl (fun ha19 hb20 hf21 => ?_)
                refine v_load (v := (2, 100)) (hi_X10_reachCell_42 hT) rfl rfl ?_
                refine v_load (v := (2, 100)) (hi_X10_reachCell_43 hT) rfl rfl ?_
                refine v_getf (v := (0, (tl : Int))) (r := 100) (hi_X10_reachCell_44 hT) rfl rfl (fun _ => Eq.trans (Eq.trans (zset_ne (fun c => absurd c.1 (by decide))) (Eq.trans (zset_ne (fun c => absurd c.2 (by decide))) (zset_ne (fun c => absurd c.1 (by decide))))) (e5)) ?_
                refine v_push (1) (hi_X10_reachCell_47 hT) rfl ?_
                refine v_bin (w := ((tl : Int) + 1)) (hi_X10_reachCell_48 hT) (hq_add (by omega) (by omega)) ?_
                refine v_push (63) (hi_X10_reachCell_49 hT) rfl ?_
                refine v_bin (w := (((tl : Int) + 1) % 64)) (hi_X10_reachCell_51 hT) (and63 (by omega) (by omega)) ?_
                refine v_putf (r := 100) hO (hi_X10_reachCell_52 hT) rfl (fun hf22 => ?_)
                refine v_ret0 (hi_X10_reachCell_55 hT) ?_
                show vP D T N 136 181 (zset (zset (zset (zset h 102 (((q5 : Int)).toNat) (0, w)) 100 3 (1, (v64 4 z ((vS 0 1 ((q5 : Int))))))) 103 (((tl : Int)).toNat) (0, (q5 : Int))) 100 5 (0, (((tl : Int) + 1) % 64))) [some (2, 100), some (2, 39), some (0, (fr : Int)), some (0, y), some (0, (tk : Int)), some (0, (b : Int)), some (0, w), some (0, (d : Int)), some (0, (q5 : Int))] [] _
                refine v_iinc (x := (d : Int)) (u := 1) (w := ((d : Int) + 1)) [some (2, 100), some (2, 39), some (0, (fr : Int)), some (0, y), some (0, (tk : Int)), some (0, (b : Int)), some (0, w), some (0, ((d : Int) + 1)), some (0, (q5 : Int))] (hi_X10_measure_181 hT) rfl rfl (Nat.le_of_ble_eq_true rfl) (vz_inc (by omega) (by omega)) rfl ?_
                refine v_goto (hi_X10_measure_184 hT) ?_
                exact k2 hc1 ha2 hb3 hc4 q5 en5 hg5 hc7 ha8 hb9 hc10 ha11 hb12 hc13 hc17 ha19 hb20
              · have hc17 : (v64 3 ((vS 1 z ((q5 : Int)))) 1) ≠ 0 := hc17
                refine v_ret0 (hi_X10_reachCell_55 hT) ?_
                show vP D T N 136 181 (zset h 102 (((q5 : Int)).toNat) (0, w)) [some (2, 100), some (2, 39), some (0, (fr : Int)), some (0, y), some (0, (tk : Int)), some (0, (b : Int)), some (0, w), some (0, (d : Int)), some (0, (q5 : Int))] [] _
                refine v_iinc (x := (d : Int)) (u := 1) (w := ((d : Int) + 1)) [some (2, 100), some (2, 39), some (0, (fr : Int)), some (0, y), some (0, (tk : Int)), some (0, (b : Int)), some (0, w), some (0, ((d : Int) + 1)), some (0, (q5 : Int))] (hi_X10_measure_181 hT) rfl rfl (Nat.le_of_ble_eq_true rfl) (vz_inc (by omega) (by omega)) rfl ?_
                refine v_goto (hi_X10_measure_184 hT) ?_
                exact k3 hc1 ha2 hb3 hc4 q5 en5 hg5 hc7 ha8 hb9 hc10 ha11 hb12 hc13 hc17
            · have hc13 : (f fr) ≤ w := Int.not_lt.mp hc13
              refine v_iinc (x := (d : Int)) (u := 1) (w := ((d : Int) + 1)) [some (2, 100), some (2, 39), some (0, (fr : Int)), some (0, y), some (0, (tk : Int)), some (0, (b : Int)), some (0, w), some (0, ((d : Int) + 1)), some (0, (q5 : Int))] (hi_X10_measure_181 hT) rfl rfl (Nat.le_of_ble_eq_true rfl) (vz_inc (by omega) (by omega)) rfl ?_
              refine v_goto (hi_X10_measure_184 hT) ?_
              exact k4 hc1 ha2 hb3 hc4 q5 en5 hg5 hc7 ha8 hb9 hc10 ha11 hb12 hc13
          · have hc10 : (f q5) ≤ w := Int.not_lt.mp hc10
            refine v_iinc (x := (d : Int)) (u := 1) (w := ((d : Int) + 1)) [some (2, 100), some (2, 39), some (0, (fr : Int)), some (0, y), some (0, (tk : Int)), some (0, (b : Int)), some (0, w), some (0, ((d : Int) + 1)), some (0, (q5 : Int))] (hi_X10_measure_181 hT) rfl rfl (Nat.le_of_ble_eq_true rfl) (vz_inc (by omega) (by omega)) rfl ?_
            refine v_goto (hi_X10_measure_184 hT) ?_
            exact k5 hc1 ha2 hb3 hc4 q5 en5 hg5 hc7 ha8 hb9 hc10
    · have hc4 : (co b) ≤ 0 := Int.not_lt.mp hc4
      refine v_iinc (x := (tk : Int)) (u := 1) (w := ((tk : Int) + 1)) [some (2, 100), some (2, 39), some (0, (fr : Int)), some (0, y), some (0, ((tk : Int) + 1)), some (0, (b : Int)), some (0, w), some (0, (d : Int)), o0] (hi_X10_measure_187 hT) rfl rfl (Nat.le_of_ble_eq_true rfl) (vz_inc (by omega) (by omega)) rfl ?_
      refine v_goto (hi_X10_measure_190 hT) ?_
      exact k6 hc1 ha2 hb3 hc4
  · have hc1 : 4 ≤ (d : Int) := Int.not_lt.mp hc1
    refine v_iinc (x := (tk : Int)) (u := 1) (w := ((tk : Int) + 1)) [some (2, 100), some (2, 39), some (0, (fr : Int)), some (0, y), some (0, ((tk : Int) + 1)), some (0, (b : Int)), some (0, w), some (0, (d : Int)), o0] (hi_X10_measure_187 hT) rfl rfl (Nat.le_of_ble_eq_true rfl) (vz_inc (by omega) (by omega)) rfl ?_
    refine v_goto (hi_X10_measure_190 hT) ?_
    exact k7 hc1
theorem qk_me193_39 {D : zD} {T : zT} (hT : hTab T) (hO : vOK T) {N : Nat} {h : zH} {Q : zR → Prop} {fr : Nat} {f : Nat → Int} (o0 o1 o2 o3 o4 o5 : Option zV) (hv0 : zHv h) (hf : ∀ i, i < 48 → h 102 i = (0, f i)) (hfr : fr < 48) (bf : 0 ≤ f fr ∧ f fr ≤ 1000000)
    (k0 : (0 ≤ (fr : Int)) → ((fr : Int) < 48) → ((f fr) = 1000000) → Q (h, some (0, -1)))
    (k1 : (0 ≤ (fr : Int)) → ((fr : Int) < 48) → ((f fr) ≠ 1000000) → Q (h, some (0, ((f fr) / 64)))) :
    vP D T N 136 193 h [some (2, 100), some (2, 39), some (0, (fr : Int)), o0, o1, o2, o3, o4, o5] [] Q := by
  refine v_load (v := (2, 100)) (hz_X10_measure hT _ _ rfl) rfl rfl ?_
  refine v_getR (c := 102) (r := 100) (hz_X10_measure hT _ _ rfl) rfl rfl rfl ?_
  refine v_load (v := (0, (fr : Int))) (hz_X10_measure hT _ _ rfl) rfl rfl ?_
  refine v_aldB (t := 0) (r := 102) (w := (f fr)) (hz_X10_measure hT _ _ rfl) rfl rfl rfl (fun _ _ => (congrArg Prod.snd (hf fr (by omega)))) (fun ha1 hb2 => ?_)
  refine v_push (1000000) (hz_X10_measure hT _ _ rfl) rfl ?_
  refine v_ic (hz_X10_measure hT _ _ rfl) (fun hc3 => ?_) (fun hc3 => ?_)
  · have hc3 : (f fr) = 1000000 := hc3
    refine v_push (-1) (hz_X10_measure hT _ _ rfl) rfl ?_
    refine v_goto (hz_X10_measure hT _ _ rfl) ?_
    refine v_ret (hi_X10_measure_217 hT) (Or.inl rfl) ?_
    exact k0 ha1 hb2 hc3
  · have hc3 : (f fr) ≠ 1000000 := hc3
    refine v_load (v := (2, 100)) (hz_X10_measure hT _ _ rfl) rfl rfl ?_
    refine v_getR (c := 102) (r := 100) (hz_X10_measure hT _ _ rfl) rfl rfl rfl ?_
    refine v_load (v := (0, (fr : Int))) (hz_X10_measure hT _ _ rfl) rfl rfl ?_
    refine v_aldB (t := 0) (r := 102) (w := (f fr)) (hz_X10_measure hT _ _ rfl) rfl rfl rfl (fun _ _ => (congrArg Prod.snd (hf fr (by omega)))) (fun ha4 hb5 => ?_)
    refine v_push (64) (hz_X10_measure hT _ _ rfl) rfl ?_
    refine v_div (w := ((f fr) / 64)) (hz_X10_measure hT _ _ rfl) (fun _ => hq_quo (by omega) (by omega) (by omega) (by omega)) (fun hc6 => ?_)
    refine v_ret (hi_X10_measure_217 hT) (Or.inl rfl) ?_
    exact k1 ha1 hb2 hc3
theorem qk_tr0_39 {D : zD} {T : zT} (hT : hTab T) (hO : vOK T) {N : Nat} {h : zH} {Q : zR → Prop} {fr t : Nat} (hv0 : zHv h)
    (k0 : vP D T N 139 23 (zset (zset (zset h 100 7 (0, 0)) 104 0 (0, (fr : Int))) 100 8 (1, 0)) [some (2, 100), some (2, 39), some (0, (fr : Int)), some (0, (t : Int)), some (0, (fr : Int)), some (0, 1), none, none, none] [] Q) :
    vP D T N 139 0 h [some (2, 100), some (2, 39), some (0, (fr : Int)), some (0, (t : Int)), none, none, none, none, none] [] Q := by
  refine v_load (v := (0, (fr : Int))) (hz_X10_trace hT _ _ rfl) rfl rfl ?_
  refine v_store1 [some (2, 100), some (2, 39), some (0, (fr : Int)), some (0, (t : Int)), some (0, (fr : Int)), none, none, none, none] (hz_X10_trace hT _ _ rfl) ⟨rfl, Nat.ne_of_beq_eq_false rfl⟩ (Nat.le_of_ble_eq_true rfl) rfl ?_
  refine v_load (v := (2, 100)) (hz_X10_trace hT _ _ rfl) rfl rfl ?_
  refine v_push (0) (hz_X10_trace hT _ _ rfl) rfl ?_
  refine v_putf (r := 100) hO (hz_X10_trace hT _ _ rfl) rfl (fun hf1 => ?_)
  refine v_load (v := (2, 100)) (hz_X10_trace hT _ _ rfl) rfl rfl ?_
  refine v_getR (c := 104) (r := 100) (hz_X10_trace hT _ _ rfl) rfl rfl rfl ?_
  refine v_push (0) (hz_X10_trace hT _ _ rfl) rfl ?_
  refine v_load (v := (0, (fr : Int))) (hz_X10_trace hT _ _ rfl) rfl rfl ?_
  refine v_ast (r := 104) (hz_X10_trace hT _ _ rfl) rfl rfl (fun ha2 hb3 hf4 => ?_)
  refine v_load (v := (2, 100)) (hz_X10_trace hT _ _ rfl) rfl rfl ?_
  refine v_push (0) (hz_X10_trace hT _ _ rfl) rfl ?_
  refine v_putf (r := 100) hO (hz_X10_trace hT _ _ rfl) rfl (fun hf5 => ?_)
  refine v_push (1) (hz_X10_trace hT _ _ rfl) rfl ?_
  refine v_store1 [some (2, 100), some (2, 39), some (0, (fr : Int)), some (0, (t : Int)), some (0, (fr : Int)), some (0, 1), none, none, none] (hz_X10_trace hT _ _ rfl) ⟨rfl, Nat.ne_of_beq_eq_false rfl⟩ (Nat.le_of_ble_eq_true rfl) rfl ?_
  exact k0 
theorem qk_tr23_39 {D : zD} {T : zT} (hT : hTab T) (hO : vOK T) {N : Nat} {h : zH} {Q : zR → Prop} {t a s : Nat} (x : Int) (o1 o2 o3 : Option zV) (hv0 : zHv h)
    (k0 : ((s : Int) < 48) → ((a : Int) = (t : Int)) → Q (h, none))
    (k1 : ((s : Int) < 48) → ((a : Int) ≠ (t : Int)) → vP D T N 139 42 h [some (2, 100), some (2, 39), some (0, x), some (0, (t : Int)), some (0, (a : Int)), some (0, (s : Int)), some (0, -1), some (0, 0), o3] [] Q)
    (k2 : (48 ≤ (s : Int)) → Q (h, none)) :
    vP D T (N + 1) 139 23 h [some (2, 100), some (2, 39), some (0, x), some (0, (t : Int)), some (0, (a : Int)), some (0, (s : Int)), o1, o2, o3] [] Q := by
  refine v_loadS (v := (0, (s : Int))) (hz_X10_trace hT _ _ rfl) rfl rfl ?_
  refine v_push (48) (hz_X10_trace hT _ _ rfl) rfl ?_
  refine v_ic (hz_X10_trace hT _ _ rfl) (fun hc1 => ?_) (fun hc1 => ?_)
  · have hc1 : (s : Int) < 48 := hc1
    refine v_load (v := (0, (a : Int))) (hz_X10_trace hT _ _ rfl) rfl rfl ?_
    refine v_load (v := (0, (t : Int))) (hz_X10_trace hT _ _ rfl) rfl rfl ?_
    refine v_ic (hz_X10_trace hT _ _ rfl) (fun hc2 => ?_) (fun hc2 => ?_)
    · have hc2 : (a : Int) = (t : Int) := hc2
      refine v_ret0 (hi_X10_trace_165 hT) ?_
      exact k0 hc1 hc2
    · have hc2 : (a : Int) ≠ (t : Int) := hc2
      refine v_push (-1) (hz_X10_trace hT _ _ rfl) rfl ?_
      refine v_store1 [some (2, 100), some (2, 39), some (0, x), some (0, (t : Int)), some (0, (a : Int)), some (0, (s : Int)), some (0, -1), o2, o3] (hz_X10_trace hT _ _ rfl) ⟨rfl, Nat.ne_of_beq_eq_false rfl⟩ (Nat.le_of_ble_eq_true rfl) rfl ?_
      refine v_push (0) (hz_X10_trace hT _ _ rfl) rfl ?_
      refine v_store1 [some (2, 100), some (2, 39), some (0, x), some (0, (t : Int)), some (0, (a : Int)), some (0, (s : Int)), some (0, -1), some (0, 0), o3] (hz_X10_trace hT _ _ rfl) ⟨rfl, Nat.ne_of_beq_eq_false rfl⟩ (Nat.le_of_ble_eq_true rfl) rfl ?_
      exact k1 hc1 hc2
  · have hc1 : 48 ≤ (s : Int) := Int.not_lt.mp hc1
    refine v_ret0 (hi_X10_trace_165 hT) ?_
    exact k2 hc1
theorem qk_tr42_39 {D : zD} {T : zT} (hT : hTab T) (hO : vOK T) {N : Nat} {h : zH} {Q : zR → Prop} {P : PT} {t a s d : Nat} {co f : Nat → Int} (x nx : Int) (o3 : Option zV) (hv0 : zHv h) (p0 : h 39 0 = (0, P 0 0)) (p1 : h 39 1 = (0, P 0 1)) (lb : lB P) (hc : ∀ i, i < 48 → h 101 i = (0, co i)) (hf : ∀ i, i < 48 → h 102 i = (0, f i)) (bf : ∀ i, i < 48 → (0 ≤ f i ∧ f i ≤ 1000000) ∧ (0 ≤ co i ∧ co i ≤ 14)) (ga : gIn P a) (ha : a < 48) (hd4 : d ≤ 4)
    (k0 : ((d : Int) < 4) → (nx = -1) → (gNb P a d = -1) → vP D T N 139 42 h [some (2, 100), some (2, 39), some (0, x), some (0, (t : Int)), some (0, (a : Int)), some (0, (s : Int)), some (0, nx), some (0, ((d : Int) + 1)), some (0, -1)] [] Q)
    (k1 : ((d : Int) < 4) → (nx = -1) → ∀ (q3 : Nat), (gNb P a d = (q3 : Int)) → (gIn P q3) → ((q3 : Int) = -1) → vP D T N 139 42 h [some (2, 100), some (2, 39), some (0, x), some (0, (t : Int)), some (0, (a : Int)), some (0, (s : Int)), some (0, nx), some (0, ((d : Int) + 1)), some (0, (q3 : Int))] [] Q)
    (k2 : ((d : Int) < 4) → (nx = -1) → ∀ (q3 : Nat), (gNb P a d = (q3 : Int)) → (gIn P q3) → ((q3 : Int) ≠ -1) → (0 ≤ (q3 : Int)) → ((q3 : Int) < 48) → (0 < (co q3)) → (0 ≤ (a : Int)) → ((a : Int) < 48) → ((((f q3) + ((co q3) * 64)) + 1) = (f a)) → vP D T N 139 42 h [some (2, 100), some (2, 39), some (0, x), some (0, (t : Int)), some (0, (a : Int)), some (0, (s : Int)), some (0, (q3 : Int)), some (0, ((d : Int) + 1)), some (0, (q3 : Int))] [] Q)
    (k3 : ((d : Int) < 4) → (nx = -1) → ∀ (q3 : Nat), (gNb P a d = (q3 : Int)) → (gIn P q3) → ((q3 : Int) ≠ -1) → (0 ≤ (q3 : Int)) → ((q3 : Int) < 48) → (0 < (co q3)) → (0 ≤ (a : Int)) → ((a : Int) < 48) → ((((f q3) + ((co q3) * 64)) + 1) ≠ (f a)) → vP D T N 139 42 h [some (2, 100), some (2, 39), some (0, x), some (0, (t : Int)), some (0, (a : Int)), some (0, (s : Int)), some (0, nx), some (0, ((d : Int) + 1)), some (0, (q3 : Int))] [] Q)
    (k4 : ((d : Int) < 4) → (nx = -1) → ∀ (q3 : Nat), (gNb P a d = (q3 : Int)) → (gIn P q3) → ((q3 : Int) ≠ -1) → (0 ≤ (q3 : Int)) → ((q3 : Int) < 48) → ((co q3) ≤ 0) → vP D T N 139 42 h [some (2, 100), some (2, 39), some (0, x), some (0, (t : Int)), some (0, (a : Int)), some (0, (s : Int)), some (0, nx), some (0, ((d : Int) + 1)), some (0, (q3 : Int))] [] Q)
    (k5 : ((d : Int) < 4) → (nx ≠ -1) → vP D T N 139 120 h [some (2, 100), some (2, 39), some (0, x), some (0, (t : Int)), some (0, (a : Int)), some (0, (s : Int)), some (0, nx), some (0, (d : Int)), o3] [] Q)
    (k6 : (4 ≤ (d : Int)) → vP D T N 139 120 h [some (2, 100), some (2, 39), some (0, x), some (0, (t : Int)), some (0, (a : Int)), some (0, (s : Int)), some (0, nx), some (0, (d : Int)), o3] [] Q) :
    vP D T (N + 1) 139 42 h [some (2, 100), some (2, 39), some (0, x), some (0, (t : Int)), some (0, (a : Int)), some (0, (s : Int)), some (0, nx), some (0, (d : Int)), o3] [] Q := by
  refine v_loadS (v := (0, (d : Int))) (hz_X10_trace hT _ _ rfl) rfl rfl ?_
  refine v_push (4) (hz_X10_trace hT _ _ rfl) rfl ?_
  refine v_ic (hz_X10_trace hT _ _ rfl) (fun hc1 => ?_) (fun hc1 => ?_)
  · have hc1 : (d : Int) < 4 := hc1
    refine v_load (v := (0, nx)) (hz_X10_trace hT _ _ rfl) rfl rfl ?_
    refine v_push (-1) (hz_X10_trace hT _ _ rfl) rfl ?_
    refine v_ic (hz_X10_trace hT _ _ rfl) (fun hc2 => ?_) (fun hc2 => ?_)
    · have hc2 : nx = -1 := hc2
      refine v_load (v := (2, 39)) (hz_X10_trace hT _ _ rfl) rfl rfl ?_
      refine v_load (v := (0, (a : Int))) (hz_X10_trace hT _ _ rfl) rfl rfl ?_
      refine v_load (v := (0, (d : Int))) (hz_X10_trace hT _ _ rfl) rfl rfl ?_
      refine v_call (w := 4) [some (2, 39), some (0, (a : Int)), some (0, (d : Int)), none] hO (hz_X10_trace hT _ _ rfl) rfl rfl (cb_bes_39 hT hO ((a : Int)) ((d : Int)) a d rfl rfl ga (by omega) p0 p1 lb (fun en3 => ?_) (fun q3 en3 hg3 => ?_))
      · show vP D T N 139 62 h [some (2, 100), some (2, 39), some (0, x), some (0, (t : Int)), some (0, (a : Int)), some (0, (s : Int)), some (0, nx), some (0, (d : Int)), o3] [(0, -1)] _
        refine v_store1 [some (2, 100), some (2, 39), some (0, x), some (0, (t : Int)), some (0, (a : Int)), some (0, (s : Int)), some (0, nx), some (0, (d : Int)), some (0, -1)] (hi_X10_trace_62 hT) ⟨rfl, Nat.ne_of_beq_eq_false rfl⟩ (Nat.le_of_ble_eq_true rfl) rfl ?_
        refine v_load (v := (0, -1)) (hi_X10_trace_64 hT) rfl rfl ?_
        refine v_push (-1) (hi_X10_trace_66 hT) rfl ?_
        refine v_ic (hi_X10_trace_67 hT) (fun _ => ?_) (fun hc5 => absurd (show (-1 : Int) = -1 from (by decide)) hc5)
        refine v_iinc (x := (d : Int)) (u := 1) (w := ((d : Int) + 1)) [some (2, 100), some (2, 39), some (0, x), some (0, (t : Int)), some (0, (a : Int)), some (0, (s : Int)), some (0, nx), some (0, ((d : Int) + 1)), some (0, -1)] (hi_X10_trace_114 hT) rfl rfl (Nat.le_of_ble_eq_true rfl) (vz_inc (by omega) (by omega)) rfl ?_
        refine v_goto (hi_X10_trace_117 hT) ?_
        exact k0 hc1 hc2 en3
      · show vP D T N 139 62 h [some (2, 100), some (2, 39), some (0, x), some (0, (t : Int)), some (0, (a : Int)), some (0, (s : Int)), some (0, nx), some (0, (d : Int)), o3] [(0, (q3 : Int))] _
        have bq4 := bf q3 hg3.1
        refine v_store1 [some (2, 100), some (2, 39), some (0, x), some (0, (t : Int)), some (0, (a : Int)), some (0, (s : Int)), some (0, nx), some (0, (d : Int)), some (0, (q3 : Int))] (hi_X10_trace_62 hT) ⟨rfl, Nat.ne_of_beq_eq_false rfl⟩ (Nat.le_of_ble_eq_true rfl) rfl ?_
        refine v_load (v := (0, (q3 : Int))) (hi_X10_trace_64 hT) rfl rfl ?_
        refine v_push (-1) (hi_X10_trace_66 hT) rfl ?_
        refine v_ic (hi_X10_trace_67 hT) (fun hc6 => ?_) (fun hc6 => ?_)
        · have hc6 : (q3 : Int) = -1 := hc6
          refine v_iinc (x := (d : Int)) (u := 1) (w := ((d : Int) + 1)) [some (2, 100), some (2, 39), some (0, x), some (0, (t : Int)), some (0, (a : Int)), some (0, (s : Int)), some (0, nx), some (0, ((d : Int) + 1)), some (0, (q3 : Int))] (hi_X10_trace_114 hT) rfl rfl (Nat.le_of_ble_eq_true rfl) (vz_inc (by omega) (by omega)) rfl ?_
          refine v_goto (hi_X10_trace_117 hT) ?_
          exact k1 hc1 hc2 q3 en3 hg3 hc6
        · have hc6 : (q3 : Int) ≠ -1 := hc6
          refine v_load (v := (2, 100)) (hz_X10_trace hT _ _ rfl) rfl rfl ?_
          refine v_getR (c := 101) (r := 100) (hz_X10_trace hT _ _ rfl) rfl rfl rfl ?_
          refine v_load (v := (0, (q3 : Int))) (hz_X10_trace hT _ _ rfl) rfl rfl ?_
          refine v_aldB (t := 0) (r := 101) (w := (co q3)) (hz_X10_trace hT _ _ rfl) rfl rfl rfl (fun _ _ => (congrArg Prod.snd (hc q3 (by omega)))) (fun ha7 hb8 => ?_)
          refine v_if (hz_X10_trace hT _ _ rfl) (fun hc9 => ?_) (fun hc9 => ?_)
          · have hc9 : 0 < (co q3) := hc9
            refine v_load (v := (2, 100)) (hz_X10_trace hT _ _ rfl) rfl rfl ?_
            refine v_getR (c := 102) (r := 100) (hz_X10_trace hT _ _ rfl) rfl rfl rfl ?_
            refine v_load (v := (0, (q3 : Int))) (hz_X10_trace hT _ _ rfl) rfl rfl ?_
            refine v_aldB (t := 0) (r := 102) (w := (f q3)) (hz_X10_trace hT _ _ rfl) rfl rfl rfl (fun _ _ => (congrArg Prod.snd (hf q3 (by omega)))) (fun ha10 hb11 => ?_)
            refine v_load (v := (2, 100)) (hz_X10_trace hT _ _ rfl) rfl rfl ?_
            refine v_getR (c := 101) (r := 100) (hz_X10_trace hT _ _ rfl) rfl rfl rfl ?_
            refine v_load (v := (0, (q3 : Int))) (hz_X10_trace hT _ _ rfl) rfl rfl ?_
            refine v_aldB (t := 0) (r := 101) (w := (co q3)) (hz_X10_trace hT _ _ rfl) rfl rfl rfl (fun _ _ => (congrArg Prod.snd (hc q3 (by omega)))) (fun ha12 hb13 => ?_)
            refine v_push (64) (hz_X10_trace hT _ _ rfl) rfl ?_
            refine v_bin (w := ((co q3) * 64)) (hz_X10_trace hT _ _ rfl) (hq_mul (by omega) (by omega)) ?_
            refine v_bin (w := ((f q3) + ((co q3) * 64))) (hz_X10_trace hT _ _ rfl) (hq_add (by omega) (by omega)) ?_
            refine v_push (1) (hz_X10_trace hT _ _ rfl) rfl ?_
            refine v_bin (w := (((f q3) + ((co q3) * 64)) + 1)) (hz_X10_trace hT _ _ rfl) (hq_add (by omega) (by omega)) ?_
            refine v_load (v := (2, 100)) (hz_X10_trace hT _ _ rfl) rfl rfl ?_
            refine v_getR (c := 102) (r := 100) (hz_X10_trace hT _ _ rfl) rfl rfl rfl ?_
            refine v_load (v := (0, (a : Int))) (hz_X10_trace hT _ _ rfl) rfl rfl ?_
            refine v_aldB (t := 0) (r := 102) (w := (f a)) (hz_X10_trace hT _ _ rfl) rfl rfl rfl (fun _ _ => (congrArg Prod.snd (hf a (by omega)))) (fun ha14 hb15 => ?_)
            refine v_ic (hz_X10_trace hT _ _ rfl) (fun hc16 => ?_) (fun hc16 => ?_)
            · have hc16 : (((f q3) + ((co q3) * 64)) + 1) = (f a) := hc16
              refine v_load (v := (0, (q3 : Int))) (hz_X10_trace hT _ _ rfl) rfl rfl ?_
              refine v_store1 [some (2, 100), some (2, 39), some (0, x), some (0, (t : Int)), some (0, (a : Int)), some (0, (s : Int)), some (0, (q3 : Int)), some (0, (d : Int)), some (0, (q3 : Int))] (hz_X10_trace hT _ _ rfl) ⟨rfl, Nat.ne_of_beq_eq_false rfl⟩ (Nat.le_of_ble_eq_true rfl) rfl ?_
              refine v_iinc (x := (d : Int)) (u := 1) (w := ((d : Int) + 1)) [some (2, 100), some (2, 39), some (0, x), some (0, (t : Int)), some (0, (a : Int)), some (0, (s : Int)), some (0, (q3 : Int)), some (0, ((d : Int) + 1)), some (0, (q3 : Int))] (hi_X10_trace_114 hT) rfl rfl (Nat.le_of_ble_eq_true rfl) (vz_inc (by omega) (by omega)) rfl ?_
              refine v_goto (hi_X10_trace_117 hT) ?_
              exact k2 hc1 hc2 q3 en3 hg3 hc6 ha7 hb8 hc9 ha14 hb15 hc16
            · have hc16 : (((f q3) + ((co q3) * 64)) + 1) ≠ (f a) := hc16
              refine v_iinc (x := (d : Int)) (u := 1) (w := ((d : Int) + 1)) [some (2, 100), some (2, 39), some (0, x), some (0, (t : Int)), some (0, (a : Int)), some (0, (s : Int)), some (0, nx), some (0, ((d : Int) + 1)), some (0, (q3 : Int))] (hi_X10_trace_114 hT) rfl rfl (Nat.le_of_ble_eq_true rfl) (vz_inc (by omega) (by omega)) rfl ?_
              refine v_goto (hi_X10_trace_117 hT) ?_
              exact k3 hc1 hc2 q3 en3 hg3 hc6 ha7 hb8 hc9 ha14 hb15 hc16
          · have hc9 : (co q3) ≤ 0 := Int.not_lt.mp hc9
            refine v_iinc (x := (d : Int)) (u := 1) (w := ((d : Int) + 1)) [some (2, 100), some (2, 39), some (0, x), some (0, (t : Int)), some (0, (a : Int)), some (0, (s : Int)), some (0, nx), some (0, ((d : Int) + 1)), some (0, (q3 : Int))] (hi_X10_trace_114 hT) rfl rfl (Nat.le_of_ble_eq_true rfl) (vz_inc (by omega) (by omega)) rfl ?_
            refine v_goto (hi_X10_trace_117 hT) ?_
            exact k4 hc1 hc2 q3 en3 hg3 hc6 ha7 hb8 hc9
    · have hc2 : nx ≠ -1 := hc2
      exact k5 hc1 hc2
  · have hc1 : 4 ≤ (d : Int) := Int.not_lt.mp hc1
    exact k6 hc1
theorem qk_tr120_39 {D : zD} {T : zT} (hT : hTab T) (hO : vOK T) {N : Nat} {h : zH} {Q : zR → Prop} {t s : Nat} {z : Int} (x y nx : Int) (o2 o3 : Option zV) (hv0 : zHv h) (ez : h 100 8 = (1, z)) (hs : s < 48)
    (k0 : (nx = -1) → Q (h, none))
    (k1 : (nx ≠ -1) → (0 ≤ (s : Int)) → ((s : Int) < 48) → vP D T N 139 23 (zset (zset (zset h 104 (((s : Int)).toNat) (0, nx)) 100 7 (0, (s : Int))) 100 8 (1, (v64 4 z ((vS 0 1 nx))))) [some (2, 100), some (2, 39), some (0, x), some (0, (t : Int)), some (0, nx), some (0, ((s : Int) + 1)), some (0, nx), o2, o3] [] Q) :
    vP D T N 139 120 h [some (2, 100), some (2, 39), some (0, x), some (0, (t : Int)), some (0, y), some (0, (s : Int)), some (0, nx), o2, o3] [] Q := by
  refine v_load (v := (0, nx)) (hz_X10_trace hT _ _ rfl) rfl rfl ?_
  refine v_push (-1) (hz_X10_trace hT _ _ rfl) rfl ?_
  refine v_ic (hz_X10_trace hT _ _ rfl) (fun hc1 => ?_) (fun hc1 => ?_)
  · have hc1 : nx = -1 := hc1
    refine v_ret0 (hz_X10_trace hT _ _ rfl) ?_
    exact k0 hc1
  · have hc1 : nx ≠ -1 := hc1
    refine v_load (v := (0, nx)) (hz_X10_trace hT _ _ rfl) rfl rfl ?_
    refine v_store1 [some (2, 100), some (2, 39), some (0, x), some (0, (t : Int)), some (0, nx), some (0, (s : Int)), some (0, nx), o2, o3] (hz_X10_trace hT _ _ rfl) ⟨rfl, Nat.ne_of_beq_eq_false rfl⟩ (Nat.le_of_ble_eq_true rfl) rfl ?_
    refine v_load (v := (2, 100)) (hz_X10_trace hT _ _ rfl) rfl rfl ?_
    refine v_getR (c := 104) (r := 100) (hz_X10_trace hT _ _ rfl) rfl rfl rfl ?_
    refine v_load (v := (0, (s : Int))) (hz_X10_trace hT _ _ rfl) rfl rfl ?_
    refine v_load (v := (0, nx)) (hz_X10_trace hT _ _ rfl) rfl rfl ?_
    refine v_ast (r := 104) (hz_X10_trace hT _ _ rfl) rfl rfl (fun ha2 hb3 hf4 => ?_)
    refine v_load (v := (2, 100)) (hz_X10_trace hT _ _ rfl) rfl rfl ?_
    refine v_load (v := (0, (s : Int))) (hz_X10_trace hT _ _ rfl) rfl rfl ?_
    refine v_putf (r := 100) hO (hz_X10_trace hT _ _ rfl) rfl (fun hf5 => ?_)
    refine v_load (v := (2, 100)) (hz_X10_trace hT _ _ rfl) rfl rfl ?_
    refine v_dup (hz_X10_trace hT _ _ rfl) (Nat.ne_of_beq_eq_false rfl) ?_
    refine v_getf (v := (1, z)) (r := 100) (hz_X10_trace hT _ _ rfl) rfl rfl (fun _ => Eq.trans (Eq.trans (zset_ne (fun c => absurd c.2 (by decide))) (zset_ne (fun c => absurd c.1 (by decide)))) (ez)) ?_
    refine v_push (1) (hz_X10_trace hT _ _ rfl) rfl ?_
    refine v_load (v := (0, nx)) (hz_X10_trace hT _ _ rfl) rfl rfl ?_
    refine v_sh64 (w := (vS 0 1 nx)) (hz_X10_trace hT _ _ rfl) rfl ?_
    refine v_bin64 (w := (v64 4 z ((vS 0 1 nx)))) (hz_X10_trace hT _ _ rfl) rfl ?_
    refine v_putf (r := 100) hO (hz_X10_trace hT _ _ rfl) rfl (fun hf6 => ?_)
    refine v_iinc (x := (s : Int)) (u := 1) (w := ((s : Int) + 1)) [some (2, 100), some (2, 39), some (0, x), some (0, (t : Int)), some (0, nx), some (0, ((s : Int) + 1)), some (0, nx), o2, o3] (hz_X10_trace hT _ _ rfl) rfl rfl (Nat.le_of_ble_eq_true rfl) (vz_inc (by omega) (by omega)) rfl ?_
    refine v_goto (hz_X10_trace hT _ _ rfl) ?_
    exact k1 hc1 ha2 hb3
theorem qk_rt0_39 {D : zD} {T : zT} (hT : hTab T) (hO : vOK T) {N : Nat} {h : zH} {Q : zR → Prop} {P : PT} {m : Nat} (hv0 : zHv h) (hP : cP 39 P h) (hm : m < 6) (hk : (m : Int) < P 0 3)
    (k0 : (0 ≤ (m : Int)) → ((m : Int) < 6) → vP D T N 136 0 h [some (2, 100), some (2, 39), some (0, (P 6 m)), some (0, (P 7 m)), none, none, none, none, none] [] (fun r1 => vP D T N 138 17 r1.1 [some (2, 100), some (2, 39), some (0, (m : Int)), none] (zpush r1.2 []) Q)) :
    vP D T N 138 0 h [some (2, 100), some (2, 39), some (0, (m : Int)), none] [] Q := by
  refine v_load (v := (2, 100)) (hz_X10_retrace hT _ _ rfl) rfl rfl ?_
  refine v_load (v := (2, 39)) (hz_X10_retrace hT _ _ rfl) rfl rfl ?_
  refine v_load (v := (2, 39)) (hz_X10_retrace hT _ _ rfl) rfl rfl ?_
  refine v_getR (c := 45) (r := 39) (hz_X10_retrace hT _ _ rfl) rfl rfl rfl ?_
  refine v_load (v := (0, (m : Int))) (hz_X10_retrace hT _ _ rfl) rfl rfl ?_
  refine v_aldB (t := 0) (r := 45) (w := (P 6 m)) (hz_X10_retrace hT _ _ rfl) rfl rfl rfl (fun _ _ => (congrArg Prod.snd ((cP.a6 hP) m (by omega)))) (fun ha1 hb2 => ?_)
  refine v_load (v := (2, 39)) (hz_X10_retrace hT _ _ rfl) rfl rfl ?_
  refine v_getR (c := 46) (r := 39) (hz_X10_retrace hT _ _ rfl) rfl rfl rfl ?_
  refine v_load (v := (0, (m : Int))) (hz_X10_retrace hT _ _ rfl) rfl rfl ?_
  refine v_aldB (t := 0) (r := 46) (w := (P 7 m)) (hz_X10_retrace hT _ _ rfl) rfl rfl rfl (fun _ _ => (congrArg Prod.snd ((cP.a7 hP) m (by omega)))) (fun ha3 hb4 => ?_)
  refine v_call (w := 9) [some (2, 100), some (2, 39), some (0, (P 6 m)), some (0, (P 7 m)), none, none, none, none, none] hO (hz_X10_retrace hT _ _ rfl) rfl rfl ?_
  exact k0 ha1 hb2
theorem qk_rt17_39 {D : zD} {T : zT} (hT : hTab T) (hO : vOK T) {N : Nat} {h : zH} {Q : zR → Prop} {P : PT} {m : Nat} (p : Int) (hv0 : zHv h) (hP : cP 39 P h) (hm : m < 6) (hk : (m : Int) < P 0 3)
    (k0 : (p = -1) → Q (zset h 100 8 (1, 0), some (0, p)))
    (k1 : (p ≠ -1) → (0 ≤ (m : Int)) → ((m : Int) < 6) → vP D T N 139 0 (zset h 100 8 (1, 0)) [some (2, 100), some (2, 39), some (0, (P 6 m)), some (0, (P 7 m)), none, none, none, none, none] [] (fun r1 => vP D T N 138 45 r1.1 [some (2, 100), some (2, 39), some (0, (m : Int)), some (0, p)] (zpush r1.2 []) Q)) :
    vP D T N 138 17 h [some (2, 100), some (2, 39), some (0, (m : Int)), none] [(0, p)] Q := by
  refine v_store1 [some (2, 100), some (2, 39), some (0, (m : Int)), some (0, p)] (hz_X10_retrace hT _ _ rfl) ⟨rfl, Nat.ne_of_beq_eq_false rfl⟩ (Nat.le_of_ble_eq_true rfl) rfl ?_
  refine v_load (v := (2, 100)) (hz_X10_retrace hT _ _ rfl) rfl rfl ?_
  refine v_push (0) (hz_X10_retrace hT _ _ rfl) rfl ?_
  refine v_putf (r := 100) hO (hz_X10_retrace hT _ _ rfl) rfl (fun hf1 => ?_)
  refine v_load (v := (0, p)) (hz_X10_retrace hT _ _ rfl) rfl rfl ?_
  refine v_push (-1) (hz_X10_retrace hT _ _ rfl) rfl ?_
  refine v_ic (hz_X10_retrace hT _ _ rfl) (fun hc2 => ?_) (fun hc2 => ?_)
  · have hc2 : p = -1 := hc2
    refine v_load (v := (0, p)) (hi_X10_retrace_45 hT) rfl rfl ?_
    refine v_ret (hi_X10_retrace_46 hT) (Or.inl rfl) ?_
    exact k0 hc2
  · have hc2 : p ≠ -1 := hc2
    refine v_load (v := (2, 100)) (hz_X10_retrace hT _ _ rfl) rfl rfl ?_
    refine v_load (v := (2, 39)) (hz_X10_retrace hT _ _ rfl) rfl rfl ?_
    refine v_load (v := (2, 39)) (hz_X10_retrace hT _ _ rfl) rfl rfl ?_
    refine v_getR (c := 45) (r := 39) (hz_X10_retrace hT _ _ rfl) rfl rfl rfl ?_
    refine v_load (v := (0, (m : Int))) (hz_X10_retrace hT _ _ rfl) rfl rfl ?_
    refine v_aldB (t := 0) (r := 45) (w := (P 6 m)) (hz_X10_retrace hT _ _ rfl) rfl rfl rfl (fun _ _ => (congrArg Prod.snd ((zset_ne (fun c => absurd c.1 (by decide))).trans ((cP.a6 hP) m (by omega))))) (fun ha3 hb4 => ?_)
    refine v_load (v := (2, 39)) (hz_X10_retrace hT _ _ rfl) rfl rfl ?_
    refine v_getR (c := 46) (r := 39) (hz_X10_retrace hT _ _ rfl) rfl rfl rfl ?_
    refine v_load (v := (0, (m : Int))) (hz_X10_retrace hT _ _ rfl) rfl rfl ?_
    refine v_aldB (t := 0) (r := 46) (w := (P 7 m)) (hz_X10_retrace hT _ _ rfl) rfl rfl rfl (fun _ _ => (congrArg Prod.snd ((zset_ne (fun c => absurd c.1 (by decide))).trans ((cP.a7 hP) m (by omega))))) (fun ha5 hb6 => ?_)
    refine v_call (w := 9) [some (2, 100), some (2, 39), some (0, (P 6 m)), some (0, (P 7 m)), none, none, none, none, none] hO (hz_X10_retrace hT _ _ rfl) rfl rfl ?_
    exact k1 hc2 ha3 hb4
theorem qk_rt45_39 {D : zD} {T : zT} (hT : hTab T) (hO : vOK T) {N : Nat} {h : zH} {Q : zR → Prop} {m : Nat} (p : Int) (hv0 : zHv h)
    (k0 : Q (h, some (0, p))) :
    vP D T N 138 45 h [some (2, 100), some (2, 39), some (0, (m : Int)), some (0, p)] [] Q := by
  refine v_load (v := (0, p)) (hi_X10_retrace_45 hT) rfl rfl ?_
  refine v_ret (hi_X10_retrace_46 hT) (Or.inl rfl) ?_
  exact k0 
theorem qk_fw0_39 {D : zD} {T : zT} (hT : hTab T) (hO : vOK T) {N : Nat} {h : zH} {Q : zR → Prop} {P : PT} {m : Nat} (hv0 : zHv h) (hP : cP 39 P h) (hm : m < 6) (hk : (m : Int) < P 0 3)
    (k0 : (0 ≤ (m : Int)) → ((m : Int) < 6) → vP D T N 134 0 h [some (2, 100), some (2, 39), some (0, (P 8 m)), none] [] (fun r1 => vP D T N 132 11 r1.1 [some (2, 100), some (2, 39), some (0, (m : Int))] (zpush r1.2 []) Q)) :
    vP D T N 132 0 h [some (2, 100), some (2, 39), some (0, (m : Int))] [] Q := by
  refine v_load (v := (2, 100)) (hz_X10_findWay hT _ _ rfl) rfl rfl ?_
  refine v_load (v := (2, 39)) (hz_X10_findWay hT _ _ rfl) rfl rfl ?_
  refine v_load (v := (2, 39)) (hz_X10_findWay hT _ _ rfl) rfl rfl ?_
  refine v_getR (c := 47) (r := 39) (hz_X10_findWay hT _ _ rfl) rfl rfl rfl ?_
  refine v_load (v := (0, (m : Int))) (hz_X10_findWay hT _ _ rfl) rfl rfl ?_
  refine v_aldB (t := 0) (r := 47) (w := (P 8 m)) (hz_X10_findWay hT _ _ rfl) rfl rfl rfl (fun _ _ => (congrArg Prod.snd ((cP.a8 hP) m (by omega)))) (fun ha1 hb2 => ?_)
  refine v_call (w := 4) [some (2, 100), some (2, 39), some (0, (P 8 m)), none] hO (hz_X10_findWay hT _ _ rfl) rfl rfl ?_
  exact k0 ha1 hb2
theorem qk_fw11_39 {D : zD} {T : zT} (hT : hTab T) (hO : vOK T) {N : Nat} {h : zH} {Q : zR → Prop} {m : Nat} (hv0 : zHv h)
    (k0 : vP D T N 138 0 h [some (2, 100), some (2, 39), some (0, (m : Int)), none] [] (fun r1 => vP D T N 132 17 r1.1 [some (2, 100), some (2, 39), some (0, (m : Int))] (zpush r1.2 []) Q)) :
    vP D T N 132 11 h [some (2, 100), some (2, 39), some (0, (m : Int))] [] Q := by
  refine v_load (v := (2, 100)) (hz_X10_findWay hT _ _ rfl) rfl rfl ?_
  refine v_load (v := (2, 39)) (hz_X10_findWay hT _ _ rfl) rfl rfl ?_
  refine v_load (v := (0, (m : Int))) (hz_X10_findWay hT _ _ rfl) rfl rfl ?_
  refine v_call (w := 4) [some (2, 100), some (2, 39), some (0, (m : Int)), none] hO (hz_X10_findWay hT _ _ rfl) rfl rfl ?_
  exact k0 
theorem qk_fw17_39 {D : zD} {T : zT} (hT : hTab T) (hO : vOK T) {N : Nat} {h : zH} {Q : zR → Prop} {m : Nat} (p : Int) (hv0 : zHv h)
    (k0 : Q (h, some (0, p))) :
    vP D T N 132 17 h [some (2, 100), some (2, 39), some (0, (m : Int))] [(0, p)] Q := by
  refine v_ret (hz_X10_findWay hT _ _ rfl) (Or.inl rfl) ?_
  exact k0 
theorem cx_la_39 {D : zD} {T : zT} (hT : hTab T) (hO : vOK T) {N : Nat} {h : zH} {Q : zR → Prop} {P : PT} (x : Int) (j : Nat) (ex : x = (j : Int)) (hP : cP 39 P h) (hb : fB P) (hj : j < 3) (k : ∀ g : zH, (∀ q, q < 48 → g 101 q = (0, gCo P j q)) → (∀ a b, a ≠ 101 → g a b = h a b) → Q (g, none)) : vP D T N 134 0 h [some (2, 100), some (2, 39), some (0, x), none] [] Q := by
  subst ex
  refine vP_hv (fun hv => qk_la0_39 (P := P) hT hO hv ?_)
  refine vP_loop (fun h' l => ∃ i : Nat, i ≤ 48 ∧ l = [some (2, 100), some (2, 39), some (0, (j : Int)), some (0, (i : Int))] ∧ (∀ q, q < i → h' 101 q = (0, gCo P j q)) ∧ ∀ a b, a ≠ 101 → h' a b = h a b) ?_ N h _ ⟨0, by decide, rfl, fun q hq => absurd hq (Nat.not_lt_zero _), fun _ _ _ => rfl⟩
  rintro N h' l ⟨i, hi, rfl, h1, h2⟩ ih
  refine vP_hv (fun hv' => qk_la2_39 hT hO hv' (hP.eq (fun a b _ _ => h2 a b (by omega))) hb hj hi ?_ ?_ ?_)
  · intro c1 c2 _
    refine ih _ _ ⟨i + 1, by omega, rfl, fun q hq => ?_, fun a b ha => (zset_ne (fun c => ha c.1)).trans (h2 a b ha)⟩
    by_cases e : q = i
    · subst e
      rw [Int.toNat_natCast, zset_same, show gCo P j q = gSh P j q from if_neg (by rw [gIx_y c2]; decide)]
    · rw [Int.toNat_natCast, zset_ne (fun c => e c.2)]
      exact h1 q (by omega)
  · intro c1 c2 _
    refine ih _ _ ⟨i + 1, by omega, rfl, fun q hq => ?_, fun a b ha => (zset_ne (fun c => ha c.1)).trans (h2 a b ha)⟩
    by_cases e : q = i
    · subst e
      rw [Int.toNat_natCast, zset_same, show gCo P j q = 0 from if_pos (gIx_n (by omega) c2)]
    · rw [Int.toNat_natCast, zset_ne (fun c => e c.2)]
      exact h1 q (by omega)
  · intro c1
    exact k h' (fun q hq => h1 q (by omega)) h2
theorem cx_lg_39 {D : zD} {T : zT} (hT : hTab T) (hO : vOK T) {N : Nat} {h : zH} {Q : zR → Prop} {P : PT} (hP : cP 39 P h) (hb : fB P) (k : ∀ g : zH, (∀ q, q < 48 → g 101 q = (0, gCg P q)) → (∀ a b, a ≠ 101 → g a b = h a b) → Q (g, none)) : vP D T N 135 0 h [some (2, 100), some (2, 39), none] [] Q := by
  refine vP_hv (fun hv => qk_lg0_39 (P := P) (i := 0) hT hO hv ?_)
  refine vP_loop (fun h' l => ∃ i : Nat, i ≤ 48 ∧ l = [some (2, 100), some (2, 39), some (0, (i : Int))] ∧ (∀ q, q < i → h' 101 q = (0, gCg P q)) ∧ ∀ a b, a ≠ 101 → h' a b = h a b) ?_ N h _ ⟨0, by decide, rfl, fun q hq => absurd hq (Nat.not_lt_zero _), fun _ _ _ => rfl⟩
  rintro N h' l ⟨i, hi, rfl, h1, h2⟩ ih
  refine vP_hv (fun hv' => qk_lg2_39 hT hO hv' (hP.eq (fun a b _ _ => h2 a b (by omega))) hb hi ?_ ?_ ?_)
  · intro c1 c2 _
    refine ih _ _ ⟨i + 1, by omega, rfl, fun q hq => ?_, fun a b ha => (zset_ne (fun c => ha c.1)).trans (h2 a b ha)⟩
    by_cases e : q = i
    · subst e
      rw [Int.toNat_natCast, zset_same, show gCg P q = gGr P q from if_neg (by rw [gIx_y c2]; decide)]
    · rw [Int.toNat_natCast, zset_ne (fun c => e c.2)]
      exact h1 q (by omega)
  · intro c1 c2 _
    refine ih _ _ ⟨i + 1, by omega, rfl, fun q hq => ?_, fun a b ha => (zset_ne (fun c => ha c.1)).trans (h2 a b ha)⟩
    by_cases e : q = i
    · subst e
      rw [Int.toNat_natCast, zset_same, show gCg P q = 0 from if_pos (gIx_n (by omega) c2)]
    · rw [Int.toNat_natCast, zset_ne (fun c => e c.2)]
      exact h1 q (by omega)
  · intro c1
    exact k h' (fun q hq => h1 q (by omega)) h2
/-- the queue's loops, out of what they know -/
theorem cx_meL_39 {D : zD} {T : zT} (hT : hTab T) (hO : vOK T) {h : zH} {Q : zR → Prop} {P : PT} {co d : Nat → Int} {fr to : Nat} (lb : lB P) (p0 : h 39 0 = (0, P 0 0)) (p1 : h 39 1 = (0, P 0 1)) (hc : ∀ i, i < 48 → h 101 i = (0, co i)) (bc : ∀ i, i < 48 → 0 ≤ co i ∧ co i ≤ 14) (gf : gIn P fr) (hD : wD (gIn P) (gNb P) co g100 to d) (k : ∀ (g : zH) (f : Nat → Int), mFr h g → (∀ i, i < 48 → g 102 i = (0, f i)) → (∀ i, i < 48 → 0 ≤ f i ∧ f i ≤ 1000000) → (∀ a, gIn P a → wEe d a ≤ f a) → (∀ a, wGd (gIn P) (wEe d) fr a → f a = wEe d a) → Q (g, some (0, if d fr < wFar then d fr / 100 else -1))) : ∀ N, (∀ (h' : zH) (f : Nat → Int) (q : List Nat) (tk : Nat) (o0 o1 o2 o3 : Option zV), tk ≤ 2304 → mFr h h' → wHp h' f q → wOS (gIn P) (gNb P) co d to fr tk f q → vP D T N 136 33 h' [some (2, 100), some (2, 39), some (0, (fr : Int)), some (0, (to : Int)), some (0, (tk : Int)), o0, o1, o2, o3] [] Q) ∧ (∀ (h' : zH) (f : Nat → Int) (q : List Nat) (tk b m : Nat) (w : Int) (o0 : Option zV), tk < 2304 → m ≤ 4 → w = g64 (co b) + f b → mFr h h' → wHp h' f q → wIS (gIn P) (gNb P) co d to fr tk b m f q → vP D T N 136 118 h' [some (2, 100), some (2, 39), some (0, (fr : Int)), some (0, (to : Int)), some (0, (tk : Int)), some (0, (b : Int)), some (0, w), some (0, (m : Int)), o0] [] Q) := by
  have hok := gOk lb
  have hco : ∀ a, gIn P a → co a ≤ 14 := fun a ga => (bc a ga.1).2
  have fin : ∀ (N : Nat) (h' : zH) (f : Nat → Int) (tk : Nat) (o0 o1 o2 o3 o4 o5 : Option zV), mFr h h' → wHp h' f [] → wOS (gIn P) (gNb P) co d to fr tk f [] → vP D T N 136 193 h' [some (2, 100), some (2, 39), some (0, (fr : Int)), o0, o1, o2, o3, o4, o5] [] Q := by
    intro N h' f tk o0 o1 o2 o3 o4 o5 hm hw hs
    have hx := wOS_end hok hco hD gf hs
    have lo := wLow hok hco hD hs.1
    have kk := k h' f hm hw.1 hs.2.2.2 lo hx
    have xf := hx fr ⟨gf, Or.inr rfl⟩
    have bd := hs.2.2.2 fr gf.1
    have b0 := hD.2.1.1 fr gf
    refine vP_hv (fun hv => qk_me193_39 hT hO o0 o1 o2 o3 o4 o5 hv hw.1 gf.1 bd ?_ ?_)
    · intro _ _ c
      refine cb_eq kk (if_neg (fun c2 => ?_))
      have := (wE_lt (d := d) b0.1).mpr c2
      rw [← xf, c] at this
      exact absurd this (by decide)
    · intro _ _ c
      have c2 : d fr < wFar := by
        by_cases c3 : d fr < wFar
        · exact c3
        · rw [xf, wE_n c3] at c
          exact absurd rfl c
      refine cb_eq kk ((if_pos c2).trans ?_)
      rw [xf]
      exact (wE_m hok.1 hco hD gf c2).2.symm
  intro N
  induction N with
  | zero => exact ⟨fun _ _ _ _ _ _ _ _ _ _ _ _ _ n r hn => absurd hn (Nat.not_lt_zero _), fun _ _ _ _ _ _ _ _ _ _ _ _ _ _ _ n r hn => absurd hn (Nat.not_lt_zero _)⟩
  | succ N ih =>
    constructor
    · intro h' f q tk o0 o1 o2 o3 htk hm hw hs
      have hw' := hw
      obtain ⟨g1, hd, z, a3, a4, a5, a6, a7, a8⟩ := hw'
      have l48 := wNd hok.1 hs.1.2.2.1 (fun x hx => (hs.1.2.2.2 x hx).1)
      have hc' : ∀ i, i < 48 → h' 101 i = (0, co i) := fun i hi => (hm 101 i (by omega)).trans (hc i hi)
      cases q with
      | nil =>
        have e5 : h' 100 5 = (0, (hd : Int)) := a5.trans (by rw [show (hd + ([] : List Nat).length) % 64 = hd from by show (hd + 0) % 64 = hd; omega])
        refine vP_hv (fun hv => ?_)
        by_cases c : (tk : Int) < 2304
        · exact qk_me33e_39 hT hO fr to o0 o1 o2 o3 hv a4 e5 c (fin N h' f tk _ _ _ _ _ _ hm hw hs)
        · exact qk_me33f_39 hT hO fr to o0 o1 o2 o3 hv (by omega) (fin N h' f tk _ _ _ _ _ _ hm hw hs)
      | cons b q =>
        have hb : b < 48 := (hs.1.2.2.2 b List.mem_cons_self).1.1
        have eb : h' 103 hd = (0, (b : Int)) := by
          have := a7 0 (Nat.succ_pos _)
          rw [show (hd + 0) % 64 = hd by omega] at this
          exact this
        have hl : (b :: q).length = q.length + 1 := rfl
        refine vP_hv (fun hv => qk_me33_39 hT hO (fr : Int) (to : Int) o0 o1 o2 o3 hv a3 a4 a5 hc' g1 a6 (Nat.mod_lt _ (by decide)) eb hb (hs.2.2.2 b hb) (bc b hb) ?_ ?_ ?_)
        · intro c1 c2
          rw [hl] at c2 l48
          omega
        · intro c1 c2 _ _ _ _
          have hi := wOS_pop hok hco hD gf hs
          exact ih.2 _ f q tk b 0 _ _ (by omega) (by decide) (by unfold g64; omega) ((hm.z (by omega)).z (by omega)) (wHp_pop hb hi.2.1.2.1 hw a3 a4) hi
        · intro c1
          have : tk = 2304 := by omega
          subst this
          exact (wOS_full hok hs).elim
    · intro h' f q tk b m w o0 htk hm4 hww hm hw hi
      have hw' := hw
      obtain ⟨g1, hd, z, a3, a4, a5, a6, a7, a8⟩ := hw'
      have l48 := wNd hok.1 hi.1.2.2.1 (fun x hx => (hi.1.2.2.2 x hx).1)
      have hc' : ∀ i, i < 48 → h' 101 i = (0, co i) := fun i hi => (hm 101 i (by omega)).trans (hc i hi)
      have gb := hi.2.1.1
      refine vP_hv (fun hv => qk_me118_39 hT hO (to : Int) w o0 hv ((hm 39 0 (by omega)).trans p0) ((hm 39 1 (by omega)).trans p1) lb a3 a4 a5 hc' g1 a6 (Nat.mod_lt _ (by decide)) gb gb.1 gf.1 hm4 htk ?_ ?_ ?_ ?_ ?_ ?_ ?_ ?_)
      · intro c1 _ _ c2 c3
        exact ih.2 _ f q tk b (m + 1) w _ htk (by omega) hww hm hw (wIS_stay hi (fun a ha => by rw [ha] at c3; omega))
      · intro c1 _ _ c2 q5 c3 c4 c5
        omega
      · intro c1 _ _ c2 q5 c3 c4 c5 _ _ c6 _ _ c7 c8 _ _
        have nm : q5 ∉ q := fun mem => by
          rw [wB_tst c4.1, a8 q5 c4.1, decide_eq_true mem] at c8
          exact absurd c8 (by decide)
        have hp := wIS_push hok hco hD gf (by omega) hi c4 c2 c3 hww c6 c7
        have l2 := wNd hok.1 hp.1.2.2.1 (fun x hx => (hp.1.2.2.2 x hx).1)
        have e2 : (wPush q5 w (f, q)).2 = q ++ [q5] := if_neg nm
        rw [e2, List.length_append] at l2
        have l2 : q.length + 1 ≤ 48 := l2
        refine ih.2 _ (wPush q5 w (f, q)).1 (wPush q5 w (f, q)).2 tk b (m + 1) w _ htk (by omega) ?_ ((((hm.z (by omega)).z (by omega)).z (by omega)).z (by omega)) (wHp_push c4.1 nm (by omega) hw a3 a5) hp
        rw [hww]
        refine congrArg (fun y => g64 (co b) + y) ?_
        refine (if_neg (fun c => ?_)).symm
        have gp := g64_p _ c2
        rw [← c] at c6
        omega
      · intro c1 _ _ c2 q5 c3 c4 c5 _ _ c6 _ _ c7 c8
        have nm : q5 ∈ q := by
          by_cases mem : q5 ∈ q
          · exact mem
          · rw [wB_tst c4.1, a8 q5 c4.1, decide_eq_false mem] at c8
            exact absurd rfl c8
        have hp := wIS_push hok hco hD gf (by omega) hi c4 c2 c3 hww c6 c7
        refine ih.2 _ (wPush q5 w (f, q)).1 (wPush q5 w (f, q)).2 tk b (m + 1) w _ htk (by omega) ?_ (hm.z (by omega)) (wHp_far nm hw) hp
        rw [hww]
        refine congrArg (fun y => g64 (co b) + y) ?_
        refine (if_neg (fun c => ?_)).symm
        have gp := g64_p _ c2
        rw [← c] at c6
        omega
      · intro c1 _ _ c2 q5 c3 c4 c5 _ _ c6 _ _ c7
        exact ih.2 _ f q tk b (m + 1) w _ htk (by omega) hww hm hw (wIS_stay hi (fun a ha => Or.inr (by omega)))
      · intro c1 _ _ c2 q5 c3 c4 c5 _ _ c6
        refine ih.2 _ f q tk b (m + 1) w _ htk (by omega) hww hm hw (wIS_stay hi (fun a ha => Or.inl ?_))
        rw [c3] at ha
        have : q5 = a := by omega
        rw [← this]
        omega
      · intro c1 _ _ c2
        exact ih.1 _ f q (tk + 1) _ _ _ _ (by omega) hm hw (wIS_end hi (Or.inr c2))
      · intro c1
        exact ih.1 _ f q (tk + 1) _ _ _ _ (by omega) hm hw (wIS_end hi (Or.inl (by omega)))
/-- measure() -/
theorem cx_me_39 {D : zD} {T : zT} (hT : hTab T) (hO : vOK T) {N : Nat} {h : zH} {Q : zR → Prop} {P : PT} {co d : Nat → Int} (x y : Int) (fr to : Nat) (ex : x = (fr : Int)) (ey : y = (to : Int)) (lb : lB P) (p0 : h 39 0 = (0, P 0 0)) (p1 : h 39 1 = (0, P 0 1)) (hc : ∀ i, i < 48 → h 101 i = (0, co i)) (bc : ∀ i, i < 48 → 0 ≤ co i ∧ co i ≤ 14) (gf : gIn P fr) (gt : gIn P to) (hD : wD (gIn P) (gNb P) co g100 to d) (k : ∀ (g : zH) (f : Nat → Int), mFr h g → (∀ i, i < 48 → g 102 i = (0, f i)) → (∀ i, i < 48 → 0 ≤ f i ∧ f i ≤ 1000000) → (∀ a, gIn P a → wEe d a ≤ f a) → (∀ a, wGd (gIn P) (wEe d) fr a → f a = wEe d a) → Q (g, some (0, if d fr < wFar then d fr / 100 else -1))) : vP D T N 136 0 h [some (2, 100), some (2, 39), some (0, x), some (0, y), none, none, none, none, none] [] Q := by
  subst ex ey
  have hok := gOk lb
  have hco : ∀ a, gIn P a → co a ≤ 14 := fun a ga => (bc a ga.1).2
  refine vP_hv (fun hv => qk_me0_39 (P := P) hT hO (fr : Int) hv gt.1 ?_ ?_)
  · intro g1 u _ _ _
    refine (cx_meL_39 hT hO lb p0 p1 hc bc gf hD k N).1 _ (fun i => if i = to then 0 else wFar) [to] 0 none none none none (by decide) ?_ ?_ (wOS_ini hok hco hD gt)
    · refine ((((((mFr.z (by omega) (mFr.z (by omega) (mFr.z (by omega) ?_))).z (by omega)).z (by omega)).z (by omega)).z (by omega)))
      exact fun a b hn => (u a b).trans (if_neg (fun c => hn (by omega)))
    · refine ⟨fun i hi => ?_, 0, _, (zset_ne (by omega)).trans ((zset_ne (by omega)).trans zset_same), (zset_ne (by omega)).trans ((zset_ne (by omega)).trans ((zset_ne (by omega)).trans ((zset_ne (by omega)).trans ((zset_ne (by omega)).trans zset_same)))), zset_same, by decide, fun i hi => ?_, fun x hx => ?_⟩
      · refine (zset_ne (by omega)).trans ((zset_ne (by omega)).trans ((zset_ne (by omega)).trans ?_))
        rw [Int.toNat_natCast]
        show zset _ 102 to (0, 0) 102 i = (0, if i = to then (0 : Int) else wFar)
        by_cases c : i = to
        · rw [c, if_pos rfl]; exact zset_same
        · rw [if_neg c]
          refine (zset_ne (fun e => c e.2)).trans ((zset_ne (by omega)).trans ((zset_ne (by omega)).trans ((zset_ne (by omega)).trans ((u 102 i).trans (if_pos ⟨rfl, hi⟩)))))
      · have hi : i < 1 := hi
        have : i = 0 := by omega
        subst this
        exact (zset_ne (by omega)).trans zset_same
      · rw [wB_set gt.1 hx, wB_0 x hx]
        simp
  · intro g1 u _ _ c
    rw [wB_tst gt.1, wB_0 to gt.1] at c
    exact absurd rfl c
/-- trace(): the row that was measured, step by step -/
theorem cx_trL_39 {D : zD} {T : zT} (hT : hTab T) (hO : vOK T) {h : zH} {Q : zR → Prop} {P : PT} {co d f : Nat → Int} {fr to : Nat} (lb : lB P) (p0 : h 39 0 = (0, P 0 0)) (p1 : h 39 1 = (0, P 0 1)) (hc : ∀ i, i < 48 → h 101 i = (0, co i)) (bc : ∀ i, i < 48 → 0 ≤ co i ∧ co i ≤ 14) (hf : ∀ i, i < 48 → h 102 i = (0, f i)) (bf : ∀ i, i < 48 → 0 ≤ f i ∧ f i ≤ 1000000) (gf : gIn P fr) (ff : d fr < wFar) (hD : wD (gIn P) (gNb P) co g100 to d) (lo : ∀ a, gIn P a → wEe d a ≤ f a) (hx : ∀ a, wGd (gIn P) (wEe d) fr a → f a = wEe d a) (k : ∀ g : zH, tFr h g → tHp (wPt (gNb P) co d fr) (d fr % 100).toNat g → Q (g, none)) : ∀ N, (∀ (h' : zH) (n : Nat) (o1 o2 o3 : Option zV), (n : Int) ≤ d fr % 100 → tFr h h' → tHp (wPt (gNb P) co d fr) n h' → vP D T N 139 23 h' [some (2, 100), some (2, 39), some (0, (fr : Int)), some (0, (to : Int)), some (0, ((wPt (gNb P) co d fr n : Nat) : Int)), some (0, ((n + 1 : Nat) : Int)), o1, o2, o3] [] Q) ∧ (∀ (h' : zH) (n m : Nat) (nx : Int) (o3 : Option zV), (n : Int) < d fr % 100 → m ≤ 4 → tFr h h' → tHp (wPt (gNb P) co d fr) n h' → ((nx = -1 ∧ m ≤ wDr (gNb P) co d (wPt (gNb P) co d fr n)) ∨ (nx = ((wPt (gNb P) co d fr (n + 1) : Nat) : Int) ∧ m = wDr (gNb P) co d (wPt (gNb P) co d fr n) + 1)) → vP D T N 139 42 h' [some (2, 100), some (2, 39), some (0, (fr : Int)), some (0, (to : Int)), some (0, ((wPt (gNb P) co d fr n : Nat) : Int)), some (0, ((n + 1 : Nat) : Int)), some (0, nx), some (0, (m : Int)), o3] [] Q) := by
  have hok := gOk lb
  have hco : ∀ a, gIn P a → co a ≤ 14 := fun a ga => (bc a ga.1).2
  have r47 := wrank2 hok.1 hco hD gf ff
  have pt : ∀ n : Nat, (n : Int) ≤ d fr % 100 → gIn P (wPt (gNb P) co d fr n) ∧ d (wPt (gNb P) co d fr n) < wFar := fun n hn => ⟨(wPt_ok hok hco hD gf ff n hn).1, (wPt_ok hok hco hD gf ff n hn).2.1⟩
  have gd : ∀ n : Nat, (n : Int) ≤ d fr % 100 → wGd (gIn P) (wEe d) fr (wPt (gNb P) co d fr n) := by
    intro n
    induction n with
    | zero => exact fun _ => ⟨gf, Or.inr rfl⟩
    | succ n ih =>
      intro hn
      have g := ih (by omega)
      obtain ⟨c1, f1⟩ := pt n (by omega)
      have nt : wPt (gNb P) co d fr n ≠ to := fun c => by
        have := (wPt_to hok hco hD gf ff (i := n) (by omega)).mp c
        omega
      obtain ⟨_, _, _, k4, _, k6, k7, k8⟩ := wNx_ok hok hD c1 nt f1
      have s2 := wsuc2 hok.1 hco hD c1 k4 f1 k7 k8
      refine ⟨k4, Or.inl ?_⟩
      have e1 := wE_f f1
      have e2 := wE_f k7
      show wEe d (wNx (gNb P) co d (wPt (gNb P) co d fr n)) < wEe d fr
      rcases g.2 with l | l
      · omega
      · have el : wEe d (wPt (gNb P) co d fr n) = wEe d fr := by rw [l]
        omega
  intro N
  induction N with
  | zero => exact ⟨fun _ _ _ _ _ _ _ _ _ n r hn => absurd hn (Nat.not_lt_zero _), fun _ _ _ _ _ _ _ _ _ _ _ n r hn => absurd hn (Nat.not_lt_zero _)⟩
  | succ N ih =>
    constructor
    · intro h' n o1 o2 o3 hn hm hp
      have wt := wPt_to hok hco hD gf ff (i := n) hn
      refine vP_hv (fun hv => qk_tr23_39 hT hO (t := to) (a := wPt (gNb P) co d fr n) (s := n + 1) (fr : Int) o1 o2 o3 hv ?_ ?_ ?_)
      · intro _ c
        have e := wt.mp (by omega)
        refine k h' hm ?_
        rw [show (d fr % 100).toNat = n by omega]
        exact hp
      · intro _ c
        have : (n : Int) ≠ d fr % 100 := fun e => c (by rw [wt.mpr e])
        exact ih.2 h' n 0 (-1) _ (by omega) (by decide) hm hp (Or.inl ⟨rfl, Nat.zero_le _⟩)
      · intro c
        refine k h' hm ?_
        rw [show (d fr % 100).toNat = n by omega]
        exact hp
    · intro h' n m nx o3 hn hm4 hm hp hs
      obtain ⟨c1, f1⟩ := pt n (by omega)
      have nt : wPt (gNb P) co d fr n ≠ to := fun c => by
        have := (wPt_to hok hco hD gf ff (i := n) (by omega)).mp c
        omega
      obtain ⟨k1, k2, k3, k4, k5, k6, k7, k8⟩ := wNx_ok hok hD c1 nt f1
      have g := gd n (by omega)
      have hc' : ∀ i, i < 48 → h' 101 i = (0, co i) := fun i hi => (hm 101 i (by omega)).trans (hc i hi)
      have hf' : ∀ i, i < 48 → h' 102 i = (0, f i) := fun i hi => (hm 102 i (by omega)).trans (hf i hi)
      have out : nx = ((wPt (gNb P) co d fr (n + 1) : Nat) : Int) → ∀ (m : Nat) (o2 : Option zV) (M : Nat), M ≤ N → vP D T M 139 120 h' [some (2, 100), some (2, 39), some (0, (fr : Int)), some (0, (to : Int)), some (0, ((wPt (gNb P) co d fr n : Nat) : Int)), some (0, ((n + 1 : Nat) : Int)), some (0, nx), o2, o3] [] Q := by
        intro en m o2 M hM
        obtain ⟨_, _, z, e8, _⟩ := id hp
        refine vP_hv (fun hv => qk_tr120_39 hT hO (t := to) (s := n + 1) (fr : Int) ((wPt (gNb P) co d fr n : Nat) : Int) nx o2 o3 hv e8 (by omega) ?_ ?_)
        · intro c
          omega
        · intro _ _ _
          rw [en]
          exact vP_le hM (ih.1 _ (n + 1) _ _ _ (by omega) (((hm.z (by omega)).z (by omega)).z (by omega)) (tHp_s (pt (n + 1) (by omega)).1.1 hp e8))
      refine vP_hv (fun hv => qk_tr42_39 hT hO (fr : Int) nx o3 hv ((hm 39 0 (by omega)).trans p0) ((hm 39 1 (by omega)).trans p1) lb hc' hf' (fun i hi => ⟨bf i hi, bc i hi⟩) c1 c1.1 hm4 ?_ ?_ ?_ ?_ ?_ ?_ ?_)
      · intro q1 q2 q3
        rcases hs with ⟨_, l⟩ | ⟨e, _⟩
        · refine ih.2 h' n (m + 1) nx _ hn (by omega) hm hp (Or.inl ⟨q2, ?_⟩)
          by_cases c : m = wDr (gNb P) co d (wPt (gNb P) co d fr n)
          · rw [← c, q3] at k5
            omega
          · omega
        · omega
      · intros
        omega
      · intro q1 q2 q5 q3 q4 _ _ _ q6 _ _ q7
        rcases hs with ⟨_, l⟩ | ⟨e, _⟩
        · have hit := (wHit hok hco hD lo hx g f1 q4 (by omega) q3).mp ⟨q6, by omega⟩
          have em : m = wDr (gNb P) co d (wPt (gNb P) co d fr n) := by
            by_cases c : m = wDr (gNb P) co d (wPt (gNb P) co d fr n)
            · exact c
            · exact absurd hit (k3 m (by omega))
          refine ih.2 h' n (m + 1) _ _ hn (by omega) hm hp (Or.inr ⟨?_, by omega⟩)
          rw [← em, q3] at k5
          exact k5
        · omega
      · intro q1 q2 q5 q3 q4 _ _ _ q6 _ _ q7
        rcases hs with ⟨_, l⟩ | ⟨e, _⟩
        · refine ih.2 h' n (m + 1) nx _ hn (by omega) hm hp (Or.inl ⟨q2, ?_⟩)
          by_cases c : m = wDr (gNb P) co d (wPt (gNb P) co d fr n)
          · exact absurd ((wHit hok hco hD lo hx g f1 q4 (by omega) q3).mpr (by rw [c]; exact k2)).2 (by omega)
          · omega
        · omega
      · intro q1 q2 q5 q3 q4 _ _ _ q6
        rcases hs with ⟨_, l⟩ | ⟨e, _⟩
        · refine ih.2 h' n (m + 1) nx _ hn (by omega) hm hp (Or.inl ⟨q2, ?_⟩)
          by_cases c : m = wDr (gNb P) co d (wPt (gNb P) co d fr n)
          · have := ((wHit hok hco hD lo hx g f1 q4 (by omega) q3).mpr (by rw [c]; exact k2)).1
            omega
          · omega
        · omega
      · intro q1 q2
        rcases hs with ⟨e, _⟩ | ⟨e, _⟩
        · exact absurd e q2
        · exact out e m _ N (Nat.le_refl _)
      · intro q1
        rcases hs with ⟨e, l⟩ | ⟨e, _⟩
        · omega
        · exact out e m _ N (Nat.le_refl _)
theorem cx_tr_39 {D : zD} {T : zT} (hT : hTab T) (hO : vOK T) {N : Nat} {h : zH} {Q : zR → Prop} {P : PT} {co d f : Nat → Int} (x y : Int) (fr to : Nat) (ex : x = (fr : Int)) (ey : y = (to : Int)) (lb : lB P) (p0 : h 39 0 = (0, P 0 0)) (p1 : h 39 1 = (0, P 0 1)) (hc : ∀ i, i < 48 → h 101 i = (0, co i)) (bc : ∀ i, i < 48 → 0 ≤ co i ∧ co i ≤ 14) (hf : ∀ i, i < 48 → h 102 i = (0, f i)) (bf : ∀ i, i < 48 → 0 ≤ f i ∧ f i ≤ 1000000) (gf : gIn P fr) (ff : d fr < wFar) (hD : wD (gIn P) (gNb P) co g100 to d) (lo : ∀ a, gIn P a → wEe d a ≤ f a) (hx : ∀ a, wGd (gIn P) (wEe d) fr a → f a = wEe d a) (k : ∀ g : zH, tFr h g → tHp (wPt (gNb P) co d fr) (d fr % 100).toNat g → Q (g, none)) : vP D T N 139 0 h [some (2, 100), some (2, 39), some (0, x), some (0, y), none, none, none, none, none] [] Q := by
  subst ex ey
  refine vP_hv (fun hv => qk_tr0_39 hT hO (fr := fr) (t := to) hv ?_)
  have b0 := hD.2.1.1 fr gf
  exact (cx_trL_39 hT hO lb p0 p1 hc bc hf bf gf ff hD lo hx k N).1 _ 0 _ _ _ (by omega) (((tFr.rf.z (by omega)).z (by omega)).z (by omega)) (tHp_0 rfl)
/-- retrace(): a COMPANY's row by the costs as they are -/
theorem cx_rt_39 {D : zD} {T : zT} (hT : hTab T) (hO : vOK T) {N : Nat} {h : zH} {Q : zR → Prop} {P : PT} {co : Nat → Int} (x : Int) (m : Nat) (ex : x = (m : Int)) (hP : cP 39 P h) (hb : fB P) (hm : (m : Int) < P 0 3) (hc : ∀ i, i < 48 → h 101 i = (0, co i)) (bc : ∀ i, i < 48 → 0 ≤ co i ∧ co i ≤ 14) (k : ∀ g : zH, wFr h g → yOK P co (P 6 m).toNat (P 7 m).toNat g → Q (g, some (0, yCost P co (P 6 m).toNat (P 7 m).toNat))) : vP D T N 138 0 h [some (2, 100), some (2, 39), some (0, x), none] [] Q := by
  subst ex
  obtain ⟨lb, _, _, hk⟩ := hb
  obtain ⟨_, ⟨b6, g6⟩, ⟨b7, g7⟩, _⟩ := hk m hm
  have hD := dW_ok (P := P) (co := co) (to := (P 7 m).toNat)
  have m6 : m < 6 := by have := lb.2.2.2.2; omega
  refine vP_hv (fun hv => qk_rt0_39 hT hO hv hP m6 hm (fun _ _ => ?_))
  refine cx_me_39 hT hO _ _ (P 6 m).toNat (P 7 m).toNat (by omega) (by omega) lb hP.1.1 hP.1.2.1 hc bc g6 g7 hD ?_
  intro g f u1 u2 u3 u4 u5
  show vP D T N 138 17 g [some (2, 100), some (2, 39), some (0, (m : Int)), none] [(0, yCost P co (P 6 m).toNat (P 7 m).toNat)] Q
  have hP1 : cP 39 P g := hP.eq (fun a b _ _ => u1 a b (by omega))
  refine vP_hv (fun hv1 => qk_rt17_39 hT hO (yCost P co (P 6 m).toNat (P 7 m).toNat) hv1 hP1 m6 hm ?_ ?_)
  · intro c
    refine k _ (fun a b hn => (zset_ne (by omega)).trans (u1 a b (by omega))) ⟨fun _ => zset_same, fun ff => ?_⟩
    have b0 := hD.2.1.1 _ g6
    have : yCost P co (P 6 m).toNat (P 7 m).toNat = dW P co (P 7 m).toNat (P 6 m).toNat / 100 := if_pos ff
    omega
  · intro c _ _
    have ff : dW P co (P 7 m).toNat (P 6 m).toNat < wFar := by
      by_cases c2 : dW P co (P 7 m).toNat (P 6 m).toNat < wFar
      · exact c2
      · exact absurd (if_neg c2) c
    have hP2 : cP 39 P (zset g 100 8 (1, 0)) := hP1.eq (fun a b _ _ => zset_ne (by omega))
    refine cx_tr_39 hT hO _ _ (P 6 m).toNat (P 7 m).toNat (by omega) (by omega) lb hP2.1.1 hP2.1.2.1 (fun i hi => (zset_ne (by omega)).trans ((u1 101 i (by omega)).trans (hc i hi))) bc (fun i hi => (zset_ne (by omega)).trans (u2 i hi)) u3 g6 ff hD u4 u5 ?_
    intro g2 v1 v2
    show vP D T N 138 45 g2 [some (2, 100), some (2, 39), some (0, (m : Int)), some (0, yCost P co (P 6 m).toNat (P 7 m).toNat)] [] Q
    refine vP_hv (fun hv2 => qk_rt45_39 hT hO (yCost P co (P 6 m).toNat (P 7 m).toNat) hv2 ?_)
    exact k g2 (fun a b hn => (v1 a b (by omega)).trans ((zset_ne (by omega)).trans (u1 a b (by omega)))) ⟨fun c3 => absurd c3 c, fun _ => v2⟩
/-- findWay() -/
theorem cx_fw_39 {D : zD} {T : zT} (hT : hTab T) (hO : vOK T) {N : Nat} {h : zH} {Q : zR → Prop} {P : PT} (x : Int) (m : Nat) (ex : x = (m : Int)) (hP : cP 39 P h) (hb : fB P) (hm : (m : Int) < P 0 3) (k : ∀ g : zH, wFr1 h g → (∀ q, q < 48 → g 101 q = (0, gCo P (P 8 m).toNat q)) → yOK P (gCo P (P 8 m).toNat) (P 6 m).toNat (P 7 m).toNat g → Q (g, some (0, yCost P (gCo P (P 8 m).toNat) (P 6 m).toNat (P 7 m).toNat))) : vP D T N 132 0 h [some (2, 100), some (2, 39), some (0, x)] [] Q := by
  subst ex
  obtain ⟨lb, _, _, hk⟩ := id hb
  obtain ⟨_, _, _, b8, c8⟩ := hk m hm
  have m6 : m < 6 := by have := lb.2.2.2.2; omega
  have l3 := lb.2.2.1.2
  refine vP_hv (fun hv => qk_fw0_39 hT hO hv hP m6 hm (fun _ _ => ?_))
  refine cx_la_39 hT hO _ (P 8 m).toNat (by omega) hP hb (by omega) ?_
  intro g u1 u2
  show vP D T N 132 11 g [some (2, 100), some (2, 39), some (0, (m : Int))] [] Q
  refine vP_hv (fun hv1 => qk_fw11_39 hT hO hv1 ?_)
  refine cx_rt_39 hT hO _ m rfl (hP.eq (fun a b _ _ => u2 a b (by omega))) hb hm u1 (fun i hi => gCo_b hb hi) ?_
  intro g2 v1 v2
  show vP D T N 132 17 g2 [some (2, 100), some (2, 39), some (0, (m : Int))] [(0, yCost P (gCo P (P 8 m).toNat) (P 6 m).toNat (P 7 m).toNat)] Q
  refine vP_hv (fun hv2 => qk_fw17_39 hT hO _ hv2 ?_)
  exact k g2 (fun a b hn => (v1 a b (by omega)).trans (u2 a b (by omega))) (fun q hq => (v1 101 q (by omega)).trans (u1 q hq)) v2
end
section
theorem qk_eat_39 {D : zD} {T : zT} (hT : hTab T) (hO : vOK T) {N : Nat} {h : zH} {Q : zR → Prop} {P : PT} {j q : Nat} (hv0 : zHv h) (hP : cP 39 P h) (hb : fB P) (hj : j < 3) (hq : q < 48)
    (k0 : ((P 3 (48 * j + q)) = 1) → Q (h, some (0, 0)))
    (k1 : ((P 3 (48 * j + q)) ≠ 1) → (0 ≤ (((j : Int) * 48) + (q : Int))) → ((((j : Int) * 48) + (q : Int)) < 144) → Q (zset (zset h 42 (((((j : Int) * 48) + (q : Int))).toNat) (0, 1)) 39 4 (0, (wA ((P 0 4)) ((gCr P q)))), some (0, 1))) :
    vP D T N 35 0 h [some (2, 39), some (0, (j : Int)), some (0, (q : Int))] [] Q := by
  refine v_load (v := (2, 39)) (hz_X2_eat hT _ _ rfl) rfl rfl ?_
  refine v_load (v := (0, (j : Int))) (hz_X2_eat hT _ _ rfl) rfl rfl ?_
  refine v_load (v := (0, (q : Int))) (hz_X2_eat hT _ _ rfl) rfl rfl ?_
  refine v_call (w := 3) [some (2, 39), some (0, (j : Int)), some (0, (q : Int))] hO (hz_X2_eat hT _ _ rfl) rfl rfl (cb_st_39 hT hO ((j : Int)) ((q : Int)) j q rfl rfl (by omega) (by omega) hP.2.2.2.1 ?_)
  show vP D T N 35 6 h [some (2, 39), some (0, (j : Int)), some (0, (q : Int))] [(0, (P 3 (48 * j + q)))] _
  refine v_push (1) (hz_X2_eat hT _ _ rfl) rfl ?_
  refine v_ic (hz_X2_eat hT _ _ rfl) (fun hc1 => ?_) (fun hc1 => ?_)
  · have hc1 : (P 3 (48 * j + q)) = 1 := hc1
    refine v_push (0) (hz_X2_eat hT _ _ rfl) rfl ?_
    refine v_ret (hz_X2_eat hT _ _ rfl) (Or.inl rfl) ?_
    exact k0 hc1
  · have hc1 : (P 3 (48 * j + q)) ≠ 1 := hc1
    refine v_load (v := (2, 39)) (hz_X2_eat hT _ _ rfl) rfl rfl ?_
    refine v_getR (c := 42) (r := 39) (hz_X2_eat hT _ _ rfl) rfl rfl rfl ?_
    refine v_load (v := (0, (j : Int))) (hz_X2_eat hT _ _ rfl) rfl rfl ?_
    refine v_push (48) (hz_X2_eat hT _ _ rfl) rfl ?_
    refine v_bin (w := ((j : Int) * 48)) (hz_X2_eat hT _ _ rfl) (hq_mul (by omega) (by omega)) ?_
    refine v_load (v := (0, (q : Int))) (hz_X2_eat hT _ _ rfl) rfl rfl ?_
    refine v_bin (w := (((j : Int) * 48) + (q : Int))) (hz_X2_eat hT _ _ rfl) (hq_add (by omega) (by omega)) ?_
    refine v_push (1) (hz_X2_eat hT _ _ rfl) rfl ?_
    refine v_ast (r := 42) (hz_X2_eat hT _ _ rfl) rfl rfl (fun ha2 hb3 hf4 => ?_)
    refine v_load (v := (2, 39)) (hz_X2_eat hT _ _ rfl) rfl rfl ?_
    refine v_dup (hz_X2_eat hT _ _ rfl) (Nat.ne_of_beq_eq_false rfl) ?_
    refine v_getf (v := (0, (P 0 4))) (r := 39) (hz_X2_eat hT _ _ rfl) rfl rfl (fun _ => Eq.trans (zset_ne (fun c => absurd c.1 (by decide))) (hP.1.2.2.2.2)) ?_
    refine v_load (v := (2, 39)) (hz_X2_eat hT _ _ rfl) rfl rfl ?_
    refine v_load (v := (0, (q : Int))) (hz_X2_eat hT _ _ rfl) rfl rfl ?_
    refine v_call (w := 2) [some (2, 39), some (0, (q : Int))] hO (hz_X2_eat hT _ _ rfl) rfl rfl (cb_cr_39 hT hO ((q : Int)) q rfl (by omega) hb (fun i hi => (zset_ne (fun c => absurd c.1 (by decide))).trans (hP.2.1 i hi)) (fun i hi => (zset_ne (fun c => absurd c.1 (by decide))).trans (hP.2.2.1 i hi)) ?_)
    show vP D T N 35 34 (zset h 42 (((((j : Int) * 48) + (q : Int))).toNat) (0, 1)) [some (2, 39), some (0, (j : Int)), some (0, (q : Int))] [(0, (gCr P q)), (0, (P 0 4)), (2, 39)] _
    refine v_bin (w := (wA ((P 0 4)) ((gCr P q)))) (hz_X2_eat hT _ _ rfl) rfl ?_
    refine v_putf (r := 39) hO (hz_X2_eat hT _ _ rfl) rfl (fun hf5 => ?_)
    refine v_push (1) (hz_X2_eat hT _ _ rfl) rfl ?_
    refine v_ret (hz_X2_eat hT _ _ rfl) (Or.inl rfl) ?_
    exact k1 hc1 ha2 hb3
theorem cb_eat_39 {D : zD} {T : zT} (hT : hTab T) (hO : vOK T) {N : Nat} {h : zH} {Q : zR → Prop} {P : PT} (x y : Int) (j q : Nat) (ex : x = (j : Int)) (ey : y = (q : Int)) (hj : j < 3) (hq : q < 48) (hP : cP 39 P h) (hb : fB P) (k1 : P 3 (48 * j + q) = 1 → Q (h, some (0, 0))) (k2 : P 3 (48 * j + q) ≠ 1 → ∀ g, cP 39 (pBite P j q) g → cFr 39 h g → Q (g, some (0, 1))) : vP D T N 35 0 h [some (2, 39), some (0, x), some (0, y)] [] Q := by
  subst ex ey
  refine vP_hv (fun hv => qk_eat_39 hT hO hv hP hb hj hq ?_ ?_)
  · intro c
    exact k1 c
  · intro c _ _
    rw [show ((j : Int) * 48 + (q : Int)).toNat = 48 * j + q from by omega]
    exact k2 c _ hP.s3.s04 (cFr.z (by omega) (cFr.z (by omega) (fun _ _ _ => rfl)))
theorem qk_mo_39 {D : zD} {T : zT} (hT : hTab T) (hO : vOK T) {N : Nat} {h : zH} {Q : zR → Prop} {P : PT} {j q : Nat} (hv0 : zHv h) (hP : cP 39 P h) (hb : fB P) (hj : j < 3) (hq : q < 48)
    (k0 : ((P 3 (48 * j + q)) = 0) → (0 ≤ (((j : Int) * 48) + (q : Int))) → ((((j : Int) * 48) + (q : Int)) < 144) → Q (zset h 42 (((((j : Int) * 48) + (q : Int))).toNat) (0, 2), some (0, 1)))
    (k1 : ((P 3 (48 * j + q)) ≠ 0) → Q (h, some (0, 0))) :
    vP D T N 39 0 h [some (2, 39), some (0, (j : Int)), some (0, (q : Int))] [] Q := by
  refine v_load (v := (2, 39)) (hz_X2_growMould hT _ _ rfl) rfl rfl ?_
  refine v_load (v := (0, (j : Int))) (hz_X2_growMould hT _ _ rfl) rfl rfl ?_
  refine v_load (v := (0, (q : Int))) (hz_X2_growMould hT _ _ rfl) rfl rfl ?_
  refine v_call (w := 3) [some (2, 39), some (0, (j : Int)), some (0, (q : Int))] hO (hz_X2_growMould hT _ _ rfl) rfl rfl (cb_st_39 hT hO ((j : Int)) ((q : Int)) j q rfl rfl (by omega) (by omega) hP.2.2.2.1 ?_)
  show vP D T N 39 6 h [some (2, 39), some (0, (j : Int)), some (0, (q : Int))] [(0, (P 3 (48 * j + q)))] _
  refine v_if (hz_X2_growMould hT _ _ rfl) (fun hc1 => ?_) (fun hc1 => ?_)
  · have hc1 : (P 3 (48 * j + q)) = 0 := hc1
    refine v_load (v := (2, 39)) (hz_X2_growMould hT _ _ rfl) rfl rfl ?_
    refine v_getR (c := 42) (r := 39) (hz_X2_growMould hT _ _ rfl) rfl rfl rfl ?_
    refine v_load (v := (0, (j : Int))) (hz_X2_growMould hT _ _ rfl) rfl rfl ?_
    refine v_push (48) (hz_X2_growMould hT _ _ rfl) rfl ?_
    refine v_bin (w := ((j : Int) * 48)) (hz_X2_growMould hT _ _ rfl) (hq_mul (by omega) (by omega)) ?_
    refine v_load (v := (0, (q : Int))) (hz_X2_growMould hT _ _ rfl) rfl rfl ?_
    refine v_bin (w := (((j : Int) * 48) + (q : Int))) (hz_X2_growMould hT _ _ rfl) (hq_add (by omega) (by omega)) ?_
    refine v_push (2) (hz_X2_growMould hT _ _ rfl) rfl ?_
    refine v_ast (r := 42) (hz_X2_growMould hT _ _ rfl) rfl rfl (fun ha2 hb3 hf4 => ?_)
    refine v_push (1) (hz_X2_growMould hT _ _ rfl) rfl ?_
    refine v_ret (hz_X2_growMould hT _ _ rfl) (Or.inl rfl) ?_
    exact k0 hc1 ha2 hb3
  · have hc1 : (P 3 (48 * j + q)) ≠ 0 := hc1
    refine v_push (0) (hz_X2_growMould hT _ _ rfl) rfl ?_
    refine v_ret (hz_X2_growMould hT _ _ rfl) (Or.inl rfl) ?_
    exact k1 hc1
theorem cb_mo_39 {D : zD} {T : zT} (hT : hTab T) (hO : vOK T) {N : Nat} {h : zH} {Q : zR → Prop} {P : PT} (x y : Int) (j q : Nat) (ex : x = (j : Int)) (ey : y = (q : Int)) (hj : j < 3) (hq : q < 48) (hP : cP 39 P h) (hb : fB P) (k1 : P 3 (48 * j + q) ≠ 0 → Q (h, some (0, 0))) (k2 : P 3 (48 * j + q) = 0 → ∀ g, cP 39 (pSt P j q 2) g → cFr 39 h g → Q (g, some (0, 1))) : vP D T N 39 0 h [some (2, 39), some (0, x), some (0, y)] [] Q := by
  subst ex ey
  refine vP_hv (fun hv => qk_mo_39 hT hO hv hP hb hj hq ?_ ?_) <;> intros
  all_goals first
    | exact k1 (by omega)
    | (rw [show ((j : Int) * 48 + (q : Int)).toNat = 48 * j + q from by omega]; exact k2 (by omega) _ hP.s3 (cFr.z (by omega) (fun _ _ _ => rfl)))
theorem qk_ho_39 {D : zD} {T : zT} (hT : hTab T) (hO : vOK T) {N : Nat} {h : zH} {Q : zR → Prop} {P : PT} {j q : Nat} (hv0 : zHv h) (hP : cP 39 P h) (hb : fB P) (hj : j < 3) (hq : q < 48)
    (k0 : ((P 3 (48 * j + q)) = 0) → (0 ≤ (((j : Int) * 48) + (q : Int))) → ((((j : Int) * 48) + (q : Int)) < 144) → Q (zset h 42 (((((j : Int) * 48) + (q : Int))).toNat) (0, 3), some (0, 1)))
    (k1 : ((P 3 (48 * j + q)) ≠ 0) → ((P 3 (48 * j + q)) = 2) → (0 ≤ (((j : Int) * 48) + (q : Int))) → ((((j : Int) * 48) + (q : Int)) < 144) → Q (zset h 42 (((((j : Int) * 48) + (q : Int))).toNat) (0, 3), some (0, 1)))
    (k2 : ((P 3 (48 * j + q)) ≠ 0) → ((P 3 (48 * j + q)) ≠ 2) → Q (h, some (0, 0))) :
    vP D T N 55 0 h [some (2, 39), some (0, (j : Int)), some (0, (q : Int)), none] [] Q := by
  refine v_load (v := (2, 39)) (hz_X2_spreadHoney hT _ _ rfl) rfl rfl ?_
  refine v_load (v := (0, (j : Int))) (hz_X2_spreadHoney hT _ _ rfl) rfl rfl ?_
  refine v_load (v := (0, (q : Int))) (hz_X2_spreadHoney hT _ _ rfl) rfl rfl ?_
  refine v_call (w := 3) [some (2, 39), some (0, (j : Int)), some (0, (q : Int))] hO (hz_X2_spreadHoney hT _ _ rfl) rfl rfl (cb_st_39 hT hO ((j : Int)) ((q : Int)) j q rfl rfl (by omega) (by omega) hP.2.2.2.1 ?_)
  show vP D T N 55 6 h [some (2, 39), some (0, (j : Int)), some (0, (q : Int)), none] [(0, (P 3 (48 * j + q)))] _
  refine v_store1 [some (2, 39), some (0, (j : Int)), some (0, (q : Int)), some (0, (P 3 (48 * j + q)))] (hz_X2_spreadHoney hT _ _ rfl) ⟨rfl, Nat.ne_of_beq_eq_false rfl⟩ (Nat.le_of_ble_eq_true rfl) rfl ?_
  refine v_load (v := (0, (P 3 (48 * j + q)))) (hz_X2_spreadHoney hT _ _ rfl) rfl rfl ?_
  refine v_if (hz_X2_spreadHoney hT _ _ rfl) (fun hc1 => ?_) (fun hc1 => ?_)
  · have hc1 : (P 3 (48 * j + q)) = 0 := hc1
    refine v_load (v := (2, 39)) (hi_X2_spreadHoney_18 hT) rfl rfl ?_
    refine v_getR (c := 42) (r := 39) (hi_X2_spreadHoney_19 hT) rfl rfl rfl ?_
    refine v_load (v := (0, (j : Int))) (hi_X2_spreadHoney_22 hT) rfl rfl ?_
    refine v_push (48) (hi_X2_spreadHoney_23 hT) rfl ?_
    refine v_bin (w := ((j : Int) * 48)) (hi_X2_spreadHoney_25 hT) (hq_mul (by omega) (by omega)) ?_
    refine v_load (v := (0, (q : Int))) (hi_X2_spreadHoney_26 hT) rfl rfl ?_
    refine v_bin (w := (((j : Int) * 48) + (q : Int))) (hi_X2_spreadHoney_27 hT) (hq_add (by omega) (by omega)) ?_
    refine v_push (3) (hi_X2_spreadHoney_28 hT) rfl ?_
    refine v_ast (r := 42) (hi_X2_spreadHoney_29 hT) rfl rfl (fun ha2 hb3 hf4 => ?_)
    refine v_push (1) (hi_X2_spreadHoney_30 hT) rfl ?_
    refine v_ret (hi_X2_spreadHoney_31 hT) (Or.inl rfl) ?_
    exact k0 hc1 ha2 hb3
  · have hc1 : (P 3 (48 * j + q)) ≠ 0 := hc1
    refine v_load (v := (0, (P 3 (48 * j + q)))) (hz_X2_spreadHoney hT _ _ rfl) rfl rfl ?_
    refine v_push (2) (hz_X2_spreadHoney hT _ _ rfl) rfl ?_
    refine v_ic (hz_X2_spreadHoney hT _ _ rfl) (fun hc5 => ?_) (fun hc5 => ?_)
    · have hc5 : (P 3 (48 * j + q)) = 2 := hc5
      refine v_load (v := (2, 39)) (hi_X2_spreadHoney_18 hT) rfl rfl ?_
      refine v_getR (c := 42) (r := 39) (hi_X2_spreadHoney_19 hT) rfl rfl rfl ?_
      refine v_load (v := (0, (j : Int))) (hi_X2_spreadHoney_22 hT) rfl rfl ?_
      refine v_push (48) (hi_X2_spreadHoney_23 hT) rfl ?_
      refine v_bin (w := ((j : Int) * 48)) (hi_X2_spreadHoney_25 hT) (hq_mul (by omega) (by omega)) ?_
      refine v_load (v := (0, (q : Int))) (hi_X2_spreadHoney_26 hT) rfl rfl ?_
      refine v_bin (w := (((j : Int) * 48) + (q : Int))) (hi_X2_spreadHoney_27 hT) (hq_add (by omega) (by omega)) ?_
      refine v_push (3) (hi_X2_spreadHoney_28 hT) rfl ?_
      refine v_ast (r := 42) (hi_X2_spreadHoney_29 hT) rfl rfl (fun ha6 hb7 hf8 => ?_)
      refine v_push (1) (hi_X2_spreadHoney_30 hT) rfl ?_
      refine v_ret (hi_X2_spreadHoney_31 hT) (Or.inl rfl) ?_
      exact k1 hc1 hc5 ha6 hb7
    · have hc5 : (P 3 (48 * j + q)) ≠ 2 := hc5
      refine v_push (0) (hz_X2_spreadHoney hT _ _ rfl) rfl ?_
      refine v_ret (hz_X2_spreadHoney hT _ _ rfl) (Or.inl rfl) ?_
      exact k2 hc1 hc5
theorem cb_ho_39 {D : zD} {T : zT} (hT : hTab T) (hO : vOK T) {N : Nat} {h : zH} {Q : zR → Prop} {P : PT} (x y : Int) (j q : Nat) (ex : x = (j : Int)) (ey : y = (q : Int)) (hj : j < 3) (hq : q < 48) (hP : cP 39 P h) (hb : fB P) (k1 : (P 3 (48 * j + q) ≠ 0 ∧ P 3 (48 * j + q) ≠ 2) → Q (h, some (0, 0))) (k2 : (P 3 (48 * j + q) = 0 ∨ P 3 (48 * j + q) = 2) → ∀ g, cP 39 (pSt P j q 3) g → cFr 39 h g → Q (g, some (0, 1))) : vP D T N 55 0 h [some (2, 39), some (0, x), some (0, y), none] [] Q := by
  subst ex ey
  refine vP_hv (fun hv => qk_ho_39 hT hO hv hP hb hj hq ?_ ?_ ?_) <;> intros
  all_goals first
    | exact k1 (by omega)
    | (rw [show ((j : Int) * 48 + (q : Int)).toNat = 48 * j + q from by omega]; exact k2 (by omega) _ hP.s3 (cFr.z (by omega) (fun _ _ _ => rfl)))
theorem qk_wi_39 {D : zD} {T : zT} (hT : hTab T) (hO : vOK T) {N : Nat} {h : zH} {Q : zR → Prop} {P : PT} {j q : Nat} (hv0 : zHv h) (hP : cP 39 P h) (hb : fB P) (hj : j < 3) (hq : q < 48)
    (k0 : ((P 3 (48 * j + q)) = 2) → (0 ≤ (((j : Int) * 48) + (q : Int))) → ((((j : Int) * 48) + (q : Int)) < 144) → Q (zset h 42 (((((j : Int) * 48) + (q : Int))).toNat) (0, 0), some (0, 1)))
    (k1 : ((P 3 (48 * j + q)) ≠ 2) → ((P 3 (48 * j + q)) = 3) → (0 ≤ (((j : Int) * 48) + (q : Int))) → ((((j : Int) * 48) + (q : Int)) < 144) → Q (zset h 42 (((((j : Int) * 48) + (q : Int))).toNat) (0, 0), some (0, 1)))
    (k2 : ((P 3 (48 * j + q)) ≠ 2) → ((P 3 (48 * j + q)) ≠ 3) → Q (h, some (0, 0))) :
    vP D T N 58 0 h [some (2, 39), some (0, (j : Int)), some (0, (q : Int)), none] [] Q := by
  refine v_load (v := (2, 39)) (hz_X2_wipe hT _ _ rfl) rfl rfl ?_
  refine v_load (v := (0, (j : Int))) (hz_X2_wipe hT _ _ rfl) rfl rfl ?_
  refine v_load (v := (0, (q : Int))) (hz_X2_wipe hT _ _ rfl) rfl rfl ?_
  refine v_call (w := 3) [some (2, 39), some (0, (j : Int)), some (0, (q : Int))] hO (hz_X2_wipe hT _ _ rfl) rfl rfl (cb_st_39 hT hO ((j : Int)) ((q : Int)) j q rfl rfl (by omega) (by omega) hP.2.2.2.1 ?_)
  show vP D T N 58 6 h [some (2, 39), some (0, (j : Int)), some (0, (q : Int)), none] [(0, (P 3 (48 * j + q)))] _
  refine v_store1 [some (2, 39), some (0, (j : Int)), some (0, (q : Int)), some (0, (P 3 (48 * j + q)))] (hz_X2_wipe hT _ _ rfl) ⟨rfl, Nat.ne_of_beq_eq_false rfl⟩ (Nat.le_of_ble_eq_true rfl) rfl ?_
  refine v_load (v := (0, (P 3 (48 * j + q)))) (hz_X2_wipe hT _ _ rfl) rfl rfl ?_
  refine v_push (2) (hz_X2_wipe hT _ _ rfl) rfl ?_
  refine v_ic (hz_X2_wipe hT _ _ rfl) (fun hc1 => ?_) (fun hc1 => ?_)
  · have hc1 : (P 3 (48 * j + q)) = 2 := hc1
    refine v_load (v := (2, 39)) (hi_X2_wipe_19 hT) rfl rfl ?_
    refine v_getR (c := 42) (r := 39) (hi_X2_wipe_20 hT) rfl rfl rfl ?_
    refine v_load (v := (0, (j : Int))) (hi_X2_wipe_23 hT) rfl rfl ?_
    refine v_push (48) (hi_X2_wipe_24 hT) rfl ?_
    refine v_bin (w := ((j : Int) * 48)) (hi_X2_wipe_26 hT) (hq_mul (by omega) (by omega)) ?_
    refine v_load (v := (0, (q : Int))) (hi_X2_wipe_27 hT) rfl rfl ?_
    refine v_bin (w := (((j : Int) * 48) + (q : Int))) (hi_X2_wipe_28 hT) (hq_add (by omega) (by omega)) ?_
    refine v_push (0) (hi_X2_wipe_29 hT) rfl ?_
    refine v_ast (r := 42) (hi_X2_wipe_30 hT) rfl rfl (fun ha2 hb3 hf4 => ?_)
    refine v_push (1) (hi_X2_wipe_31 hT) rfl ?_
    refine v_ret (hi_X2_wipe_32 hT) (Or.inl rfl) ?_
    exact k0 hc1 ha2 hb3
  · have hc1 : (P 3 (48 * j + q)) ≠ 2 := hc1
    refine v_load (v := (0, (P 3 (48 * j + q)))) (hz_X2_wipe hT _ _ rfl) rfl rfl ?_
    refine v_push (3) (hz_X2_wipe hT _ _ rfl) rfl ?_
    refine v_ic (hz_X2_wipe hT _ _ rfl) (fun hc5 => ?_) (fun hc5 => ?_)
    · have hc5 : (P 3 (48 * j + q)) = 3 := hc5
      refine v_load (v := (2, 39)) (hi_X2_wipe_19 hT) rfl rfl ?_
      refine v_getR (c := 42) (r := 39) (hi_X2_wipe_20 hT) rfl rfl rfl ?_
      refine v_load (v := (0, (j : Int))) (hi_X2_wipe_23 hT) rfl rfl ?_
      refine v_push (48) (hi_X2_wipe_24 hT) rfl ?_
      refine v_bin (w := ((j : Int) * 48)) (hi_X2_wipe_26 hT) (hq_mul (by omega) (by omega)) ?_
      refine v_load (v := (0, (q : Int))) (hi_X2_wipe_27 hT) rfl rfl ?_
      refine v_bin (w := (((j : Int) * 48) + (q : Int))) (hi_X2_wipe_28 hT) (hq_add (by omega) (by omega)) ?_
      refine v_push (0) (hi_X2_wipe_29 hT) rfl ?_
      refine v_ast (r := 42) (hi_X2_wipe_30 hT) rfl rfl (fun ha6 hb7 hf8 => ?_)
      refine v_push (1) (hi_X2_wipe_31 hT) rfl ?_
      refine v_ret (hi_X2_wipe_32 hT) (Or.inl rfl) ?_
      exact k1 hc1 hc5 ha6 hb7
    · have hc5 : (P 3 (48 * j + q)) ≠ 3 := hc5
      refine v_push (0) (hz_X2_wipe hT _ _ rfl) rfl ?_
      refine v_ret (hz_X2_wipe hT _ _ rfl) (Or.inl rfl) ?_
      exact k2 hc1 hc5
theorem cb_wi_39 {D : zD} {T : zT} (hT : hTab T) (hO : vOK T) {N : Nat} {h : zH} {Q : zR → Prop} {P : PT} (x y : Int) (j q : Nat) (ex : x = (j : Int)) (ey : y = (q : Int)) (hj : j < 3) (hq : q < 48) (hP : cP 39 P h) (hb : fB P) (k1 : (P 3 (48 * j + q) ≠ 2 ∧ P 3 (48 * j + q) ≠ 3) → Q (h, some (0, 0))) (k2 : (P 3 (48 * j + q) = 2 ∨ P 3 (48 * j + q) = 3) → ∀ g, cP 39 (pSt P j q 0) g → cFr 39 h g → Q (g, some (0, 1))) : vP D T N 58 0 h [some (2, 39), some (0, x), some (0, y), none] [] Q := by
  subst ex ey
  refine vP_hv (fun hv => qk_wi_39 hT hO hv hP hb hj hq ?_ ?_ ?_) <;> intros
  all_goals first
    | exact k1 (by omega)
    | (rw [show ((j : Int) * 48 + (q : Int)).toNat = 48 * j + q from by omega]; exact k2 (by omega) _ hP.s3 (cFr.z (by omega) (fun _ _ _ => rfl)))
theorem qk_so_39 {D : zD} {T : zT} (hT : hTab T) (hO : vOK T) {N : Nat} {h : zH} {Q : zR → Prop} {j t : Nat} (hv0 : zHv h) (hj : j < 3) (ht : t < 3)
    (k0 : (0 ≤ ((j : Int) * 48)) → (0 ≤ ((t : Int) * 48)) → (((j : Int) * 48) + 48 ≤ 144) → (((t : Int) * 48) + 48 ≤ 144) → Q (zcopy h 42 ((((j : Int) * 48)).toNat) 42 ((((t : Int) * 48)).toNat) 48, none)) :
    vP D T N 57 0 h [some (2, 39), some (0, (j : Int)), some (0, (t : Int))] [] Q := by
  refine v_load (v := (2, 39)) (hz_X2_steamOff hT _ _ rfl) rfl rfl ?_
  refine v_getR (c := 42) (r := 39) (hz_X2_steamOff hT _ _ rfl) rfl rfl rfl ?_
  refine v_load (v := (0, (j : Int))) (hz_X2_steamOff hT _ _ rfl) rfl rfl ?_
  refine v_push (48) (hz_X2_steamOff hT _ _ rfl) rfl ?_
  refine v_bin (w := ((j : Int) * 48)) (hz_X2_steamOff hT _ _ rfl) (hq_mul (by omega) (by omega)) ?_
  refine v_load (v := (2, 39)) (hz_X2_steamOff hT _ _ rfl) rfl rfl ?_
  refine v_getR (c := 42) (r := 39) (hz_X2_steamOff hT _ _ rfl) rfl rfl rfl ?_
  refine v_load (v := (0, (t : Int))) (hz_X2_steamOff hT _ _ rfl) rfl rfl ?_
  refine v_push (48) (hz_X2_steamOff hT _ _ rfl) rfl ?_
  refine v_bin (w := ((t : Int) * 48)) (hz_X2_steamOff hT _ _ rfl) (hq_mul (by omega) (by omega)) ?_
  refine v_push (48) (hz_X2_steamOff hT _ _ rfl) rfl ?_
  refine v_copy (r0 := 42) (r1 := 42) (hz_X2_steamOff hT _ _ rfl) rfl rfl rfl rfl (fun hd1 hd2 hd3 hd4 hd5 => ?_)
  refine v_ret0 (hz_X2_steamOff hT _ _ rfl) ?_
  exact k0 hd2 hd3 hd4 hd5
theorem cb_so_39 {D : zD} {T : zT} (hT : hTab T) (hO : vOK T) {N : Nat} {h : zH} {Q : zR → Prop} {P : PT} (x y : Int) (j t : Nat) (ex : x = (j : Int)) (ey : y = (t : Int)) (hj : j < 3) (ht : t < 3) (hP : cP 39 P h) (k : ∀ g, cP 39 (pSteam P j t) g → cFr 39 h g → Q (g, none)) : vP D T N 57 0 h [some (2, 39), some (0, x), some (0, y)] [] Q := by
  subst ex ey
  refine vP_hv (fun hv => qk_so_39 hT hO hv hj ht ?_)
  intros
  rw [show ((j : Int) * 48).toNat = 48 * j from by omega, show ((t : Int) * 48).toNat = 48 * t from by omega]
  exact k _ (hP.steam hj ht) (fun a b hn => vcopy_ne (fun e => hn (by omega)))
theorem qk_sh2_39 {D : zD} {T : zT} (hT : hTab T) (hO : vOK T) {N : Nat} {h : zH} {Q : zR → Prop}  (hv0 : zHv h)
    (k0 : Q (zcopy h 44 0 45 0 6, none)) :
    vP D T N 52 0 h [some (2, 39)] [] Q := by
  refine v_load (v := (2, 39)) (hz_X2_sendHome hT _ _ rfl) rfl rfl ?_
  refine v_getR (c := 44) (r := 39) (hz_X2_sendHome hT _ _ rfl) rfl rfl rfl ?_
  refine v_push (0) (hz_X2_sendHome hT _ _ rfl) rfl ?_
  refine v_load (v := (2, 39)) (hz_X2_sendHome hT _ _ rfl) rfl rfl ?_
  refine v_getR (c := 45) (r := 39) (hz_X2_sendHome hT _ _ rfl) rfl rfl rfl ?_
  refine v_push (0) (hz_X2_sendHome hT _ _ rfl) rfl ?_
  refine v_push (6) (hz_X2_sendHome hT _ _ rfl) rfl ?_
  refine v_copy (r0 := 44) (r1 := 45) (hz_X2_sendHome hT _ _ rfl) rfl rfl rfl rfl (fun hd1 hd2 hd3 hd4 hd5 => ?_)
  refine v_ret0 (hz_X2_sendHome hT _ _ rfl) ?_
  exact k0 
theorem cb_hm_39 {D : zD} {T : zT} (hT : hTab T) (hO : vOK T) {N : Nat} {h : zH} {Q : zR → Prop} {P : PT} (hP : cP 39 P h) (hb : fB P) (k : ∀ g, cP 39 (pHome P) g → cFr 39 h g → Q (g, none)) : vP D T N 52 0 h [some (2, 39)] [] Q := by
  refine vP_hv (fun hv => qk_sh2_39 hT hO hv ?_)
  intros
  exact k _ (hP.home hb.1.2.2.2.2) (fun a b hn => vcopy_ne (fun e => hn (by omega)))
end
section
theorem qk_ld0_39 {D : zD} {T : zT} (hT : hTab T) (hO : vOK T) {N : Nat} {h : zH} {Q : zR → Prop} {m : Nat} (hv0 : zHv h)
    (k0 : vP D T N 133 2 h [some (2, 100), some (2, 39), some (0, (m : Int)), some (0, 1)] [] Q) :
    vP D T N 133 0 h [some (2, 100), some (2, 39), some (0, (m : Int)), none] [] Q := by
  refine v_push (1) (hz_X10_lead hT _ _ rfl) rfl ?_
  refine v_store1 [some (2, 100), some (2, 39), some (0, (m : Int)), some (0, 1)] (hz_X10_lead hT _ _ rfl) ⟨rfl, Nat.ne_of_beq_eq_false rfl⟩ (Nat.le_of_ble_eq_true rfl) rfl ?_
  exact k0 
theorem qk_ld2_39 {D : zD} {T : zT} (hT : hTab T) (hO : vOK T) {N : Nat} {h : zH} {Q : zR → Prop} {P : PT} {m s n b : Nat} (hv0 : zHv h) (hP : cP 39 P h) (hb : fB P) (hm : (m : Int) < P 0 3) (m6 : m < 6) (e7 : h 100 7 = (0, (n : Int))) (e4 : h 104 s = (0, (b : Int))) (b48 : b < 48) (hs : s < 48) (hsn : (s : Int) ≤ (n : Int))
    (k0 : (0 ≤ (s : Int)) → ((s : Int) < 48) → (0 ≤ (b : Int)) → ((b : Int) < 48) → ((P 1 b) = 3) → Q (h, some (0, ((s : Int) - 1))))
    (k1 : (0 ≤ (s : Int)) → ((s : Int) < 48) → (0 ≤ (b : Int)) → ((b : Int) < 48) → ((P 1 b) ≠ 3) → (0 ≤ (m : Int)) → ((m : Int) < 6) → vP D T N 133 2 (zset (zset h 45 (((m : Int)).toNat) (0, (b : Int))) 48 (((m : Int)).toNat) (0, (wA ((P 9 m)) ((gGr P b))))) [some (2, 100), some (2, 39), some (0, (m : Int)), some (0, ((s : Int) + 1))] [] Q) :
    vP D T (N + 1) 133 2 h [some (2, 100), some (2, 39), some (0, (m : Int)), some (0, (s : Int))] [] Q := by
  refine v_loadS (v := (0, (s : Int))) (hi_X10_lead_2 hT) rfl rfl ?_
  refine v_load (v := (2, 100)) (hi_X10_lead_3 hT) rfl rfl ?_
  refine v_getf (v := (0, (n : Int))) (r := 100) (hi_X10_lead_4 hT) rfl rfl (fun _ => e7) ?_
  refine v_ic (hi_X10_lead_7 hT) (fun hc1 => absurd (show (n : Int) < (s : Int) from hc1) (by omega)) (fun _ => ?_)
  refine v_load (v := (2, 39)) (hz_X10_lead hT _ _ rfl) rfl rfl ?_
  refine v_load (v := (2, 100)) (hz_X10_lead hT _ _ rfl) rfl rfl ?_
  refine v_getR (c := 104) (r := 100) (hz_X10_lead hT _ _ rfl) rfl rfl rfl ?_
  refine v_load (v := (0, (s : Int))) (hz_X10_lead hT _ _ rfl) rfl rfl ?_
  refine v_aldB (t := 0) (r := 104) (w := (b : Int)) (hz_X10_lead hT _ _ rfl) rfl rfl rfl (fun _ _ => (congrArg Prod.snd e4)) (fun ha2 hb3 => ?_)
  refine v_call (w := 2) [some (2, 39), some (0, (b : Int))] hO (hz_X10_lead hT _ _ rfl) rfl rfl ?_
  refine v_load (v := (2, 39)) (hi_X2_isWater_0 hT) rfl rfl ?_
  refine v_getR (c := 40) (r := 39) (hi_X2_isWater_1 hT) rfl rfl rfl ?_
  refine v_load (v := (0, (b : Int))) (hi_X2_isWater_4 hT) rfl rfl ?_
  refine v_aldB (t := 0) (r := 40) (w := (P 1 b)) (hi_X2_isWater_5 hT) rfl rfl rfl (fun _ _ => (congrArg Prod.snd (hP.2.1 b (by omega)))) (fun ha4 hb5 => ?_)
  refine v_push (3) (hi_X2_isWater_6 hT) rfl ?_
  refine v_ic (hi_X2_isWater_7 hT) (fun hc6 => ?_) (fun hc6 => ?_)
  · have hc6 : (P 1 b) = 3 := hc6
    refine v_push (1) (hi_X2_isWater_10 hT) rfl ?_
    refine v_goto (hi_X2_isWater_11 hT) ?_
    refine v_ret (hi_X2_isWater_15 hT) (Or.inl rfl) ?_
    show vP D T N 133 20 h [some (2, 100), some (2, 39), some (0, (m : Int)), some (0, (s : Int))] [(0, 1)] _
    refine v_if (hi_X10_lead_20 hT) (fun hc7 => absurd (show (1 : Int) = 0 from hc7) (by decide)) (fun _ => ?_)
    refine v_load (v := (0, (s : Int))) (hz_X10_lead hT _ _ rfl) rfl rfl ?_
    refine v_push (1) (hz_X10_lead hT _ _ rfl) rfl ?_
    refine v_bin (w := ((s : Int) - 1)) (hz_X10_lead hT _ _ rfl) (hq_sub (by omega) (by omega)) ?_
    refine v_ret (hz_X10_lead hT _ _ rfl) (Or.inl rfl) ?_
    exact k0 ha2 hb3 ha4 hb5 hc6
  · have hc6 : (P 1 b) ≠ 3 := hc6
    refine v_push (0) (hi_X2_isWater_14 hT) rfl ?_
    refine v_ret (hi_X2_isWater_15 hT) (Or.inl rfl) ?_
    show vP D T N 133 20 h [some (2, 100), some (2, 39), some (0, (m : Int)), some (0, (s : Int))] [(0, 0)] _
    refine v_if (hi_X10_lead_20 hT) (fun _ => ?_) (fun hc8 => absurd (show (0 : Int) = 0 from (by decide)) hc8)
    refine v_load (v := (2, 39)) (hz_X10_lead hT _ _ rfl) rfl rfl ?_
    refine v_getR (c := 45) (r := 39) (hz_X10_lead hT _ _ rfl) rfl rfl rfl ?_
    refine v_load (v := (0, (m : Int))) (hz_X10_lead hT _ _ rfl) rfl rfl ?_
    refine v_load (v := (2, 100)) (hz_X10_lead hT _ _ rfl) rfl rfl ?_
    refine v_getR (c := 104) (r := 100) (hz_X10_lead hT _ _ rfl) rfl rfl rfl ?_
    refine v_load (v := (0, (s : Int))) (hz_X10_lead hT _ _ rfl) rfl rfl ?_
    refine v_aldB (t := 0) (r := 104) (w := (b : Int)) (hz_X10_lead hT _ _ rfl) rfl rfl rfl (fun _ _ => (congrArg Prod.snd e4)) (fun ha9 hb10 => ?_)
    refine v_ast (r := 45) (hz_X10_lead hT _ _ rfl) rfl rfl (fun ha11 hb12 hf13 => ?_)
    refine v_load (v := (2, 39)) (hz_X10_lead hT _ _ rfl) rfl rfl ?_
    refine v_getR (c := 48) (r := 39) (hz_X10_lead hT _ _ rfl) rfl rfl rfl ?_
    refine v_load (v := (0, (m : Int))) (hz_X10_lead hT _ _ rfl) rfl rfl ?_
    refine v_dupd (hz_X10_lead hT _ _ rfl) (Nat.ne_of_beq_eq_false rfl) (Nat.ne_of_beq_eq_false rfl) ?_
    refine v_aldB (t := 0) (r := 48) (w := (P 9 m)) (hz_X10_lead hT _ _ rfl) rfl rfl rfl (fun _ _ => (congrArg Prod.snd ((zset_ne (fun c => absurd c.1 (by decide))).trans ((cP.a9 hP) m (by omega))))) (fun ha14 hb15 => ?_)
    refine v_load (v := (2, 39)) (hz_X10_lead hT _ _ rfl) rfl rfl ?_
    refine v_load (v := (2, 100)) (hz_X10_lead hT _ _ rfl) rfl rfl ?_
    refine v_getR (c := 104) (r := 100) (hz_X10_lead hT _ _ rfl) rfl rfl rfl ?_
    refine v_load (v := (0, (s : Int))) (hz_X10_lead hT _ _ rfl) rfl rfl ?_
    refine v_aldB (t := 0) (r := 104) (w := (b : Int)) (hz_X10_lead hT _ _ rfl) rfl rfl rfl (fun _ _ => (congrArg Prod.snd ((zset_ne (fun c => absurd c.1 (by decide))).trans e4))) (fun ha16 hb17 => ?_)
    refine v_call (w := 2) [some (2, 39), some (0, (b : Int))] hO (hz_X10_lead hT _ _ rfl) rfl rfl (cb_gr_39 hT hO ((b : Int)) b rfl (by omega) hb (fun i hi => (zset_ne (fun c => absurd c.1 (by decide))).trans (hP.2.1 i hi)) (fun i hi => (zset_ne (fun c => absurd c.1 (by decide))).trans (hP.2.2.1 i hi)) ?_)
    show vP D T N 133 56 (zset h 45 (((m : Int)).toNat) (0, (b : Int))) [some (2, 100), some (2, 39), some (0, (m : Int)), some (0, (s : Int))] [(0, (gGr P b)), (0, (P 9 m)), (0, (m : Int)), (2, 48)] _
    refine v_bin (w := (wA ((P 9 m)) ((gGr P b)))) (hz_X10_lead hT _ _ rfl) rfl ?_
    refine v_ast (r := 48) (hz_X10_lead hT _ _ rfl) rfl rfl (fun ha18 hb19 hf20 => ?_)
    refine v_iinc (x := (s : Int)) (u := 1) (w := ((s : Int) + 1)) [some (2, 100), some (2, 39), some (0, (m : Int)), some (0, ((s : Int) + 1))] (hz_X10_lead hT _ _ rfl) rfl rfl (Nat.le_of_ble_eq_true rfl) (vz_inc (by omega) (by omega)) rfl ?_
    refine v_goto (hz_X10_lead hT _ _ rfl) ?_
    exact k1 ha2 hb3 ha4 hb5 hc6 ha11 hb12
theorem qk_ld9_39 {D : zD} {T : zT} (hT : hTab T) (hO : vOK T) {N : Nat} {h : zH} {Q : zR → Prop} {P : PT} {m n : Nat} (hv0 : zHv h) (e7 : h 100 7 = (0, (n : Int)))
    (k0 : Q (h, some (0, (n : Int)))) :
    vP D T (N + 1) 133 2 h [some (2, 100), some (2, 39), some (0, (m : Int)), some (0, ((n + 1 : Nat) : Int))] [] Q := by
  refine v_loadS (v := (0, ((n + 1 : Nat) : Int))) (hi_X10_lead_2 hT) rfl rfl ?_
  refine v_load (v := (2, 100)) (hi_X10_lead_3 hT) rfl rfl ?_
  refine v_getf (v := (0, (n : Int))) (r := 100) (hi_X10_lead_4 hT) rfl rfl (fun _ => e7) ?_
  refine v_ic (hi_X10_lead_7 hT) (fun _ => ?_) (fun hc1 => absurd (show (n : Int) < ((n + 1 : Nat) : Int) from (by omega)) hc1)
  refine v_load (v := (2, 100)) (hz_X10_lead hT _ _ rfl) rfl rfl ?_
  refine v_getf (v := (0, (n : Int))) (r := 100) (hz_X10_lead hT _ _ rfl) rfl rfl (fun _ => e7) ?_
  refine v_ret (hz_X10_lead hT _ _ rfl) (Or.inl rfl) ?_
  exact k0 
/-- lead() -/
theorem cx_ld_39 {D : zD} {T : zT} (hT : hTab T) (hO : vOK T) {N : Nat} {h : zH} {Q : zR → Prop} {P : PT} {p : Nat → Nat} {n : Nat} (x : Int) (m : Nat) (ex : x = (m : Int)) (hP : cP 39 P h) (hb : fB P) (hm : (m : Int) < P 0 3) (hn : n ≤ 47) (hp : tHp p n h) (hg : ∀ i, i ≤ n → gIn P (p i)) (k : ∀ g : zH, cP 39 (pGo P m p (wStop P p n 0)) g → cFr 39 h g → Q (g, some (0, ((wStop P p n 0 : Nat) : Int)))) : vP D T N 133 0 h [some (2, 100), some (2, 39), some (0, x), none] [] Q := by
  subst ex
  have m6 : m < 6 := by have := hb.1.2.2.2.2; omega
  refine vP_hv (fun hv => qk_ld0_39 hT hO hv ?_)
  refine vP_loop (fun h' l => ∃ i : Nat, i ≤ n ∧ l = [some (2, 100), some (2, 39), some (0, (m : Int)), some (0, ((i + 1 : Nat) : Int))] ∧ cP 39 (pGo P m p i) h' ∧ cFr 39 h h' ∧ wStop P p (n - i) i = wStop P p n 0) ?_ N h _ ⟨0, Nat.zero_le _, rfl, hP, fun _ _ _ => rfl, rfl⟩
  rintro N h' l ⟨i, hi, rfl, hP', hf, hs⟩ ih
  have hb' := fB_go (m := m) hb i (fun k _ h2 => hg k (by omega))
  have e7 : h' 100 7 = (0, (n : Int)) := (hf _ _ (by omega)).trans hp.2.1
  by_cases c : i < n
  · have gb := hg (i + 1) (by omega)
    have e4 : h' 104 (i + 1) = (0, ((p (i + 1) : Nat) : Int)) := (hf _ _ (by omega)).trans (hp.1 (i + 1) (by omega))
    have hm' : (m : Int) < pGo P m p i 0 3 := by rw [pGo_1 i 0 3 (by decide) (by decide)]; exact hm
    have hs' : wStop P p (n - i) i = if P 1 (p (i + 1)) = 3 then i else wStop P p (n - (i + 1)) (i + 1) := by
      rw [show n - i = (n - (i + 1)) + 1 by omega]
      rfl
    refine vP_hv (fun hv' => qk_ld2_39 hT hO (P := pGo P m p i) (m := m) (s := i + 1) (n := n) (b := p (i + 1)) hv' hP' hb' hm' m6 e7 e4 gb.1 (by omega) (by omega) ?_ ?_)
    · intro _ _ _ _ c2
      rw [pGo_1 i 1 _ (by decide) (by decide)] at c2
      rw [if_pos c2] at hs'
      have e : wStop P p n 0 = i := by omega
      rw [show ((i + 1 : Nat) : Int) - 1 = ((wStop P p n 0 : Nat) : Int) by omega]
      refine k h' ?_ hf
      rw [e]
      exact hP'
    · intro _ _ _ _ c2 _ _
      rw [pGo_1 i 1 _ (by decide) (by decide)] at c2
      rw [if_neg c2] at hs'
      exact ih _ _ ⟨i + 1, by omega, rfl, hP'.s6.s9, cFr.z (by omega) (cFr.z (by omega) hf), by omega⟩
  · have e : i = n := by omega
    subst e
    have e2 : wStop P p i 0 = i := by
      rw [← hs, Nat.sub_self]
      rfl
    refine vP_hv (fun hv' => qk_ld9_39 hT hO (P := P) (m := m) (n := i) hv' e7 ?_)
    rw [show ((i : Nat) : Int) = ((wStop P p i 0 : Nat) : Int) by rw [e2]]
    refine k h' ?_ hf
    rw [e2]
    exact hP'
end
