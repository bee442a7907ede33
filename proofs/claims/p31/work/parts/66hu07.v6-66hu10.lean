section
theorem q_fi0_102 {D : zD} {T : zT} (hT : hTab T) (hO : vOK T) {N : Nat} {h : zH} {Q : zR → Prop} (v : Int) (hv0 : zHv h)
    (k0 : vP D T N 0 5 h [some (2, 102), some (0, v), some (0, 0), some (0, 48)] [] Q) :
    vP D T N 0 0 h [some (2, 102), some (0, v), none, none] [] Q := by
  refine v_push (0) (hi_J7_fill_53178_0 hT) rfl ?_
  refine v_store1 [some (2, 102), some (0, v), some (0, 0), none] (hi_J7_fill_53178_1 hT) ⟨rfl, Nat.ne_of_beq_eq_false rfl⟩ (Nat.le_of_ble_eq_true rfl) rfl ?_
  refine v_load (v := (2, 102)) (hi_J7_fill_53178_2 hT) rfl rfl ?_
  refine v_alen (r := 102) (n := 48) (hi_J7_fill_53178_3 hT) rfl rfl ?_
  show vP D T N 0 4 h [some (2, 102), some (0, v), some (0, 0), none] [(0, 48)] _
  refine v_store1 [some (2, 102), some (0, v), some (0, 0), some (0, 48)] (hi_J7_fill_53178_4 hT) ⟨rfl, Nat.ne_of_beq_eq_false rfl⟩ (Nat.le_of_ble_eq_true rfl) rfl ?_
  exact k0 
theorem q_fi1_102 {D : zD} {T : zT} (hT : hTab T) (hO : vOK T) {N : Nat} {h : zH} {Q : zR → Prop} (v i : Int) (hv0 : zHv h)
    (k0 : (i < 48) → (0 ≤ i) → vP D T N 0 5 (zset h 102 i.toNat (0, v)) [some (2, 102), some (0, v), some (0, (i + 1)), some (0, 48)] [] Q)
    (k1 : (48 ≤ i) → Q (h, none)) :
    vP D T (N + 1) 0 5 h [some (2, 102), some (0, v), some (0, i), some (0, 48)] [] Q := by
  refine v_loadS (v := (0, i)) (hi_J7_fill_53178_5 hT) rfl rfl ?_
  refine v_load (v := (0, 48)) (hi_J7_fill_53178_6 hT) rfl rfl ?_
  refine v_ic (hi_J7_fill_53178_7 hT) (fun hc1 => ?_) (fun hc1 => ?_)
  · have hc1 : i < 48 := hc1
    refine v_load (v := (2, 102)) (hi_J7_fill_53178_10 hT) rfl rfl ?_
    refine v_load (v := (0, i)) (hi_J7_fill_53178_11 hT) rfl rfl ?_
    refine v_load (v := (0, v)) (hi_J7_fill_53178_12 hT) rfl rfl ?_
    refine v_ast (r := 102) (hi_J7_fill_53178_13 hT) rfl rfl (fun ha2 hb3 hf4 => ?_)
    refine v_iinc (x := i) (u := 1) (w := (i + 1)) [some (2, 102), some (0, v), some (0, (i + 1)), some (0, 48)] (hi_J7_fill_53178_14 hT) rfl rfl (Nat.le_of_ble_eq_true rfl) (vz_inc (by omega) (by omega)) rfl ?_
    refine v_goto (hi_J7_fill_53178_17 hT) ?_
    exact k0 hc1 ha2
  · have hc1 : 48 ≤ i := Int.not_lt.mp hc1
    refine v_ret0 (hi_J7_fill_53178_20 hT) ?_
    exact k1 hc1
theorem cx_fi_102 {D : zD} {T : zT} (hT : hTab T) (hO : vOK T) {N : Nat} {h : zH} {Q : zR → Prop} (v : Int) (k : ∀ g : zH, (∀ a b, g a b = if a = 102 ∧ b < 48 then (0, v) else h a b) → Q (g, none)) : vP D T N 0 0 h [some (2, 102), some (0, v), none, none] [] Q := by
  refine vP_hv (fun hv => q_fi0_102 hT hO v hv ?_)
  have key := vP_loop (D := D) (T := T) (mi := 0) (pc := 5) (Q := Q) (fun h' l => ∃ i : Int, 0 ≤ i ∧ i ≤ 48 ∧ l = [some (2, 102), some (0, v), some (0, i), some (0, 48)] ∧ ∀ a b, h' a b = if a = 102 ∧ (b : Int) < i then (0, v) else h a b) ?_
  · refine key N h _ ⟨0, Int.le_refl _, by decide, rfl, fun a b => ?_⟩
    rw [if_neg (fun c => by omega)]
  · rintro N h' l ⟨i, i0, i1, rfl, he⟩ ih
    refine vP_hv (fun hv' => q_fi1_102 hT hO v i hv' ?_ ?_)
    · intro c1 c2
      refine ih _ _ ⟨i + 1, by omega, by omega, rfl, fun a b => ?_⟩
      by_cases e : a = 102 ∧ b = i.toNat
      · rw [show zset h' 102 i.toNat (0, v) a b = (0, v) from if_pos e, if_pos ⟨e.1, by omega⟩]
      · rw [zset_ne e, he]
        by_cases e2 : a = 102 ∧ (b : Int) < i
        · rw [if_pos e2, if_pos ⟨e2.1, by omega⟩]
        · rw [if_neg e2, if_neg (fun c => e2 ⟨c.1, by have := e; omega⟩)]
    · intro c1
      refine k h' (fun a b => ?_)
      rw [he]
      by_cases e : a = 102 ∧ b < 48
      · rw [if_pos e, if_pos ⟨e.1, by omega⟩]
      · rw [if_neg e, if_neg (fun c => e ⟨c.1, by omega⟩)]
theorem qk_la0_24 {D : zD} {T : zT} (hT : hTab T) (hO : vOK T) {N : Nat} {h : zH} {Q : zR → Prop} {P : PT} {j : Nat} (hv0 : zHv h)
    (k0 : vP D T N 134 2 h [some (2, 100), some (2, 24), some (0, (j : Int)), some (0, 0)] [] Q) :
    vP D T N 134 0 h [some (2, 100), some (2, 24), some (0, (j : Int)), none] [] Q := by
  refine v_push (0) (hz_X10_lookAt hT _ _ rfl) rfl ?_
  refine v_store1 [some (2, 100), some (2, 24), some (0, (j : Int)), some (0, 0)] (hz_X10_lookAt hT _ _ rfl) ⟨rfl, Nat.ne_of_beq_eq_false rfl⟩ (Nat.le_of_ble_eq_true rfl) rfl ?_
  exact k0 
theorem qk_la2_24 {D : zD} {T : zT} (hT : hTab T) (hO : vOK T) {N : Nat} {h : zH} {Q : zR → Prop} {P : PT} {j i : Nat} (hv0 : zHv h) (hP : cP 24 P h) (hb : fB P) (hj : j < 3) (hi : i ≤ 48)
    (k0 : ((i : Int) < 48) → (gIn P i) → (0 ≤ (i : Int)) → vP D T N 134 2 (zset h 101 (((i : Int)).toNat) (0, (gSh P j i))) [some (2, 100), some (2, 24), some (0, (j : Int)), some (0, ((i : Int) + 1))] [] Q)
    (k1 : ((i : Int) < 48) → (¬ gIn P i) → (0 ≤ (i : Int)) → vP D T N 134 2 (zset h 101 (((i : Int)).toNat) (0, 0)) [some (2, 100), some (2, 24), some (0, (j : Int)), some (0, ((i : Int) + 1))] [] Q)
    (k2 : (48 ≤ (i : Int)) → Q (h, none)) :
    vP D T (N + 1) 134 2 h [some (2, 100), some (2, 24), some (0, (j : Int)), some (0, (i : Int))] [] Q := by
  refine v_loadS (v := (0, (i : Int))) (hz_X10_lookAt hT _ _ rfl) rfl rfl ?_
  refine v_push (48) (hz_X10_lookAt hT _ _ rfl) rfl ?_
  refine v_ic (hz_X10_lookAt hT _ _ rfl) (fun hc1 => ?_) (fun hc1 => ?_)
  · have hc1 : (i : Int) < 48 := hc1
    refine v_load (v := (2, 100)) (hz_X10_lookAt hT _ _ rfl) rfl rfl ?_
    refine v_getR (c := 101) (r := 100) (hz_X10_lookAt hT _ _ rfl) rfl rfl rfl ?_
    refine v_load (v := (0, (i : Int))) (hz_X10_lookAt hT _ _ rfl) rfl rfl ?_
    refine v_load (v := (2, 24)) (hz_X10_lookAt hT _ _ rfl) rfl rfl ?_
    refine v_load (v := (0, (i : Int))) (hz_X10_lookAt hT _ _ rfl) rfl rfl ?_
    refine v_call (w := 2) [some (2, 24), some (0, (i : Int))] hO (hz_X10_lookAt hT _ _ rfl) rfl rfl (cb_isC_24 hT hO ((i : Int)) i rfl (by omega) hP.1.1 hP.1.2.1 hb.1 (fun hg2 => ?_) (fun hg2 => ?_))
    · show vP D T N 134 18 h [some (2, 100), some (2, 24), some (0, (j : Int)), some (0, (i : Int))] [(0, 1), (0, (i : Int)), (2, 101)] _
      refine v_if (hi_X10_lookAt_18 hT) (fun hc3 => absurd (show (1 : Int) = 0 from hc3) (by decide)) (fun _ => ?_)
      refine v_load (v := (2, 24)) (hz_X10_lookAt hT _ _ rfl) rfl rfl ?_
      refine v_load (v := (0, (j : Int))) (hz_X10_lookAt hT _ _ rfl) rfl rfl ?_
      refine v_load (v := (0, (i : Int))) (hz_X10_lookAt hT _ _ rfl) rfl rfl ?_
      refine v_call (w := 3) [some (2, 24), some (0, (j : Int)), some (0, (i : Int))] hO (hz_X10_lookAt hT _ _ rfl) rfl rfl (cb_sh_24 hT hO ((j : Int)) ((i : Int)) j rfl (by omega) i rfl (by omega) hb hP.2.1 hP.2.2.1 hP.2.2.2.1 ?_)
      show vP D T N 134 27 h [some (2, 100), some (2, 24), some (0, (j : Int)), some (0, (i : Int))] [(0, (gSh P j i)), (0, (i : Int)), (2, 101)] _
      refine v_goto (hz_X10_lookAt hT _ _ rfl) ?_
      refine v_ast (r := 101) (hi_X10_lookAt_31 hT) rfl rfl (fun ha4 hb5 hf6 => ?_)
      refine v_iinc (x := (i : Int)) (u := 1) (w := ((i : Int) + 1)) [some (2, 100), some (2, 24), some (0, (j : Int)), some (0, ((i : Int) + 1))] (hi_X10_lookAt_32 hT) rfl rfl (Nat.le_of_ble_eq_true rfl) (vz_inc (by omega) (by omega)) rfl ?_
      refine v_goto (hi_X10_lookAt_35 hT) ?_
      exact k0 hc1 hg2 ha4
    · show vP D T N 134 18 h [some (2, 100), some (2, 24), some (0, (j : Int)), some (0, (i : Int))] [(0, 0), (0, (i : Int)), (2, 101)] _
      refine v_if (hi_X10_lookAt_18 hT) (fun _ => ?_) (fun hc7 => absurd (show (0 : Int) = 0 from (by decide)) hc7)
      refine v_push (0) (hz_X10_lookAt hT _ _ rfl) rfl ?_
      refine v_ast (r := 101) (hi_X10_lookAt_31 hT) rfl rfl (fun ha8 hb9 hf10 => ?_)
      refine v_iinc (x := (i : Int)) (u := 1) (w := ((i : Int) + 1)) [some (2, 100), some (2, 24), some (0, (j : Int)), some (0, ((i : Int) + 1))] (hi_X10_lookAt_32 hT) rfl rfl (Nat.le_of_ble_eq_true rfl) (vz_inc (by omega) (by omega)) rfl ?_
      refine v_goto (hi_X10_lookAt_35 hT) ?_
      exact k1 hc1 hg2 ha8
  · have hc1 : 48 ≤ (i : Int) := Int.not_lt.mp hc1
    refine v_ret0 (hz_X10_lookAt hT _ _ rfl) ?_
    exact k2 hc1
theorem qk_lg0_24 {D : zD} {T : zT} (hT : hTab T) (hO : vOK T) {N : Nat} {h : zH} {Q : zR → Prop} {P : PT} {i : Nat} (hv0 : zHv h)
    (k0 : vP D T N 135 2 h [some (2, 100), some (2, 24), some (0, 0)] [] Q) :
    vP D T N 135 0 h [some (2, 100), some (2, 24), none] [] Q := by
  refine v_push (0) (hz_X10_lookAtGround hT _ _ rfl) rfl ?_
  refine v_store1 [some (2, 100), some (2, 24), some (0, 0)] (hz_X10_lookAtGround hT _ _ rfl) ⟨rfl, Nat.ne_of_beq_eq_false rfl⟩ (Nat.le_of_ble_eq_true rfl) rfl ?_
  exact k0 
theorem qk_lg2_24 {D : zD} {T : zT} (hT : hTab T) (hO : vOK T) {N : Nat} {h : zH} {Q : zR → Prop} {P : PT} {i : Nat} (hv0 : zHv h) (hP : cP 24 P h) (hb : fB P) (hi : i ≤ 48)
    (k0 : ((i : Int) < 48) → (gIn P i) → (0 ≤ (i : Int)) → vP D T N 135 2 (zset h 101 (((i : Int)).toNat) (0, (gGr P i))) [some (2, 100), some (2, 24), some (0, ((i : Int) + 1))] [] Q)
    (k1 : ((i : Int) < 48) → (¬ gIn P i) → (0 ≤ (i : Int)) → vP D T N 135 2 (zset h 101 (((i : Int)).toNat) (0, 0)) [some (2, 100), some (2, 24), some (0, ((i : Int) + 1))] [] Q)
    (k2 : (48 ≤ (i : Int)) → Q (h, none)) :
    vP D T (N + 1) 135 2 h [some (2, 100), some (2, 24), some (0, (i : Int))] [] Q := by
  refine v_loadS (v := (0, (i : Int))) (hz_X10_lookAtGround hT _ _ rfl) rfl rfl ?_
  refine v_push (48) (hz_X10_lookAtGround hT _ _ rfl) rfl ?_
  refine v_ic (hz_X10_lookAtGround hT _ _ rfl) (fun hc1 => ?_) (fun hc1 => ?_)
  · have hc1 : (i : Int) < 48 := hc1
    refine v_load (v := (2, 100)) (hz_X10_lookAtGround hT _ _ rfl) rfl rfl ?_
    refine v_getR (c := 101) (r := 100) (hz_X10_lookAtGround hT _ _ rfl) rfl rfl rfl ?_
    refine v_load (v := (0, (i : Int))) (hz_X10_lookAtGround hT _ _ rfl) rfl rfl ?_
    refine v_load (v := (2, 24)) (hz_X10_lookAtGround hT _ _ rfl) rfl rfl ?_
    refine v_load (v := (0, (i : Int))) (hz_X10_lookAtGround hT _ _ rfl) rfl rfl ?_
    refine v_call (w := 2) [some (2, 24), some (0, (i : Int))] hO (hz_X10_lookAtGround hT _ _ rfl) rfl rfl (cb_isC_24 hT hO ((i : Int)) i rfl (by omega) hP.1.1 hP.1.2.1 hb.1 (fun hg2 => ?_) (fun hg2 => ?_))
    · show vP D T N 135 18 h [some (2, 100), some (2, 24), some (0, (i : Int))] [(0, 1), (0, (i : Int)), (2, 101)] _
      refine v_if (hi_X10_lookAtGround_18 hT) (fun hc3 => absurd (show (1 : Int) = 0 from hc3) (by decide)) (fun _ => ?_)
      refine v_load (v := (2, 24)) (hz_X10_lookAtGround hT _ _ rfl) rfl rfl ?_
      refine v_load (v := (0, (i : Int))) (hz_X10_lookAtGround hT _ _ rfl) rfl rfl ?_
      refine v_call (w := 2) [some (2, 24), some (0, (i : Int))] hO (hz_X10_lookAtGround hT _ _ rfl) rfl rfl (cb_gr_24 hT hO ((i : Int)) i rfl (by omega) hb hP.2.1 hP.2.2.1 ?_)
      show vP D T N 135 26 h [some (2, 100), some (2, 24), some (0, (i : Int))] [(0, (gGr P i)), (0, (i : Int)), (2, 101)] _
      refine v_goto (hz_X10_lookAtGround hT _ _ rfl) ?_
      refine v_ast (r := 101) (hi_X10_lookAtGround_30 hT) rfl rfl (fun ha4 hb5 hf6 => ?_)
      refine v_iinc (x := (i : Int)) (u := 1) (w := ((i : Int) + 1)) [some (2, 100), some (2, 24), some (0, ((i : Int) + 1))] (hi_X10_lookAtGround_31 hT) rfl rfl (Nat.le_of_ble_eq_true rfl) (vz_inc (by omega) (by omega)) rfl ?_
      refine v_goto (hi_X10_lookAtGround_34 hT) ?_
      exact k0 hc1 hg2 ha4
    · show vP D T N 135 18 h [some (2, 100), some (2, 24), some (0, (i : Int))] [(0, 0), (0, (i : Int)), (2, 101)] _
      refine v_if (hi_X10_lookAtGround_18 hT) (fun _ => ?_) (fun hc7 => absurd (show (0 : Int) = 0 from (by decide)) hc7)
      refine v_push (0) (hz_X10_lookAtGround hT _ _ rfl) rfl ?_
      refine v_ast (r := 101) (hi_X10_lookAtGround_30 hT) rfl rfl (fun ha8 hb9 hf10 => ?_)
      refine v_iinc (x := (i : Int)) (u := 1) (w := ((i : Int) + 1)) [some (2, 100), some (2, 24), some (0, ((i : Int) + 1))] (hi_X10_lookAtGround_31 hT) rfl rfl (Nat.le_of_ble_eq_true rfl) (vz_inc (by omega) (by omega)) rfl ?_
      refine v_goto (hi_X10_lookAtGround_34 hT) ?_
      exact k1 hc1 hg2 ha8
  · have hc1 : 48 ≤ (i : Int) := Int.not_lt.mp hc1
    refine v_ret0 (hz_X10_lookAtGround hT _ _ rfl) ?_
    exact k2 hc1
theorem qk_me0_24 {D : zD} {T : zT} (hT : hTab T) (hO : vOK T) {N : Nat} {h : zH} {Q : zR → Prop} {P : PT} (f : Int) {t : Nat} (hv0 : zHv h) (ht : t < 48)
    (k0 : ∀ (g1 : zH), (∀ a b, g1 a b = if a = 102 ∧ b < 48 then (0, 1000000) else h a b) → (0 ≤ (t : Int)) → ((t : Int) < 48) → ((v64 3 ((vS 1 0 ((t : Int)))) 1) = 0) → vP D T N 136 33 (zset (zset (zset (zset (zset (zset (zset g1 100 3 (1, 0)) 100 4 (0, 0)) 100 5 (0, 0)) 102 (((t : Int)).toNat) (0, 0)) 100 3 (1, (v64 4 0 ((vS 0 1 ((t : Int))))))) 103 0 (0, (t : Int))) 100 5 (0, (1 % 64))) [some (2, 100), some (2, 24), some (0, f), some (0, (t : Int)), some (0, 0), none, none, none, none] [] Q)
    (k1 : ∀ (g1 : zH), (∀ a b, g1 a b = if a = 102 ∧ b < 48 then (0, 1000000) else h a b) → (0 ≤ (t : Int)) → ((t : Int) < 48) → ((v64 3 ((vS 1 0 ((t : Int)))) 1) ≠ 0) → vP D T N 136 33 (zset (zset (zset (zset g1 100 3 (1, 0)) 100 4 (0, 0)) 100 5 (0, 0)) 102 (((t : Int)).toNat) (0, 0)) [some (2, 100), some (2, 24), some (0, f), some (0, (t : Int)), some (0, 0), none, none, none, none] [] Q) :
    vP D T N 136 0 h [some (2, 100), some (2, 24), some (0, f), some (0, (t : Int)), none, none, none, none, none] [] Q := by
  refine v_load (v := (2, 100)) (hz_X10_measure hT _ _ rfl) rfl rfl ?_
  refine v_getR (c := 102) (r := 100) (hz_X10_measure hT _ _ rfl) rfl rfl rfl ?_
  refine v_push (1000000) (hz_X10_measure hT _ _ rfl) rfl ?_
  refine v_call (w := 4) [some (2, 102), some (0, 1000000), none, none] hO (hz_X10_measure hT _ _ rfl) rfl rfl (cx_fi_102 hT hO 1000000 (fun g1 ff1 => ?_))
  · show vP D T N 136 9 g1 [some (2, 100), some (2, 24), some (0, f), some (0, (t : Int)), none, none, none, none, none] [] _
    refine vP_hv (fun hv1 => ?_)
    refine v_load (v := (2, 100)) (hz_X10_measure hT _ _ rfl) rfl rfl ?_
    refine v_push (0) (hz_X10_measure hT _ _ rfl) rfl ?_
    refine v_putf (r := 100) hO (hz_X10_measure hT _ _ rfl) rfl (fun hf2 => ?_)
    refine v_load (v := (2, 100)) (hz_X10_measure hT _ _ rfl) rfl rfl ?_
    refine v_push (0) (hz_X10_measure hT _ _ rfl) rfl ?_
    refine v_putf (r := 100) hO (hz_X10_measure hT _ _ rfl) rfl (fun hf3 => ?_)
    refine v_load (v := (2, 100)) (hz_X10_measure hT _ _ rfl) rfl rfl ?_
    refine v_push (0) (hz_X10_measure hT _ _ rfl) rfl ?_
    refine v_putf (r := 100) hO (hz_X10_measure hT _ _ rfl) rfl (fun hf4 => ?_)
    refine v_load (v := (2, 100)) (hz_X10_measure hT _ _ rfl) rfl rfl ?_
    refine v_load (v := (0, (t : Int))) (hz_X10_measure hT _ _ rfl) rfl rfl ?_
    refine v_push (0) (hz_X10_measure hT _ _ rfl) rfl ?_
    refine v_call (w := 3) [some (2, 100), some (0, (t : Int)), some (0, 0)] hO (hz_X10_measure hT _ _ rfl) rfl rfl ?_
    refine v_load (v := (2, 100)) (hi_X10_reachCell_0 hT) rfl rfl ?_
    refine v_getR (c := 102) (r := 100) (hi_X10_reachCell_1 hT) rfl rfl rfl ?_
    refine v_load (v := (0, (t : Int))) (hi_X10_reachCell_4 hT) rfl rfl ?_
    refine v_load (v := (0, 0)) (hi_X10_reachCell_5 hT) rfl rfl ?_
    refine v_ast (r := 102) (hi_X10_reachCell_6 hT) rfl rfl (fun ha5 hb6 hf7 => ?_)
    refine v_load (v := (2, 100)) (hi_X10_reachCell_7 hT) rfl rfl ?_
    refine v_getf (v := (1, 0)) (r := 100) (hi_X10_reachCell_8 hT) rfl rfl (fun _ => Eq.trans (Eq.trans (zset_ne (fun c => absurd c.1 (by decide))) (Eq.trans (zset_ne (fun c => absurd c.2 (by decide))) (zset_ne (fun c => absurd c.2 (by decide))))) zset_same) ?_
    refine v_load (v := (0, (t : Int))) (hi_X10_reachCell_11 hT) rfl rfl ?_
    refine v_sh64 (w := (vS 1 0 ((t : Int)))) (hi_X10_reachCell_12 hT) rfl ?_
    refine v_push (1) (hi_X10_reachCell_13 hT) rfl ?_
    refine v_bin64 (w := (v64 3 ((vS 1 0 ((t : Int)))) 1)) (hi_X10_reachCell_14 hT) rfl ?_
    refine v_push (0) (hi_X10_reachCell_15 hT) rfl ?_
    refine v_lif (hi_X10_reachCell_16 hT) (hi_X10_reachCell_17 hT) (fun hc8 => ?_) (fun hc8 => ?_)
    · have hc8 : (v64 3 ((vS 1 0 ((t : Int)))) 1) = 0 := hc8
      refine v_load (v := (2, 100)) (hi_X10_reachCell_20 hT) rfl rfl ?_
      refine v_dup (hi_X10_reachCell_21 hT) (Nat.ne_of_beq_eq_false rfl) ?_
      refine v_getf (v := (1, 0)) (r := 100) (hi_X10_reachCell_22 hT) rfl rfl (fun _ => Eq.trans (Eq.trans (zset_ne (fun c => absurd c.1 (by decide))) (Eq.trans (zset_ne (fun c => absurd c.2 (by decide))) (zset_ne (fun c => absurd c.2 (by decide))))) zset_same) ?_
      refine v_push (1) (hi_X10_reachCell_25 hT) rfl ?_
      refine v_load (v := (0, (t : Int))) (hi_X10_reachCell_26 hT) rfl rfl ?_
      refine v_sh64 (w := (vS 0 1 ((t : Int)))) (hi_X10_reachCell_27 hT) rfl ?_
      refine v_bin64 (w := (v64 4 0 ((vS 0 1 ((t : Int)))))) (hi_X10_reachCell_28 hT) rfl ?_
      refine v_putf (r := 100) hO (hi_X10_reachCell_29 hT) rfl (fun hf9 => ?_)
      refine v_load (v := (2, 100)) (hi_X10_reachCell_32 hT) rfl rfl ?_
      refine v_getR (c := 103) (r := 100) (hi_X10_reachCell_33 hT) rfl rfl rfl ?_
      refine v_load (v := (2, 100)) (hi_X10_reachCell_36 hT) rfl rfl ?_
      refine v_getf (v := (0, 0)) (r := 100) (hi_X10_reachCell_37 hT) rfl rfl (fun _ => Eq.trans (Eq.trans (zset_ne (fun c => absurd c.2 (by decide))) (zset_ne (fun c => absurd c.1 (by decide)))) zset_same) ?_
      refine v_load (v := (0, (t : Int))) (hi_X10_reachCell_40 hT) rfl rfl ?_
      refine v_ast (r := 103) (hi_X10_reachCell_41 hT) rfl rfl (fun ha10 hb11 hf12 => ?_)
      refine v_load (v := (2, 100)) (hi_X10_reachCell_42 hT) rfl rfl ?_
      refine v_load (v := (2, 100)) (hi_X10_reachCell_43 hT) rfl rfl ?_
      refine v_getf (v := (0, 0)) (r := 100) (hi_X10_reachCell_44 hT) rfl rfl (fun _ => Eq.trans (Eq.trans (zset_ne (fun c => absurd c.1 (by decide))) (Eq.trans (zset_ne (fun c => absurd c.2 (by decide))) (zset_ne (fun c => absurd c.1 (by decide))))) zset_same) ?_
      refine v_push (1) (hi_X10_reachCell_47 hT) rfl ?_
      refine v_bin (w := 1) (hi_X10_reachCell_48 hT) (by decide) ?_
      refine v_push (63) (hi_X10_reachCell_49 hT) rfl ?_
      refine v_bin (w := (1 % 64)) (hi_X10_reachCell_51 hT) (and63 (by omega) (by omega)) ?_
      refine v_putf (r := 100) hO (hi_X10_reachCell_52 hT) rfl (fun hf13 => ?_)
      refine v_ret0 (hi_X10_reachCell_55 hT) ?_
      show vP D T N 136 30 (zset (zset (zset (zset (zset (zset (zset g1 100 3 (1, 0)) 100 4 (0, 0)) 100 5 (0, 0)) 102 (((t : Int)).toNat) (0, 0)) 100 3 (1, (v64 4 0 ((vS 0 1 ((t : Int))))))) 103 0 (0, (t : Int))) 100 5 (0, (1 % 64))) [some (2, 100), some (2, 24), some (0, f), some (0, (t : Int)), none, none, none, none, none] [] _
      refine v_push (0) (hi_X10_measure_30 hT) rfl ?_
      refine v_store1 [some (2, 100), some (2, 24), some (0, f), some (0, (t : Int)), some (0, 0), none, none, none, none] (hi_X10_measure_31 hT) ⟨rfl, Nat.ne_of_beq_eq_false rfl⟩ (Nat.le_of_ble_eq_true rfl) rfl ?_
      exact k0 g1 ff1 ha5 hb6 hc8
    · have hc8 : (v64 3 ((vS 1 0 ((t : Int)))) 1) ≠ 0 := hc8
      refine v_ret0 (hi_X10_reachCell_55 hT) ?_
      show vP D T N 136 30 (zset (zset (zset (zset g1 100 3 (1, 0)) 100 4 (0, 0)) 100 5 (0, 0)) 102 (((t : Int)).toNat) (0, 0)) [some (2, 100), some (2, 24), some (0, f), some (0, (t : Int)), none, none, none, none, none] [] _
      refine v_push (0) (hi_X10_measure_30 hT) rfl ?_
      refine v_store1 [some (2, 100), some (2, 24), some (0, f), some (0, (t : Int)), some (0, 0), none, none, none, none] (hi_X10_measure_31 hT) ⟨rfl, Nat.ne_of_beq_eq_false rfl⟩ (Nat.le_of_ble_eq_true rfl) rfl ?_
      exact k1 g1 ff1 ha5 hb6 hc8
theorem qk_me33_24 {D : zD} {T : zT} (hT : hTab T) (hO : vOK T) {N : Nat} {h : zH} {Q : zR → Prop} {hd tl tk b : Nat} {co f : Nat → Int} {z : Int} (x y : Int) (o0 o1 o2 o3 : Option zV) (hv0 : zHv h) (e3 : h 100 3 = (1, z)) (e4 : h 100 4 = (0, (hd : Int))) (e5 : h 100 5 = (0, (tl : Int))) (hc : ∀ i, i < 48 → h 101 i = (0, co i)) (hf : ∀ i, i < 48 → h 102 i = (0, f i)) (bh : hd < 64) (bl : tl < 64) (eb : h 103 hd = (0, (b : Int))) (hb : b < 48) (bf : 0 ≤ f b ∧ f b ≤ 1000000) (bc : 0 ≤ co b ∧ co b ≤ 14)
    (k0 : ((tk : Int) < 2304) → ((hd : Int) = (tl : Int)) → vP D T N 136 193 h [some (2, 100), some (2, 24), some (0, x), some (0, y), some (0, (tk : Int)), o0, o1, o2, o3] [] Q)
    (k1 : ((tk : Int) < 2304) → ((hd : Int) ≠ (tl : Int)) → (0 ≤ (hd : Int)) → ((hd : Int) < 64) → (0 ≤ (b : Int)) → ((b : Int) < 48) → vP D T N 136 118 (zset (zset h 100 4 (0, (((hd : Int) + 1) % 64))) 100 3 (1, (v64 3 z ((v64 5 ((vS 0 1 ((b : Int)))) (-1)))))) [some (2, 100), some (2, 24), some (0, x), some (0, y), some (0, (tk : Int)), some (0, (b : Int)), some (0, (((f b) + ((co b) * 64)) + 1)), some (0, 0), o3] [] Q)
    (k2 : (2304 ≤ (tk : Int)) → vP D T N 136 193 h [some (2, 100), some (2, 24), some (0, x), some (0, y), some (0, (tk : Int)), o0, o1, o2, o3] [] Q) :
    vP D T (N + 1) 136 33 h [some (2, 100), some (2, 24), some (0, x), some (0, y), some (0, (tk : Int)), o0, o1, o2, o3] [] Q := by
  refine v_loadS (v := (0, (tk : Int))) (hi_X10_measure_33 hT) rfl rfl ?_
  refine v_push (2304) (hi_X10_measure_35 hT) rfl ?_
  refine v_ic (hi_X10_measure_38 hT) (fun hc1 => ?_) (fun hc1 => ?_)
  · have hc1 : (tk : Int) < 2304 := hc1
    refine v_load (v := (2, 100)) (hi_X10_measure_41 hT) rfl rfl ?_
    refine v_getf (v := (0, (hd : Int))) (r := 100) (hi_X10_measure_42 hT) rfl rfl (fun _ => e4) ?_
    refine v_load (v := (2, 100)) (hi_X10_measure_45 hT) rfl rfl ?_
    refine v_getf (v := (0, (tl : Int))) (r := 100) (hi_X10_measure_46 hT) rfl rfl (fun _ => e5) ?_
    refine v_ic (hi_X10_measure_49 hT) (fun hc2 => ?_) (fun hc2 => ?_)
    · have hc2 : (hd : Int) = (tl : Int) := hc2
      exact k0 hc1 hc2
    · have hc2 : (hd : Int) ≠ (tl : Int) := hc2
      refine v_load (v := (2, 100)) (hz_X10_measure hT _ _ rfl) rfl rfl ?_
      refine v_getR (c := 103) (r := 100) (hz_X10_measure hT _ _ rfl) rfl rfl rfl ?_
      refine v_load (v := (2, 100)) (hz_X10_measure hT _ _ rfl) rfl rfl ?_
      refine v_getf (v := (0, (hd : Int))) (r := 100) (hz_X10_measure hT _ _ rfl) rfl rfl (fun _ => e4) ?_
      refine v_aldB (t := 0) (r := 103) (w := (b : Int)) (hz_X10_measure hT _ _ rfl) rfl rfl rfl (fun _ _ => (congrArg Prod.snd eb)) (fun ha3 hb4 => ?_)
      refine v_store1 [some (2, 100), some (2, 24), some (0, x), some (0, y), some (0, (tk : Int)), some (0, (b : Int)), o1, o2, o3] (hz_X10_measure hT _ _ rfl) ⟨rfl, Nat.ne_of_beq_eq_false rfl⟩ (Nat.le_of_ble_eq_true rfl) rfl ?_
      refine v_load (v := (2, 100)) (hz_X10_measure hT _ _ rfl) rfl rfl ?_
      refine v_load (v := (2, 100)) (hz_X10_measure hT _ _ rfl) rfl rfl ?_
      refine v_getf (v := (0, (hd : Int))) (r := 100) (hz_X10_measure hT _ _ rfl) rfl rfl (fun _ => e4) ?_
      refine v_push (1) (hz_X10_measure hT _ _ rfl) rfl ?_
      refine v_bin (w := ((hd : Int) + 1)) (hz_X10_measure hT _ _ rfl) (hq_add (by omega) (by omega)) ?_
      refine v_push (63) (hz_X10_measure hT _ _ rfl) rfl ?_
      refine v_bin (w := (((hd : Int) + 1) % 64)) (hz_X10_measure hT _ _ rfl) (and63 (by omega) (by omega)) ?_
      refine v_putf (r := 100) hO (hz_X10_measure hT _ _ rfl) rfl (fun hf5 => ?_)
      refine v_load (v := (2, 100)) (hz_X10_measure hT _ _ rfl) rfl rfl ?_
      refine v_dup (hz_X10_measure hT _ _ rfl) (Nat.ne_of_beq_eq_false rfl) ?_
      refine v_getf (v := (1, z)) (r := 100) (hz_X10_measure hT _ _ rfl) rfl rfl (fun _ => Eq.trans (zset_ne (fun c => absurd c.2 (by decide))) (e3)) ?_
      refine v_push (1) (hz_X10_measure hT _ _ rfl) rfl ?_
      refine v_load (v := (0, (b : Int))) (hz_X10_measure hT _ _ rfl) rfl rfl ?_
      refine v_sh64 (w := (vS 0 1 ((b : Int)))) (hz_X10_measure hT _ _ rfl) rfl ?_
      refine v_push (-1) (hz_X10_measure hT _ _ rfl) rfl ?_
      refine v_bin64 (w := (v64 5 ((vS 0 1 ((b : Int)))) (-1))) (hz_X10_measure hT _ _ rfl) rfl ?_
      refine v_bin64 (w := (v64 3 z ((v64 5 ((vS 0 1 ((b : Int)))) (-1))))) (hz_X10_measure hT _ _ rfl) rfl ?_
      refine v_putf (r := 100) hO (hz_X10_measure hT _ _ rfl) rfl (fun hf6 => ?_)
      refine v_load (v := (2, 100)) (hz_X10_measure hT _ _ rfl) rfl rfl ?_
      refine v_getR (c := 102) (r := 100) (hz_X10_measure hT _ _ rfl) rfl rfl rfl ?_
      refine v_load (v := (0, (b : Int))) (hz_X10_measure hT _ _ rfl) rfl rfl ?_
      refine v_aldB (t := 0) (r := 102) (w := (f b)) (hz_X10_measure hT _ _ rfl) rfl rfl rfl (fun _ _ => (congrArg Prod.snd ((Eq.trans (zset_ne (fun c => absurd c.1 (by decide))) (zset_ne (fun c => absurd c.1 (by decide)))).trans (hf b (by omega))))) (fun ha7 hb8 => ?_)
      refine v_load (v := (2, 100)) (hz_X10_measure hT _ _ rfl) rfl rfl ?_
      refine v_getR (c := 101) (r := 100) (hz_X10_measure hT _ _ rfl) rfl rfl rfl ?_
      refine v_load (v := (0, (b : Int))) (hz_X10_measure hT _ _ rfl) rfl rfl ?_
      refine v_aldB (t := 0) (r := 101) (w := (co b)) (hz_X10_measure hT _ _ rfl) rfl rfl rfl (fun _ _ => (congrArg Prod.snd ((Eq.trans (zset_ne (fun c => absurd c.1 (by decide))) (zset_ne (fun c => absurd c.1 (by decide)))).trans (hc b (by omega))))) (fun ha9 hb10 => ?_)
      refine v_push (64) (hz_X10_measure hT _ _ rfl) rfl ?_
      refine v_bin (w := ((co b) * 64)) (hz_X10_measure hT _ _ rfl) (hq_mul (by omega) (by omega)) ?_
      refine v_bin (w := ((f b) + ((co b) * 64))) (hz_X10_measure hT _ _ rfl) (hq_add (by omega) (by omega)) ?_
      refine v_push (1) (hz_X10_measure hT _ _ rfl) rfl ?_
      refine v_bin (w := (((f b) + ((co b) * 64)) + 1)) (hz_X10_measure hT _ _ rfl) (hq_add (by omega) (by omega)) ?_
      refine v_store1 [some (2, 100), some (2, 24), some (0, x), some (0, y), some (0, (tk : Int)), some (0, (b : Int)), some (0, (((f b) + ((co b) * 64)) + 1)), o2, o3] (hz_X10_measure hT _ _ rfl) ⟨rfl, Nat.ne_of_beq_eq_false rfl⟩ (Nat.le_of_ble_eq_true rfl) rfl ?_
      refine v_push (0) (hz_X10_measure hT _ _ rfl) rfl ?_
      refine v_store1 [some (2, 100), some (2, 24), some (0, x), some (0, y), some (0, (tk : Int)), some (0, (b : Int)), some (0, (((f b) + ((co b) * 64)) + 1)), some (0, 0), o3] (hz_X10_measure hT _ _ rfl) ⟨rfl, Nat.ne_of_beq_eq_false rfl⟩ (Nat.le_of_ble_eq_true rfl) rfl ?_
      exact k1 hc1 hc2 ha3 hb4 ha7 hb8
  · have hc1 : 2304 ≤ (tk : Int) := Int.not_lt.mp hc1
    exact k2 hc1
theorem qk_me33e_24 {D : zD} {T : zT} (hT : hTab T) (hO : vOK T) {N : Nat} {h : zH} {Q : zR → Prop} {hd tk : Nat} (x y : Nat) (o0 o1 o2 o3 : Option zV) (hv0 : zHv h) (e4 : h 100 4 = (0, (hd : Int))) (e5 : h 100 5 = (0, (hd : Int))) (c1 : (tk : Int) < 2304)
    (k0 : vP D T N 136 193 h [some (2, 100), some (2, 24), some (0, (x : Int)), some (0, (y : Int)), some (0, (tk : Int)), o0, o1, o2, o3] [] Q) :
    vP D T (N + 1) 136 33 h [some (2, 100), some (2, 24), some (0, (x : Int)), some (0, (y : Int)), some (0, (tk : Int)), o0, o1, o2, o3] [] Q := by
  refine v_loadS (v := (0, (tk : Int))) (hi_X10_measure_33 hT) rfl rfl ?_
  refine v_push (2304) (hi_X10_measure_35 hT) rfl ?_
  refine v_ic (hi_X10_measure_38 hT) (fun _ => ?_) (fun hc1 => absurd (show (tk : Int) < 2304 from c1) hc1)
  refine v_load (v := (2, 100)) (hi_X10_measure_41 hT) rfl rfl ?_
  refine v_getf (v := (0, (hd : Int))) (r := 100) (hi_X10_measure_42 hT) rfl rfl (fun _ => e4) ?_
  refine v_load (v := (2, 100)) (hi_X10_measure_45 hT) rfl rfl ?_
  refine v_getf (v := (0, (hd : Int))) (r := 100) (hi_X10_measure_46 hT) rfl rfl (fun _ => e5) ?_
  refine v_ic (hi_X10_measure_49 hT) (fun _ => ?_) (fun hc2 => absurd (show (hd : Int) = (hd : Int) from rfl) hc2)
  exact k0 
theorem qk_me33f_24 {D : zD} {T : zT} (hT : hTab T) (hO : vOK T) {N : Nat} {h : zH} {Q : zR → Prop} {tk : Nat} (x y : Nat) (o0 o1 o2 o3 : Option zV) (hv0 : zHv h) (c1 : 2304 ≤ (tk : Int))
    (k0 : vP D T N 136 193 h [some (2, 100), some (2, 24), some (0, (x : Int)), some (0, (y : Int)), some (0, (tk : Int)), o0, o1, o2, o3] [] Q) :
    vP D T (N + 1) 136 33 h [some (2, 100), some (2, 24), some (0, (x : Int)), some (0, (y : Int)), some (0, (tk : Int)), o0, o1, o2, o3] [] Q := by
  refine v_loadS (v := (0, (tk : Int))) (hi_X10_measure_33 hT) rfl rfl ?_
  refine v_push (2304) (hi_X10_measure_35 hT) rfl ?_
  refine v_ic (hi_X10_measure_38 hT) (fun hc1 => absurd (show (tk : Int) < 2304 from hc1) (by omega)) (fun _ => ?_)
  exact k0 
theorem qk_me118_24 {D : zD} {T : zT} (hT : hTab T) (hO : vOK T) {N : Nat} {h : zH} {Q : zR → Prop} {P : PT} {hd tl tk b d fr : Nat} {co f : Nat → Int} {z : Int} (y w : Int) (o0 : Option zV) (hv0 : zHv h) (p0 : h 24 0 = (0, P 0 0)) (p1 : h 24 1 = (0, P 0 1)) (lb : lB P) (e3 : h 100 3 = (1, z)) (e4 : h 100 4 = (0, (hd : Int))) (e5 : h 100 5 = (0, (tl : Int))) (hc : ∀ i, i < 48 → h 101 i = (0, co i)) (hf : ∀ i, i < 48 → h 102 i = (0, f i)) (bh : hd < 64) (bl : tl < 64) (gb : gIn P b) (hb : b < 48) (hfr : fr < 48) (hd4 : d ≤ 4) (htk : tk < 2304)
    (k0 : ((d : Int) < 4) → (0 ≤ (b : Int)) → ((b : Int) < 48) → (0 < (co b)) → (gNb P b d = -1) → vP D T N 136 118 h [some (2, 100), some (2, 24), some (0, (fr : Int)), some (0, y), some (0, (tk : Int)), some (0, (b : Int)), some (0, w), some (0, ((d : Int) + 1)), some (0, -1)] [] Q)
    (k1 : ((d : Int) < 4) → (0 ≤ (b : Int)) → ((b : Int) < 48) → (0 < (co b)) → ∀ (q5 : Nat), (gNb P b d = (q5 : Int)) → (gIn P q5) → ((q5 : Int) = -1) → vP D T N 136 118 h [some (2, 100), some (2, 24), some (0, (fr : Int)), some (0, y), some (0, (tk : Int)), some (0, (b : Int)), some (0, w), some (0, ((d : Int) + 1)), some (0, (q5 : Int))] [] Q)
    (k2 : ((d : Int) < 4) → (0 ≤ (b : Int)) → ((b : Int) < 48) → (0 < (co b)) → ∀ (q5 : Nat), (gNb P b d = (q5 : Int)) → (gIn P q5) → ((q5 : Int) ≠ -1) → (0 ≤ (q5 : Int)) → ((q5 : Int) < 48) → (w < (f q5)) → (0 ≤ (fr : Int)) → ((fr : Int) < 48) → (w < (f fr)) → ((v64 3 ((vS 1 z ((q5 : Int)))) 1) = 0) → (0 ≤ (tl : Int)) → ((tl : Int) < 64) → vP D T N 136 118 (zset (zset (zset (zset h 102 (((q5 : Int)).toNat) (0, w)) 100 3 (1, (v64 4 z ((vS 0 1 ((q5 : Int))))))) 103 (((tl : Int)).toNat) (0, (q5 : Int))) 100 5 (0, (((tl : Int) + 1) % 64))) [some (2, 100), some (2, 24), some (0, (fr : Int)), some (0, y), some (0, (tk : Int)), some (0, (b : Int)), some (0, w), some (0, ((d : Int) + 1)), some (0, (q5 : Int))] [] Q)
    (k3 : ((d : Int) < 4) → (0 ≤ (b : Int)) → ((b : Int) < 48) → (0 < (co b)) → ∀ (q5 : Nat), (gNb P b d = (q5 : Int)) → (gIn P q5) → ((q5 : Int) ≠ -1) → (0 ≤ (q5 : Int)) → ((q5 : Int) < 48) → (w < (f q5)) → (0 ≤ (fr : Int)) → ((fr : Int) < 48) → (w < (f fr)) → ((v64 3 ((vS 1 z ((q5 : Int)))) 1) ≠ 0) → vP D T N 136 118 (zset h 102 (((q5 : Int)).toNat) (0, w)) [some (2, 100), some (2, 24), some (0, (fr : Int)), some (0, y), some (0, (tk : Int)), some (0, (b : Int)), some (0, w), some (0, ((d : Int) + 1)), some (0, (q5 : Int))] [] Q)
    (k4 : ((d : Int) < 4) → (0 ≤ (b : Int)) → ((b : Int) < 48) → (0 < (co b)) → ∀ (q5 : Nat), (gNb P b d = (q5 : Int)) → (gIn P q5) → ((q5 : Int) ≠ -1) → (0 ≤ (q5 : Int)) → ((q5 : Int) < 48) → (w < (f q5)) → (0 ≤ (fr : Int)) → ((fr : Int) < 48) → ((f fr) ≤ w) → vP D T N 136 118 h [some (2, 100), some (2, 24), some (0, (fr : Int)), some (0, y), some (0, (tk : Int)), some (0, (b : Int)), some (0, w), some (0, ((d : Int) + 1)), some (0, (q5 : Int))] [] Q)
    (k5 : ((d : Int) < 4) → (0 ≤ (b : Int)) → ((b : Int) < 48) → (0 < (co b)) → ∀ (q5 : Nat), (gNb P b d = (q5 : Int)) → (gIn P q5) → ((q5 : Int) ≠ -1) → (0 ≤ (q5 : Int)) → ((q5 : Int) < 48) → ((f q5) ≤ w) → vP D T N 136 118 h [some (2, 100), some (2, 24), some (0, (fr : Int)), some (0, y), some (0, (tk : Int)), some (0, (b : Int)), some (0, w), some (0, ((d : Int) + 1)), some (0, (q5 : Int))] [] Q)
    (k6 : ((d : Int) < 4) → (0 ≤ (b : Int)) → ((b : Int) < 48) → ((co b) ≤ 0) → vP D T N 136 33 h [some (2, 100), some (2, 24), some (0, (fr : Int)), some (0, y), some (0, ((tk : Int) + 1)), some (0, (b : Int)), some (0, w), some (0, (d : Int)), o0] [] Q)
    (k7 : (4 ≤ (d : Int)) → vP D T N 136 33 h [some (2, 100), some (2, 24), some (0, (fr : Int)), some (0, y), some (0, ((tk : Int) + 1)), some (0, (b : Int)), some (0, w), some (0, (d : Int)), o0] [] Q) :
    vP D T (N + 1) 136 118 h [some (2, 100), some (2, 24), some (0, (fr : Int)), some (0, y), some (0, (tk : Int)), some (0, (b : Int)), some (0, w), some (0, (d : Int)), o0] [] Q := by
  refine v_loadS (v := (0, (d : Int))) (hz_X10_measure hT _ _ rfl) rfl rfl ?_
  refine v_push (4) (hz_X10_measure hT _ _ rfl) rfl ?_
  refine v_ic (hz_X10_measure hT _ _ rfl) (fun hc1 => ?_) (fun hc1 => ?_)
  · have hc1 : (d : Int) < 4 := hc1
    refine v_load (v := (2, 100)) (hz_X10_measure hT _ _ rfl) rfl rfl ?_
    refine v_getR (c := 101) (r := 100) (hz_X10_measure hT _ _ rfl) rfl rfl rfl ?_
    refine v_load (v := (0, (b : Int))) (hz_X10_measure hT _ _ rfl) rfl rfl ?_
    refine v_aldB (t := 0) (r := 101) (w := (co b)) (hz_X10_measure hT _ _ rfl) rfl rfl rfl (fun _ _ => (congrArg Prod.snd (hc b (by omega)))) (fun ha2 hb3 => ?_)
    refine v_if (hz_X10_measure hT _ _ rfl) (fun hc4 => ?_) (fun hc4 => ?_)
    · have hc4 : 0 < (co b) := hc4
      refine v_load (v := (2, 24)) (hz_X10_measure hT _ _ rfl) rfl rfl ?_
      refine v_load (v := (0, (b : Int))) (hz_X10_measure hT _ _ rfl) rfl rfl ?_
      refine v_load (v := (0, (d : Int))) (hz_X10_measure hT _ _ rfl) rfl rfl ?_
      refine v_call (w := 4) [some (2, 24), some (0, (b : Int)), some (0, (d : Int)), none] hO (hz_X10_measure hT _ _ rfl) rfl rfl (cb_bes_24 hT hO ((b : Int)) ((d : Int)) b d rfl rfl gb (by omega) p0 p1 lb (fun en5 => ?_) (fun q5 en5 hg5 => ?_))
      · show vP D T N 136 142 h [some (2, 100), some (2, 24), some (0, (fr : Int)), some (0, y), some (0, (tk : Int)), some (0, (b : Int)), some (0, w), some (0, (d : Int)), o0] [(0, -1)] _
        refine v_store1 [some (2, 100), some (2, 24), some (0, (fr : Int)), some (0, y), some (0, (tk : Int)), some (0, (b : Int)), some (0, w), some (0, (d : Int)), some (0, -1)] (hi_X10_measure_142 hT) ⟨rfl, Nat.ne_of_beq_eq_false rfl⟩ (Nat.le_of_ble_eq_true rfl) rfl ?_
        refine v_load (v := (0, -1)) (hi_X10_measure_144 hT) rfl rfl ?_
        refine v_push (-1) (hi_X10_measure_146 hT) rfl ?_
        refine v_ic (hi_X10_measure_147 hT) (fun _ => ?_) (fun hc6 => absurd (show (-1 : Int) = -1 from (by decide)) hc6)
        refine v_iinc (x := (d : Int)) (u := 1) (w := ((d : Int) + 1)) [some (2, 100), some (2, 24), some (0, (fr : Int)), some (0, y), some (0, (tk : Int)), some (0, (b : Int)), some (0, w), some (0, ((d : Int) + 1)), some (0, -1)] (hi_X10_measure_181 hT) rfl rfl (Nat.le_of_ble_eq_true rfl) (vz_inc (by omega) (by omega)) rfl ?_
        refine v_goto (hi_X10_measure_184 hT) ?_
        exact k0 hc1 ha2 hb3 hc4 en5
      · show vP D T N 136 142 h [some (2, 100), some (2, 24), some (0, (fr : Int)), some (0, y), some (0, (tk : Int)), some (0, (b : Int)), some (0, w), some (0, (d : Int)), o0] [(0, (q5 : Int))] _
        refine v_store1 [some (2, 100), some (2, 24), some (0, (fr : Int)), some (0, y), some (0, (tk : Int)), some (0, (b : Int)), some (0, w), some (0, (d : Int)), some (0, (q5 : Int))] (hi_X10_measure_142 hT) ⟨rfl, Nat.ne_of_beq_eq_false rfl⟩ (Nat.le_of_ble_eq_true rfl) rfl ?_
        refine v_load (v := (0, (q5 : Int))) (hi_X10_measure_144 hT) rfl rfl ?_
        refine v_push (-1) (hi_X10_measure_146 hT) rfl ?_
        refine v_ic (hi_X10_measure_147 hT) (fun hc7 => ?_) (fun hc7 => ?_)
        · have hc7 : (q5 : Int) = -1 := hc7
          refine v_iinc (x := (d : Int)) (u := 1) (w := ((d : Int) + 1)) [some (2, 100), some (2, 24), some (0, (fr : Int)), some (0, y), some (0, (tk : Int)), some (0, (b : Int)), some (0, w), some (0, ((d : Int) + 1)), some (0, (q5 : Int))] (hi_X10_measure_181 hT) rfl rfl (Nat.le_of_ble_eq_true rfl) (vz_inc (by omega) (by omega)) rfl ?_
          refine v_goto (hi_X10_measure_184 hT) ?_
          exact k1 hc1 ha2 hb3 hc4 q5 en5 hg5 hc7
        · have hc7 : (q5 : Int) ≠ -1 := hc7
          refine v_load (v := (0, w)) (hz_X10_measure hT _ _ rfl) rfl rfl ?_
          refine v_load (v := (2, 100)) (hz_X10_measure hT _ _ rfl) rfl rfl ?_
          refine v_getR (c := 102) (r := 100) (hz_X10_measure hT _ _ rfl) rfl rfl rfl ?_
          refine v_load (v := (0, (q5 : Int))) (hz_X10_measure hT _ _ rfl) rfl rfl ?_
          refine v_aldB (t := 0) (r := 102) (w := (f q5)) (hz_X10_measure hT _ _ rfl) rfl rfl rfl (fun _ _ => (congrArg Prod.snd (hf q5 (by omega)))) (fun ha8 hb9 => ?_)
          refine v_ic (hz_X10_measure hT _ _ rfl) (fun hc10 => ?_) (fun hc10 => ?_)
          · have hc10 : w < (f q5) := hc10
            refine v_load (v := (0, w)) (hz_X10_measure hT _ _ rfl) rfl rfl ?_
            refine v_load (v := (2, 100)) (hz_X10_measure hT _ _ rfl) rfl rfl ?_
            refine v_getR (c := 102) (r := 100) (hz_X10_measure hT _ _ rfl) rfl rfl rfl ?_
            refine v_load (v := (0, (fr : Int))) (hz_X10_measure hT _ _ rfl) rfl rfl ?_
            refine v_aldB (t := 0) (r := 102) (w := (f fr)) (hz_X10_measure hT _ _ rfl) rfl rfl rfl (fun _ _ => (congrArg Prod.snd (hf fr (by omega)))) (fun ha11 hb12 => ?_)
            refine v_ic (hz_X10_measure hT _ _ rfl) (fun hc13 => ?_) (fun hc13 => ?_)
            · have hc13 : w < (f fr) := hc13
              refine v_load (v := (2, 100)) (hz_X10_measure hT _ _ rfl) rfl rfl ?_
              refine v_load (v := (0, (q5 : Int))) (hz_X10_measure hT _ _ rfl) rfl rfl ?_
              refine v_load (v := (0, w)) (hz_X10_measure hT _ _ rfl) rfl rfl ?_
              refine v_call (w := 3) [some (2, 100), some (0, (q5 : Int)), some (0, w)] hO (hz_X10_measure hT _ _ rfl) rfl rfl ?_
              refine v_load (v := (2, 100)) (hi_X10_reachCell_0 hT) rfl rfl ?_
              refine v_getR (c := 102) (r := 100) (hi_X10_reachCell_1 hT) rfl rfl rfl ?_
              refine v_load (v := (0, (q5 : Int))) (hi_X10_reachCell_4 hT) rfl rfl ?_
              refine v_load (v := (0, w)) (hi_X10_reachCell_5 hT) rfl rfl ?_
              refine v_ast (r := 102) (hi_X10_reachCell_6 hT) rfl rfl (fun ha14 hb15 hf16 => ?_)
              refine v_load (v := (2, 100)) (hi_X10_reachCell_7 hT) rfl rfl ?_
              refine v_getf (v := (1, z)) (r := 100) (hi_X10_reachCell_8 hT) rfl rfl (fun _ => Eq.trans (zset_ne (fun c => absurd c.1 (by decide))) (e3)) ?_
              refine v_load (v := (0, (q5 : Int))) (hi_X10_reachCell_11 hT) rfl rfl ?_
              refine v_sh64 (w := (vS 1 z ((q5 : Int)))) (hi_X10_reachCell_12 hT) rfl ?_
              refine v_push (1) (hi_X10_reachCell_13 hT) rfl ?_
              refine v_bin64 (w := (v64 3 ((vS 1 z ((q5 : Int)))) 1)) (hi_X10_reachCell_14 hT) rfl ?_
              refine v_push (0) (hi_X10_reachCell_15 hT) rfl ?_
              refine v_lif (hi_X10_reachCell_16 hT) (hi_X10_reachCell_17 hT) (fun hc17 => ?_) (fun hc17 => ?_)
              · have hc17 : (v64 3 ((vS 1 z ((q5 : Int)))) 1) = 0 := hc17
                refine v_load (v := (2, 100)) (hi_X10_reachCell_20 hT) rfl rfl ?_
                refine v_dup (hi_X10_reachCell_21 hT) (Nat.ne_of_beq_eq_false rfl) ?_
                refine v_getf (v := (1, z)) (r := 100) (hi_X10_reachCell_22 hT) rfl rfl (fun _ => Eq.trans (zset_ne (fun c => absurd c.1 (by decide))) (e3)) ?_
                refine v_push (1) (hi_X10_reachCell_25 hT) rfl ?_
                refine v_load (v := (0, (q5 : Int))) (hi_X10_reachCell_26 hT) rfl rfl ?_
                refine v_sh64 (w := (vS 0 1 ((q5 : Int)))) (hi_X10_reachCell_27 hT) rfl ?_
                refine v_bin64 (w := (v64 4 z ((vS 0 1 ((q5 : Int)))))) (hi_X10_reachCell_28 hT) rfl ?_
                refine v_putf (r := 100) hO (hi_X10_reachCell_29 hT) rfl (fun hf18 => ?_)
                refine v_load (v := (2, 100)) (hi_X10_reachCell_32 hT) rfl rfl ?_
                refine v_getR (c := 103) (r := 100) (hi_X10_reachCell_33 hT) rfl rfl rfl ?_
                refine v_load (v := (2, 100)) (hi_X10_reachCell_36 hT) rfl rfl ?_
                refine v_getf (v := (0, (tl : Int))) (r := 100) (hi_X10_reachCell_37 hT) rfl rfl (fun _ => Eq.trans (Eq.trans (zset_ne (fun c => absurd c.2 (by decide))) (zset_ne (fun c => absurd c.1 (by decide)))) (e5)) ?_
                refine v_load (v := (0, (q5 : Int))) (hi_X10_reachCell_40 hT) rfl rfl ?_
                refine v_ast (r := 103) (hi_X10_reachCell_41 hT) rfl rfl (fun ha19 hb20 hf21 => ?_)
                refine v_load (v := (2, 100)) (hi_X10_reachCell_42 hT) rfl rfl ?_
                refine v_load (v := (2, 100)) (hi_X10_reachCell_43 hT) rfl rfl ?_
                refine v_getf (v := (0, (tl : Int))) (r := 100) (hi_X10_reachCell_44 hT) rfl rfl (fun _ => Eq.trans (Eq.trans (zset_ne (fun c => absurd c.1 (by decide))) (Eq.trans (zset_ne (fun c => absurd c.2 (by decide))) (zset_ne (fun c => absurd c.1 (by decide))))) (e5)) ?_
                refine v_push (1) (hi_X10_reachCell_47 hT) rfl ?_
                refine v_bin (w := ((tl : Int) + 1)) (hi_X10_reachCell_48 hT) (hq_add (by omega) (by omega)) ?_
                refine v_push (63) (hi_X10_reachCell_49 hT) rfl ?_
                refine v_bin (w := (((tl : Int) + 1) % 64)) (hi_X10_reachCell_51 hT) (and63 (by omega) (by omega)) ?_
                refine v_putf (r := 100) hO (hi_X10_reachCell_52 hT) rfl (fun hf22 => ?_)
                refine v_ret0 (hi_X10_reachCell_55 hT) ?_
                show vP D T N 136 181 (zset (zset (zset (zset h 102 (((q5 : Int)).toNat) (0, w)) 100 3 (1, (v64 4 z ((vS 0 1 ((q5 : Int))))))) 103 (((tl : Int)).toNat) (0, (q5 : Int))) 100 5 (0, (((tl : Int) + 1) % 64))) [some (2, 100), some (2, 24), some (0, (fr : Int)), some (0, y), some (0, (tk : Int)), some (0, (b : Int)), some (0, w), some (0, (d : Int)), some (0, (q5 : Int))] [] _
                refine v_iinc (x := (d : Int)) (u := 1) (w := ((d : Int) + 1)) [some (2, 100), some (2, 24), some (0, (fr : Int)), some (0, y), some (0, (tk : Int)), some (0, (b : Int)), some (0, w), some (0, ((d : Int) + 1)), some (0, (q5 : Int))] (hi_X10_measure_181 hT) rfl rfl (Nat.le_of_ble_eq_true rfl) (vz_inc (by omega) (by omega)) rfl ?_
                refine v_goto (hi_X10_measure_184 hT) ?_
                exact k2 hc1 ha2 hb3 hc4 q5 en5 hg5 hc7 ha8 hb9 hc10 ha11 hb12 hc13 hc17 ha19 hb20
              · have hc17 : (v64 3 ((vS 1 z ((q5 : Int)))) 1) ≠ 0 := hc17
                refine v_ret0 (hi_X10_reachCell_55 hT) ?_
                show vP D T N 136 181 (zset h 102 (((q5 : Int)).toNat) (0, w)) [some (2, 100), some (2, 24), some (0, (fr : Int)), some (0, y), some (0, (tk : Int)), some (0, (b : Int)), some (0, w), some (0, (d : Int)), some (0, (q5 : Int))] [] _
                refine v_iinc (x := (d : Int)) (u := 1) (w := ((d : Int) + 1)) [some (2, 100), some (2, 24), some (0, (fr : Int)), some (0, y), some (0, (tk : Int)), some (0, (b : Int)), some (0, w), some (0, ((d : Int) + 1)), some (0, (q5 : Int))] (hi_X10_measure_181 hT) rfl rfl (Nat.le_of_ble_eq_true rfl) (vz_inc (by omega) (by omega)) rfl ?_
                refine v_goto (hi_X10_measure_184 hT) ?_
                exact k3 hc1 ha2 hb3 hc4 q5 en5 hg5 hc7 ha8 hb9 hc10 ha11 hb12 hc13 hc17
            · have hc13 : (f fr) ≤ w := Int.not_lt.mp hc13
              refine v_iinc (x := (d : Int)) (u := 1) (w := ((d : Int) + 1)) [some (2, 100), some (2, 24), some (0, (fr : Int)), some (0, y), some (0, (tk : Int)), some (0, (b : Int)), some (0, w), some (0, ((d : Int) + 1)), some (0, (q5 : Int))] (hi_X10_measure_181 hT) rfl rfl (Nat.le_of_ble_eq_true rfl) (vz_inc (by omega) (by omega)) rfl ?_
              refine v_goto (hi_X10_measure_184 hT) ?_
              exact k4 hc1 ha2 hb3 hc4 q5 en5 hg5 hc7 ha8 hb9 hc10 ha11 hb12 hc13
          · have hc10 : (f q5) ≤ w := Int.not_lt.mp hc10
            refine v_iinc (x := (d : Int)) (u := 1) (w := ((d : Int) + 1)) [some (2, 100), some (2, 24), some (0, (fr : Int)), some (0, y), some (0, (tk : Int)), some (0, (b : Int)), some (0, w), some (0, ((d : Int) + 1)), some (0, (q5 : Int))] (hi_X10_measure_181 hT) rfl rfl (Nat.le_of_ble_eq_true rfl) (vz_inc (by omega) (by omega)) rfl ?_
            refine v_goto (hi_X10_measure_184 hT) ?_
            exact k5 hc1 ha2 hb3 hc4 q5 en5 hg5 hc7 ha8 hb9 hc10
    · have hc4 : (co b) ≤ 0 := Int.not_lt.mp hc4
      refine v_iinc (x := (tk : Int)) (u := 1) (w := ((tk : Int) + 1)) [some (2, 100), some (2, 24), some (0, (fr : Int)), some (0, y), some (0, ((tk : Int) + 1)), some (0, (b : Int)), some (0, w), some (0, (d : Int)), o0] (hi_X10_measure_187 hT) rfl rfl (Nat.le_of_ble_eq_true rfl) (vz_inc (by omega) (by omega)) rfl ?_
      refine v_goto (hi_X10_measure_190 hT) ?_
      exact k6 hc1 ha2 hb3 hc4
  · have hc1 : 4 ≤ (d : Int) := Int.not_lt.mp hc1
    refine v_iinc (x := (tk : Int)) (u := 1) (w := ((tk : Int) + 1)) [some (2, 100), some (2, 24), some (0, (fr : Int)), some (0, y), some (0, ((tk : Int) + 1)), some (0, (b : Int)), some (0, w), some (0, (d : Int)), o0] (hi_X10_measure_187 hT) rfl rfl (Nat.le_of_ble_eq_true rfl) (vz_inc (by omega) (by omega)) rfl ?_
    refine v_goto (hi_X10_measure_190 hT) ?_
    exact k7 hc1
theorem qk_me193_24 {D : zD} {T : zT} (hT : hTab T) (hO : vOK T) {N : Nat} {h : zH} {Q : zR → Prop} {fr : Nat} {f : Nat → Int} (o0 o1 o2 o3 o4 o5 : Option zV) (hv0 : zHv h) (hf : ∀ i, i < 48 → h 102 i = (0, f i)) (hfr : fr < 48) (bf : 0 ≤ f fr ∧ f fr ≤ 1000000)
    (k0 : (0 ≤ (fr : Int)) → ((fr : Int) < 48) → ((f fr) = 1000000) → Q (h, some (0, -1)))
    (k1 : (0 ≤ (fr : Int)) → ((fr : Int) < 48) → ((f fr) ≠ 1000000) → Q (h, some (0, ((f fr) / 64)))) :
    vP D T N 136 193 h [some (2, 100), some (2, 24), some (0, (fr : Int)), o0, o1, o2, o3, o4, o5] [] Q := by
  refine v_load (v := (2, 100)) (hz_X10_measure hT _ _ rfl) rfl rfl ?_
  refine v_getR (c := 102) (r := 100) (hz_X10_measure hT _ _ rfl) rfl rfl rfl ?_
  refine v_load (v := (0, (fr : Int))) (hz_X10_measure hT _ _ rfl) rfl rfl ?_
  refine v_aldB (t := 0) (r := 102) (w := (f fr)) (hz_X10_measure hT _ _ rfl) rfl rfl rfl (fun _ _ => (congrArg Prod.snd (hf fr (by omega)))) (fun ha1 hb2 => ?_)
  refine v_push (1000000) (hz_X10_measure hT _ _ rfl) rfl ?_
  refine v_ic (hz_X10_measure hT _ _ rfl) (fun hc3 => ?_) (fun hc3 => ?_)
  · have hc3 : (f fr) = 1000000 := hc3
    refine v_push (-1) (hz_X10_measure hT _ _ rfl) rfl ?_
    refine v_goto (hz_X10_measure hT _ _ rfl) ?_
    refine v_ret (hi_X10_measure_217 hT) (Or.inl rfl) ?_
    exact k0 ha1 hb2 hc3
  · have hc3 : (f fr) ≠ 1000000 := hc3
    refine v_load (v := (2, 100)) (hz_X10_measure hT _ _ rfl) rfl rfl ?_
    refine v_getR (c := 102) (r := 100) (hz_X10_measure hT _ _ rfl) rfl rfl rfl ?_
    refine v_load (v := (0, (fr : Int))) (hz_X10_measure hT _ _ rfl) rfl rfl ?_
    refine v_aldB (t := 0) (r := 102) (w := (f fr)) (hz_X10_measure hT _ _ rfl) rfl rfl rfl (fun _ _ => (congrArg Prod.snd (hf fr (by omega)))) (fun ha4 hb5 => ?_)
    refine v_push (64) (hz_X10_measure hT _ _ rfl) rfl ?_
    refine v_div (w := ((f fr) / 64)) (hz_X10_measure hT _ _ rfl) (fun _ => hq_quo (by omega) (by omega) (by omega) (by omega)) (fun hc6 => ?_)
    refine v_ret (hi_X10_measure_217 hT) (Or.inl rfl) ?_
    exact k1 ha1 hb2 hc3
theorem qk_tr0_24 {D : zD} {T : zT} (hT : hTab T) (hO : vOK T) {N : Nat} {h : zH} {Q : zR → Prop} {fr t : Nat} (hv0 : zHv h)
    (k0 : vP D T N 139 23 (zset (zset (zset h 100 7 (0, 0)) 104 0 (0, (fr : Int))) 100 8 (1, 0)) [some (2, 100), some (2, 24), some (0, (fr : Int)), some (0, (t : Int)), some (0, (fr : Int)), some (0, 1), none, none, none] [] Q) :
    vP D T N 139 0 h [some (2, 100), some (2, 24), some (0, (fr : Int)), some (0, (t : Int)), none, none, none, none, none] [] Q := by
  refine v_load (v := (0, (fr : Int))) (hz_X10_trace hT _ _ rfl) rfl rfl ?_
  refine v_store1 [some (2, 100), some (2, 24), some (0, (fr : Int)), some (0, (t : Int)), some (0, (fr : Int)), none, none, none, none] (hz_X10_trace hT _ _ rfl) ⟨rfl, Nat.ne_of_beq_eq_false rfl⟩ (Nat.le_of_ble_eq_true rfl) rfl ?_
  refine v_load (v := (2, 100)) (hz_X10_trace hT _ _ rfl) rfl rfl ?_
  refine v_push (0) (hz_X10_trace hT _ _ rfl) rfl ?_
  refine v_putf (r := 100) hO (hz_X10_trace hT _ _ rfl) rfl (fun hf1 => ?_)
  refine v_load (v := (2, 100)) (hz_X10_trace hT _ _ rfl) rfl rfl ?_
  refine v_getR (c := 104) (r := 100) (hz_X10_trace hT _ _ rfl) rfl rfl rfl ?_
  refine v_push (0) (hz_X10_trace hT _ _ rfl) rfl ?_
  refine v_load (v := (0, (fr : Int))) (hz_X10_trace hT _ _ rfl) rfl rfl ?_
  refine v_ast (r := 104) (hz_X10_trace hT _ _ rfl) rfl rfl (fun ha2 hb3 hf4 => ?_)
  refine v_load (v := (2, 100)) (hz_X10_trace hT _ _ rfl) rfl rfl ?_
  refine v_push (0) (hz_X10_trace hT _ _ rfl) rfl ?_
  refine v_putf (r := 100) hO (hz_X10_trace hT _ _ rfl) rfl (fun hf5 => ?_)
  refine v_push (1) (hz_X10_trace hT _ _ rfl) rfl ?_
  refine v_store1 [some (2, 100), some (2, 24), some (0, (fr : Int)), some (0, (t : Int)), some (0, (fr : Int)), some (0, 1), none, none, none] (hz_X10_trace hT _ _ rfl) ⟨rfl, Nat.ne_of_beq_eq_false rfl⟩ (Nat.le_of_ble_eq_true rfl) rfl ?_
  exact k0 
theorem qk_tr23_24 {D : zD} {T : zT} (hT : hTab T) (hO : vOK T) {N : Nat} {h : zH} {Q : zR → Prop} {t a s : Nat} (x : Int) (o1 o2 o3 : Option zV) (hv0 : zHv h)
    (k0 : ((s : Int) < 48) → ((a : Int) = (t : Int)) → Q (h, none))
    (k1 : ((s : Int) < 48) → ((a : Int) ≠ (t : Int)) → vP D T N 139 42 h [some (2, 100), some (2, 24), some (0, x), some (0, (t : Int)), some (0, (a : Int)), some (0, (s : Int)), some (0, -1), some (0, 0), o3] [] Q)
    (k2 : (48 ≤ (s : Int)) → Q (h, none)) :
    vP D T (N + 1) 139 23 h [some (2, 100), some (2, 24), some (0, x), some (0, (t : Int)), some (0, (a : Int)), some (0, (s : Int)), o1, o2, o3] [] Q := by
  refine v_loadS (v := (0, (s : Int))) (hz_X10_trace hT _ _ rfl) rfl rfl ?_
  refine v_push (48) (hz_X10_trace hT _ _ rfl) rfl ?_
  refine v_ic (hz_X10_trace hT _ _ rfl) (fun hc1 => ?_) (fun hc1 => ?_)
  · have hc1 : (s : Int) < 48 := hc1
    refine v_load (v := (0, (a : Int))) (hz_X10_trace hT _ _ rfl) rfl rfl ?_
    refine v_load (v := (0, (t : Int))) (hz_X10_trace hT _ _ rfl) rfl rfl ?_
    refine v_ic (hz_X10_trace hT _ _ rfl) (fun hc2 => ?_) (fun hc2 => ?_)
    · have hc2 : (a : Int) = (t : Int) := hc2
      refine v_ret0 (hi_X10_trace_165 hT) ?_
      exact k0 hc1 hc2
    · have hc2 : (a : Int) ≠ (t : Int) := hc2
      refine v_push (-1) (hz_X10_trace hT _ _ rfl) rfl ?_
      refine v_store1 [some (2, 100), some (2, 24), some (0, x), some (0, (t : Int)), some (0, (a : Int)), some (0, (s : Int)), some (0, -1), o2, o3] (hz_X10_trace hT _ _ rfl) ⟨rfl, Nat.ne_of_beq_eq_false rfl⟩ (Nat.le_of_ble_eq_true rfl) rfl ?_
      refine v_push (0) (hz_X10_trace hT _ _ rfl) rfl ?_
      refine v_store1 [some (2, 100), some (2, 24), some (0, x), some (0, (t : Int)), some (0, (a : Int)), some (0, (s : Int)), some (0, -1), some (0, 0), o3] (hz_X10_trace hT _ _ rfl) ⟨rfl, Nat.ne_of_beq_eq_false rfl⟩ (Nat.le_of_ble_eq_true rfl) rfl ?_
      exact k1 hc1 hc2
  · have hc1 : 48 ≤ (s : Int) := Int.not_lt.mp hc1
    refine v_ret0 (hi_X10_trace_165 hT) ?_
    exact k2 hc1
theorem qk_tr42_24 {D : zD} {T : zT} (hT : hTab T) (hO : vOK T) {N : Nat} {h : zH} {Q : zR → Prop} {P : PT} {t a s d : Nat} {co f : Nat → Int} (x nx : Int) (o3 : Option zV) (hv0 : zHv h) (p0 : h 24 0 = (0, P 0 0)) (p1 : h 24 1 = (0, P 0 1)) (lb : lB P) (hc : ∀ i, i < 48 → h 101 i = (0, co i)) (hf : ∀ i, i < 48 → h 102 i = (0, f i)) (bf : ∀ i, i < 48 → (0 ≤ f i ∧ f i ≤ 1000000) ∧ (0 ≤ co i ∧ co i ≤ 14)) (ga : gIn P a) (ha : a < 48) (hd4 : d ≤ 4)
    (k0 : ((d : Int) < 4) → (nx = -1) → (gNb P a d = -1) → vP D T N 139 42 h [some (2, 100), some (2, 24), some (0, x), some (0, (t : Int)), some (0, (a : Int)), some (0, (s : Int)), some (0, nx), some (0, ((d : Int) + 1)), some (0, -1)] [] Q)
    (k1 : ((d : Int) < 4) → (nx = -1) → ∀ (q3 : Nat), (gNb P a d = (q3 : Int)) → (gIn P q3) → ((q3 : Int) = -1) → vP D T N 139 42 h [some (2, 100), some (2, 24), some (0, x), some (0, (t : Int)), some (0, (a : Int)), some (0, (s : Int)), some (0, nx), some (0, ((d : Int) + 1)), some (0, (q3 : Int))] [] Q)
    (k2 : ((d : Int) < 4) → (nx = -1) → ∀ (q3 : Nat), (gNb P a d = (q3 : Int)) → (gIn P q3) → ((q3 : Int) ≠ -1) → (0 ≤ (q3 : Int)) → ((q3 : Int) < 48) → (0 < (co q3)) → (0 ≤ (a : Int)) → ((a : Int) < 48) → ((((f q3) + ((co q3) * 64)) + 1) = (f a)) → vP D T N 139 42 h [some (2, 100), some (2, 24), some (0, x), some (0, (t : Int)), some (0, (a : Int)), some (0, (s : Int)), some (0, (q3 : Int)), some (0, ((d : Int) + 1)), some (0, (q3 : Int))] [] Q)
    (k3 : ((d : Int) < 4) → (nx = -1) → ∀ (q3 : Nat), (gNb P a d = (q3 : Int)) → (gIn P q3) → ((q3 : Int) ≠ -1) → (0 ≤ (q3 : Int)) → ((q3 : Int) < 48) → (0 < (co q3)) → (0 ≤ (a : Int)) → ((a : Int) < 48) → ((((f q3) + ((co q3) * 64)) + 1) ≠ (f a)) → vP D T N 139 42 h [some (2, 100), some (2, 24), some (0, x), some (0, (t : Int)), some (0, (a : Int)), some (0, (s : Int)), some (0, nx), some (0, ((d : Int) + 1)), some (0, (q3 : Int))] [] Q)
    (k4 : ((d : Int) < 4) → (nx = -1) → ∀ (q3 : Nat), (gNb P a d = (q3 : Int)) → (gIn P q3) → ((q3 : Int) ≠ -1) → (0 ≤ (q3 : Int)) → ((q3 : Int) < 48) → ((co q3) ≤ 0) → vP D T N 139 42 h [some (2, 100), some (2, 24), some (0, x), some (0, (t : Int)), some (0, (a : Int)), some (0, (s : Int)), some (0, nx), some (0, ((d : Int) + 1)), some (0, (q3 : Int))] [] Q)
    (k5 : ((d : Int) < 4) → (nx ≠ -1) → vP D T N 139 120 h [some (2, 100), some (2, 24), some (0, x), some (0, (t : Int)), some (0, (a : Int)), some (0, (s : Int)), some (0, nx), some (0, (d : Int)), o3] [] Q)
    (k6 : (4 ≤ (d : Int)) → vP D T N 139 120 h [some (2, 100), some (2, 24), some (0, x), some (0, (t : Int)), some (0, (a : Int)), some (0, (s : Int)), some (0, nx), some (0, (d : Int)), o3] [] Q) :
    vP D T (N + 1) 139 42 h [some (2, 100), some (2, 24), some (0, x), some (0, (t : Int)), some (0, (a : Int)), some (0, (s : Int)), some (0, nx), some (0, (d : Int)), o3] [] Q := by
  refine v_loadS (v := (0, (d : Int))) (hz_X10_trace hT _ _ rfl) rfl rfl ?_
  refine v_push (4) (hz_X10_trace hT _ _ rfl) rfl ?_
  refine v_ic (hz_X10_trace hT _ _ rfl) (fun hc1 => ?_) (fun hc1 => ?_)
  · have hc1 : (d : Int) < 4 := hc1
    refine v_load (v := (0, nx)) (hz_X10_trace hT _ _ rfl) rfl rfl ?_
    refine v_push (-1) (hz_X10_trace hT _ _ rfl) rfl ?_
    refine v_ic (hz_X10_trace hT _ _ rfl) (fun hc2 => ?_) (fun hc2 => ?_)
    · have hc2 : nx = -1 := hc2
      refine v_load (v := (2, 24)) (hz_X10_trace hT _ _ rfl) rfl rfl ?_
      refine v_load (v := (0, (a : Int))) (hz_X10_trace hT _ _ rfl) rfl rfl ?_
      refine v_load (v := (0, (d : Int))) (hz_X10_trace hT _ _ rfl) rfl rfl ?_
      refine v_call (w := 4) [some (2, 24), some (0, (a : Int)), some (0, (d : Int)), none] hO (hz_X10_trace hT _ _ rfl) rfl rfl (cb_bes_24 hT hO ((a : Int)) ((d : Int)) a d rfl rfl ga (by omega) p0 p1 lb (fun en3 => ?_) (fun q3 en3 hg3 => ?_))
      · show vP D T N 139 62 h [some (2, 100), some (2, 24), some (0, x), some (0, (t : Int)), some (0, (a : Int)), some (0, (s : Int)), some (0, nx), some (0, (d : Int)), o3] [(0, -1)] _
        refine v_store1 [some (2, 100), some (2, 24), some (0, x), some (0, (t : Int)), some (0, (a : Int)), some (0, (s : Int)), some (0, nx), some (0, (d : Int)), some (0, -1)] (hi_X10_trace_62 hT) ⟨rfl, Nat.ne_of_beq_eq_false rfl⟩ (Nat.le_of_ble_eq_true rfl) rfl ?_
        refine v_load (v := (0, -1)) (hi_X10_trace_64 hT) rfl rfl ?_
        refine v_push (-1) (hi_X10_trace_66 hT) rfl ?_
        refine v_ic (hi_X10_trace_67 hT) (fun _ => ?_) (fun hc5 => absurd (show (-1 : Int) = -1 from (by decide)) hc5)
        refine v_iinc (x := (d : Int)) (u := 1) (w := ((d : Int) + 1)) [some (2, 100), some (2, 24), some (0, x), some (0, (t : Int)), some (0, (a : Int)), some (0, (s : Int)), some (0, nx), some (0, ((d : Int) + 1)), some (0, -1)] (hi_X10_trace_114 hT) rfl rfl (Nat.le_of_ble_eq_true rfl) (vz_inc (by omega) (by omega)) rfl ?_
        refine v_goto (hi_X10_trace_117 hT) ?_
        exact k0 hc1 hc2 en3
      · show vP D T N 139 62 h [some (2, 100), some (2, 24), some (0, x), some (0, (t : Int)), some (0, (a : Int)), some (0, (s : Int)), some (0, nx), some (0, (d : Int)), o3] [(0, (q3 : Int))] _
        have bq4 := bf q3 hg3.1
        refine v_store1 [some (2, 100), some (2, 24), some (0, x), some (0, (t : Int)), some (0, (a : Int)), some (0, (s : Int)), some (0, nx), some (0, (d : Int)), some (0, (q3 : Int))] (hi_X10_trace_62 hT) ⟨rfl, Nat.ne_of_beq_eq_false rfl⟩ (Nat.le_of_ble_eq_true rfl) rfl ?_
        refine v_load (v := (0, (q3 : Int))) (hi_X10_trace_64 hT) rfl rfl ?_
        refine v_push (-1) (hi_X10_trace_66 hT) rfl ?_
        refine v_ic (hi_X10_trace_67 hT) (fun hc6 => ?_) (fun hc6 => ?_)
        · have hc6 : (q3 : Int) = -1 := hc6
          refine v_iinc (x := (d : Int)) (u := 1) (w := ((d : Int) + 1)) [some (2, 100), some (2, 24), some (0, x), some (0, (t : Int)), some (0, (a : Int)), some (0, (s : Int)), some (0, nx), some (0, ((d : Int) + 1)), some (0, (q3 : Int))] (hi_X10_trace_114 hT) rfl rfl (Nat.le_of_ble_eq_true rfl) (vz_inc (by omega) (by omega)) rfl ?_
          refine v_goto (hi_X10_trace_117 hT) ?_
          exact k1 hc1 hc2 q3 en3 hg3 hc6
        · have hc6 : (q3 : Int) ≠ -1 := hc6
          refine v_load (v := (2, 100)) (hz_X10_trace hT _ _ rfl) rfl rfl ?_
          refine v_getR (c := 101) (r := 100) (hz_X10_trace hT _ _ rfl) rfl rfl rfl ?_
          refine v_load (v := (0, (q3 : Int))) (hz_X10_trace hT _ _ rfl) rfl rfl ?_
          refine v_aldB (t := 0) (r := 101) (w := (co q3)) (hz_X10_trace hT _ _ rfl) rfl rfl rfl (fun _ _ => (congrArg Prod.snd (hc q3 (by omega)))) (fun ha7 hb8 => ?_)
          refine v_if (hz_X10_trace hT _ _ rfl) (fun hc9 => ?_) (fun hc9 => ?_)
          · have hc9 : 0 < (co q3) := hc9
            refine v_load (v := (2, 100)) (hz_X10_trace hT _ _ rfl) rfl rfl ?_
            refine v_getR (c := 102) (r := 100) (hz_X10_trace hT _ _ rfl) rfl rfl rfl ?_
            refine v_load (v := (0, (q3 : Int))) (hz_X10_trace hT _ _ rfl) rfl rfl ?_
            refine v_aldB (t := 0) (r := 102) (w := (f q3)) (hz_X10_trace hT _ _ rfl) rfl rfl rfl (fun _ _ => (congrArg Prod.snd (hf q3 (by omega)))) (fun ha10 hb11 => ?_)
            refine v_load (v := (2, 100)) (hz_X10_trace hT _ _ rfl) rfl rfl ?_
            refine v_getR (c := 101) (r := 100) (hz_X10_trace hT _ _ rfl) rfl rfl rfl ?_
            refine v_load (v := (0, (q3 : Int))) (hz_X10_trace hT _ _ rfl) rfl rfl ?_
            refine v_aldB (t := 0) (r := 101) (w := (co q3)) (hz_X10_trace hT _ _ rfl) rfl rfl rfl (fun _ _ => (congrArg Prod.snd (hc q3 (by omega)))) (fun ha12 hb13 => ?_)
            refine v_push (64) (hz_X10_trace hT _ _ rfl) rfl ?_
            refine v_bin (w := ((co q3) * 64)) (hz_X10_trace hT _ _ rfl) (hq_mul (by omega) (by omega)) ?_
            refine v_bin (w := ((f q3) + ((co q3) * 64))) (hz_X10_trace hT _ _ rfl) (hq_add (by omega) (by omega)) ?_
            refine v_push (1) (hz_X10_trace hT _ _ rfl) rfl ?_
            refine v_bin (w := (((f q3) + ((co q3) * 64)) + 1)) (hz_X10_trace hT _ _ rfl) (hq_add (by omega) (by omega)) ?_
            refine v_load (v := (2, 100)) (hz_X10_trace hT _ _ rfl) rfl rfl ?_
            refine v_getR (c := 102) (r := 100) (hz_X10_trace hT _ _ rfl) rfl rfl rfl ?_
            refine v_load (v := (0, (a : Int))) (hz_X10_trace hT _ _ rfl) rfl rfl ?_
            refine v_aldB (t := 0) (r := 102) (w := (f a)) (hz_X10_trace hT _ _ rfl) rfl rfl rfl (fun _ _ => (congrArg Prod.snd (hf a (by omega)))) (fun ha14 hb15 => ?_)
            refine v_ic (hz_X10_trace hT _ _ rfl) (fun hc16 => ?_) (fun hc16 => ?_)
            · have hc16 : (((f q3) + ((co q3) * 64)) + 1) = (f a) := hc16
              refine v_load (v := (0, (q3 : Int))) (hz_X10_trace hT _ _ rfl) rfl rfl ?_
              refine v_store1 [some (2, 100), some (2, 24), some (0, x), some (0, (t : Int)), some (0, (a : Int)), some (0, (s : Int)), some (0, (q3 : Int)), some (0, (d : Int)), some (0, (q3 : Int))] (hz_X10_trace hT _ _ rfl) ⟨rfl, Nat.ne_of_beq_eq_false rfl⟩ (Nat.le_of_ble_eq_true rfl) rfl ?_
              refine v_iinc (x := (d : Int)) (u := 1) (w := ((d : Int) + 1)) [some (2, 100), some (2, 24), some (0, x), some (0, (t : Int)), some (0, (a : Int)), some (0, (s : Int)), some (0, (q3 : Int)), some (0, ((d : Int) + 1)), some (0, (q3 : Int))] (hi_X10_trace_114 hT) rfl rfl (Nat.le_of_ble_eq_true rfl) (vz_inc (by omega) (by omega)) rfl ?_
              refine v_goto (hi_X10_trace_117 hT) ?_
              exact k2 hc1 hc2 q3 en3 hg3 hc6 ha7 hb8 hc9 ha14 hb15 hc16
            · have hc16 : (((f q3) + ((co q3) * 64)) + 1) ≠ (f a) := hc16
              refine v_iinc (x := (d : Int)) (u := 1) (w := ((d : Int) + 1)) [some (2, 100), some (2, 24), some (0, x), some (0, (t : Int)), some (0, (a : Int)), some (0, (s : Int)), some (0, nx), some (0, ((d : Int) + 1)), some (0, (q3 : Int))] (hi_X10_trace_114 hT) rfl rfl (Nat.le_of_ble_eq_true rfl) (vz_inc (by omega) (by omega)) rfl ?_
              refine v_goto (hi_X10_trace_117 hT) ?_
              exact k3 hc1 hc2 q3 en3 hg3 hc6 ha7 hb8 hc9 ha14 hb15 hc16
          · have hc9 : (co q3) ≤ 0 := Int.not_lt.mp hc9
            refine v_iinc (x := (d : Int)) (u := 1) (w := ((d : Int) + 1)) [some (2, 100), some (2, 24), some (0, x), some (0, (t : Int)), some (0, (a : Int)), some (0, (s : Int)), some (0, nx), some (0, ((d : Int) + 1)), some (0, (q3 : Int))] (hi_X10_trace_114 hT) rfl rfl (Nat.le_of_ble_eq_true rfl) (vz_inc (by omega) (by omega)) rfl ?_
            refine v_goto (hi_X10_trace_117 hT) ?_
            exact k4 hc1 hc2 q3 en3 hg3 hc6 ha7 hb8 hc9
    · have hc2 : nx ≠ -1 := hc2
      exact k5 hc1 hc2
  · have hc1 : 4 ≤ (d : Int) := Int.not_lt.mp hc1
    exact k6 hc1
theorem qk_tr120_24 {D : zD} {T : zT} (hT : hTab T) (hO : vOK T) {N : Nat} {h : zH} {Q : zR → Prop} {t s : Nat} {z : Int} (x y nx : Int) (o2 o3 : Option zV) (hv0 : zHv h) (ez : h 100 8 = (1, z)) (hs : s < 48)
    (k0 : (nx = -1) → Q (h, none))
    (k1 : (nx ≠ -1) → (0 ≤ (s : Int)) → ((s : Int) < 48) → vP D T N 139 23 (zset (zset (zset h 104 (((s : Int)).toNat) (0, nx)) 100 7 (0, (s : Int))) 100 8 (1, (v64 4 z ((vS 0 1 nx))))) [some (2, 100), some (2, 24), some (0, x), some (0, (t : Int)), some (0, nx), some (0, ((s : Int) + 1)), some (0, nx), o2, o3] [] Q) :
    vP D T N 139 120 h [some (2, 100), some (2, 24), some (0, x), some (0, (t : Int)), some (0, y), some (0, (s : Int)), some (0, nx), o2, o3] [] Q := by
  refine v_load (v := (0, nx)) (hz_X10_trace hT _ _ rfl) rfl rfl ?_
  refine v_push (-1) (hz_X10_trace hT _ _ rfl) rfl ?_
  refine v_ic (hz_X10_trace hT _ _ rfl) (fun hc1 => ?_) (fun hc1 => ?_)
  · have hc1 : nx = -1 := hc1
    refine v_ret0 (hz_X10_trace hT _ _ rfl) ?_
    exact k0 hc1
  · have hc1 : nx ≠ -1 := hc1
    refine v_load (v := (0, nx)) (hz_X10_trace hT _ _ rfl) rfl rfl ?_
    refine v_store1 [some (2, 100), some (2, 24), some (0, x), some (0, (t : Int)), some (0, nx), some (0, (s : Int)), some (0, nx), o2, o3] (hz_X10_trace hT _ _ rfl) ⟨rfl, Nat.ne_of_beq_eq_false rfl⟩ (Nat.le_of_ble_eq_true rfl) rfl ?_
    refine v_load (v := (2, 100)) (hz_X10_trace hT _ _ rfl) rfl rfl ?_
    refine v_getR (c := 104) (r := 100) (hz_X10_trace hT _ _ rfl) rfl rfl rfl ?_
    refine v_load (v := (0, (s : Int))) (hz_X10_trace hT _ _ rfl) rfl rfl ?_
    refine v_load (v := (0, nx)) (hz_X10_trace hT _ _ rfl) rfl rfl ?_
    refine v_ast (r := 104) (hz_X10_trace hT _ _ rfl) rfl rfl (fun ha2 hb3 hf4 => ?_)
    refine v_load (v := (2, 100)) (hz_X10_trace hT _ _ rfl) rfl rfl ?_
    refine v_load (v := (0, (s : Int))) (hz_X10_trace hT _ _ rfl) rfl rfl ?_
    refine v_putf (r := 100) hO (hz_X10_trace hT _ _ rfl) rfl (fun hf5 => ?_)
    refine v_load (v := (2, 100)) (hz_X10_trace hT _ _ rfl) rfl rfl ?_
    refine v_dup (hz_X10_trace hT _ _ rfl) (Nat.ne_of_beq_eq_false rfl) ?_
    refine v_getf (v := (1, z)) (r := 100) (hz_X10_trace hT _ _ rfl) rfl rfl (fun _ => Eq.trans (Eq.trans (zset_ne (fun c => absurd c.2 (by decide))) (zset_ne (fun c => absurd c.1 (by decide)))) (ez)) ?_
    refine v_push (1) (hz_X10_trace hT _ _ rfl) rfl ?_
    refine v_load (v := (0, nx)) (hz_X10_trace hT _ _ rfl) rfl rfl ?_
    refine v_sh64 (w := (vS 0 1 nx)) (hz_X10_trace hT _ _ rfl) rfl ?_
    refine v_bin64 (w := (v64 4 z ((vS 0 1 nx)))) (hz_X10_trace hT _ _ rfl) rfl ?_
    refine v_putf (r := 100) hO (hz_X10_trace hT _ _ rfl) rfl (fun hf6 => ?_)
    refine v_iinc (x := (s : Int)) (u := 1) (w := ((s : Int) + 1)) [some (2, 100), some (2, 24), some (0, x), some (0, (t : Int)), some (0, nx), some (0, ((s : Int) + 1)), some (0, nx), o2, o3] (hz_X10_trace hT _ _ rfl) rfl rfl (Nat.le_of_ble_eq_true rfl) (vz_inc (by omega) (by omega)) rfl ?_
    refine v_goto (hz_X10_trace hT _ _ rfl) ?_
    exact k1 hc1 ha2 hb3
theorem qk_rt0_24 {D : zD} {T : zT} (hT : hTab T) (hO : vOK T) {N : Nat} {h : zH} {Q : zR → Prop} {P : PT} {m : Nat} (hv0 : zHv h) (hP : cP 24 P h) (hm : m < 6) (hk : (m : Int) < P 0 3)
    (k0 : (0 ≤ (m : Int)) → ((m : Int) < 6) → vP D T N 136 0 h [some (2, 100), some (2, 24), some (0, (P 6 m)), some (0, (P 7 m)), none, none, none, none, none] [] (fun r1 => vP D T N 138 17 r1.1 [some (2, 100), some (2, 24), some (0, (m : Int)), none] (zpush r1.2 []) Q)) :
    vP D T N 138 0 h [some (2, 100), some (2, 24), some (0, (m : Int)), none] [] Q := by
  refine v_load (v := (2, 100)) (hz_X10_retrace hT _ _ rfl) rfl rfl ?_
  refine v_load (v := (2, 24)) (hz_X10_retrace hT _ _ rfl) rfl rfl ?_
  refine v_load (v := (2, 24)) (hz_X10_retrace hT _ _ rfl) rfl rfl ?_
  refine v_getR (c := 30) (r := 24) (hz_X10_retrace hT _ _ rfl) rfl rfl rfl ?_
  refine v_load (v := (0, (m : Int))) (hz_X10_retrace hT _ _ rfl) rfl rfl ?_
  refine v_aldB (t := 0) (r := 30) (w := (P 6 m)) (hz_X10_retrace hT _ _ rfl) rfl rfl rfl (fun _ _ => (congrArg Prod.snd ((cP.a6 hP) m (by omega)))) (fun ha1 hb2 => ?_)
  refine v_load (v := (2, 24)) (hz_X10_retrace hT _ _ rfl) rfl rfl ?_
  refine v_getR (c := 31) (r := 24) (hz_X10_retrace hT _ _ rfl) rfl rfl rfl ?_
  refine v_load (v := (0, (m : Int))) (hz_X10_retrace hT _ _ rfl) rfl rfl ?_
  refine v_aldB (t := 0) (r := 31) (w := (P 7 m)) (hz_X10_retrace hT _ _ rfl) rfl rfl rfl (fun _ _ => (congrArg Prod.snd ((cP.a7 hP) m (by omega)))) (fun ha3 hb4 => ?_)
  refine v_call (w := 9) [some (2, 100), some (2, 24), some (0, (P 6 m)), some (0, (P 7 m)), none, none, none, none, none] hO (hz_X10_retrace hT _ _ rfl) rfl rfl ?_
  exact k0 ha1 hb2
theorem qk_rt17_24 {D : zD} {T : zT} (hT : hTab T) (hO : vOK T) {N : Nat} {h : zH} {Q : zR → Prop} {P : PT} {m : Nat} (p : Int) (hv0 : zHv h) (hP : cP 24 P h) (hm : m < 6) (hk : (m : Int) < P 0 3)
    (k0 : (p = -1) → Q (zset h 100 8 (1, 0), some (0, p)))
    (k1 : (p ≠ -1) → (0 ≤ (m : Int)) → ((m : Int) < 6) → vP D T N 139 0 (zset h 100 8 (1, 0)) [some (2, 100), some (2, 24), some (0, (P 6 m)), some (0, (P 7 m)), none, none, none, none, none] [] (fun r1 => vP D T N 138 45 r1.1 [some (2, 100), some (2, 24), some (0, (m : Int)), some (0, p)] (zpush r1.2 []) Q)) :
    vP D T N 138 17 h [some (2, 100), some (2, 24), some (0, (m : Int)), none] [(0, p)] Q := by
  refine v_store1 [some (2, 100), some (2, 24), some (0, (m : Int)), some (0, p)] (hz_X10_retrace hT _ _ rfl) ⟨rfl, Nat.ne_of_beq_eq_false rfl⟩ (Nat.le_of_ble_eq_true rfl) rfl ?_
  refine v_load (v := (2, 100)) (hz_X10_retrace hT _ _ rfl) rfl rfl ?_
  refine v_push (0) (hz_X10_retrace hT _ _ rfl) rfl ?_
  refine v_putf (r := 100) hO (hz_X10_retrace hT _ _ rfl) rfl (fun hf1 => ?_)
  refine v_load (v := (0, p)) (hz_X10_retrace hT _ _ rfl) rfl rfl ?_
  refine v_push (-1) (hz_X10_retrace hT _ _ rfl) rfl ?_
  refine v_ic (hz_X10_retrace hT _ _ rfl) (fun hc2 => ?_) (fun hc2 => ?_)
  · have hc2 : p = -1 := hc2
    refine v_load (v := (0, p)) (hi_X10_retrace_45 hT) rfl rfl ?_
    refine v_ret (hi_X10_retrace_46 hT) (Or.inl rfl) ?_
    exact k0 hc2
  · have hc2 : p ≠ -1 := hc2
    refine v_load (v := (2, 100)) (hz_X10_retrace hT _ _ rfl) rfl rfl ?_
    refine v_load (v := (2, 24)) (hz_X10_retrace hT _ _ rfl) rfl rfl ?_
    refine v_load (v := (2, 24)) (hz_X10_retrace hT _ _ rfl) rfl rfl ?_
    refine v_getR (c := 30) (r := 24) (hz_X10_retrace hT _ _ rfl) rfl rfl rfl ?_
    refine v_load (v := (0, (m : Int))) (hz_X10_retrace hT _ _ rfl) rfl rfl ?_
    refine v_aldB (t := 0) (r := 30) (w := (P 6 m)) (hz_X10_retrace hT _ _ rfl) rfl rfl rfl (fun _ _ => (congrArg Prod.snd ((zset_ne (fun c => absurd c.1 (by decide))).trans ((cP.a6 hP) m (by omega))))) (fun ha3 hb4 => ?_)
    refine v_load (v := (2, 24)) (hz_X10_retrace hT _ _ rfl) rfl rfl ?_
    refine v_getR (c := 31) (r := 24) (hz_X10_retrace hT _ _ rfl) rfl rfl rfl ?_
    refine v_load (v := (0, (m : Int))) (hz_X10_retrace hT _ _ rfl) rfl rfl ?_
    refine v_aldB (t := 0) (r := 31) (w := (P 7 m)) (hz_X10_retrace hT _ _ rfl) rfl rfl rfl (fun _ _ => (congrArg Prod.snd ((zset_ne (fun c => absurd c.1 (by decide))).trans ((cP.a7 hP) m (by omega))))) (fun ha5 hb6 => ?_)
    refine v_call (w := 9) [some (2, 100), some (2, 24), some (0, (P 6 m)), some (0, (P 7 m)), none, none, none, none, none] hO (hz_X10_retrace hT _ _ rfl) rfl rfl ?_
    exact k1 hc2 ha3 hb4
theorem qk_rt45_24 {D : zD} {T : zT} (hT : hTab T) (hO : vOK T) {N : Nat} {h : zH} {Q : zR → Prop} {m : Nat} (p : Int) (hv0 : zHv h)
    (k0 : Q (h, some (0, p))) :
    vP D T N 138 45 h [some (2, 100), some (2, 24), some (0, (m : Int)), some (0, p)] [] Q := by
  refine v_load (v := (0, p)) (hi_X10_retrace_45 hT) rfl rfl ?_
  refine v_ret (hi_X10_retrace_46 hT) (Or.inl rfl) ?_
  exact k0 
theorem qk_fw0_24 {D : zD} {T : zT} (hT : hTab T) (hO : vOK T) {N : Nat} {h : zH} {Q : zR → Prop} {P : PT} {m : Nat} (hv0 : zHv h) (hP : cP 24 P h) (hm : m < 6) (hk : (m : Int) < P 0 3)
    (k0 : (0 ≤ (m : Int)) → ((m : Int) < 6) → vP D T N 134 0 h [some (2, 100), some (2, 24), some (0, (P 8 m)), none] [] (fun r1 => vP D T N 132 11 r1.1 [some (2, 100), some (2, 24), some (0, (m : Int))] (zpush r1.2 []) Q)) :
    vP D T N 132 0 h [some (2, 100), some (2, 24), some (0, (m : Int))] [] Q := by
  refine v_load (v := (2, 100)) (hz_X10_findWay hT _ _ rfl) rfl rfl ?_
  refine v_load (v := (2, 24)) (hz_X10_findWay hT _ _ rfl) rfl rfl ?_
  refine v_load (v := (2, 24)) (hz_X10_findWay hT _ _ rfl) rfl rfl ?_
  refine v_getR (c := 32) (r := 24) (hz_X10_findWay hT _ _ rfl) rfl rfl rfl ?_
  refine v_load (v := (0, (m : Int))) (hz_X10_findWay hT _ _ rfl) rfl rfl ?_
  refine v_aldB (t := 0) (r := 32) (w := (P 8 m)) (hz_X10_findWay hT _ _ rfl) rfl rfl rfl (fun _ _ => (congrArg Prod.snd ((cP.a8 hP) m (by omega)))) (fun ha1 hb2 => ?_)
  refine v_call (w := 4) [some (2, 100), some (2, 24), some (0, (P 8 m)), none] hO (hz_X10_findWay hT _ _ rfl) rfl rfl ?_
  exact k0 ha1 hb2
theorem qk_fw11_24 {D : zD} {T : zT} (hT : hTab T) (hO : vOK T) {N : Nat} {h : zH} {Q : zR → Prop} {m : Nat} (hv0 : zHv h)
    (k0 : vP D T N 138 0 h [some (2, 100), some (2, 24), some (0, (m : Int)), none] [] (fun r1 => vP D T N 132 17 r1.1 [some (2, 100), some (2, 24), some (0, (m : Int))] (zpush r1.2 []) Q)) :
    vP D T N 132 11 h [some (2, 100), some (2, 24), some (0, (m : Int))] [] Q := by
  refine v_load (v := (2, 100)) (hz_X10_findWay hT _ _ rfl) rfl rfl ?_
  refine v_load (v := (2, 24)) (hz_X10_findWay hT _ _ rfl) rfl rfl ?_
  refine v_load (v := (0, (m : Int))) (hz_X10_findWay hT _ _ rfl) rfl rfl ?_
  refine v_call (w := 4) [some (2, 100), some (2, 24), some (0, (m : Int)), none] hO (hz_X10_findWay hT _ _ rfl) rfl rfl ?_
  exact k0 
theorem qk_fw17_24 {D : zD} {T : zT} (hT : hTab T) (hO : vOK T) {N : Nat} {h : zH} {Q : zR → Prop} {m : Nat} (p : Int) (hv0 : zHv h)
    (k0 : Q (h, some (0, p))) :
    vP D T N 132 17 h [some (2, 100), some (2, 24), some (0, (m : Int))] [(0, p)] Q := by
  refine v_ret (hz_X10_findWay hT _ _ rfl) (Or.inl rfl) ?_
  exact k0 
theorem cx_la_24 {D : zD} {T : zT} (hT : hTab T) (hO : vOK T) {N : Nat} {h : zH} {Q : zR → Prop} {P : PT} (x : Int) (j : Nat) (ex : x = (j : Int)) (hP : cP 24 P h) (hb : fB P) (hj : j < 3) (k : ∀ g : zH, (∀ q, q < 48 → g 101 q = (0, gCo P j q)) → (∀ a b, a ≠ 101 → g a b = h a b) → Q (g, none)) : vP D T N 134 0 h [some (2, 100), some (2, 24), some (0, x), none] [] Q := by
  subst ex
  refine vP_hv (fun hv => qk_la0_24 (P := P) hT hO hv ?_)
  refine vP_loop (fun h' l => ∃ i : Nat, i ≤ 48 ∧ l = [some (2, 100), some (2, 24), some (0, (j : Int)), some (0, (i : Int))] ∧ (∀ q, q < i → h' 101 q = (0, gCo P j q)) ∧ ∀ a b, a ≠ 101 → h' a b = h a b) ?_ N h _ ⟨0, by decide, rfl, fun q hq => absurd hq (Nat.not_lt_zero _), fun _ _ _ => rfl⟩
  rintro N h' l ⟨i, hi, rfl, h1, h2⟩ ih
  refine vP_hv (fun hv' => qk_la2_24 hT hO hv' (hP.eq (fun a b _ _ => h2 a b (by omega))) hb hj hi ?_ ?_ ?_)
  · intro c1 c2 _
    refine ih _ _ ⟨i + 1, by omega, rfl, fun q hq => ?_, fun a b ha => (zset_ne (fun c => ha c.1)).trans (h2 a b ha)⟩
    by_cases e : q = i
    · subst e
      rw [Int.toNat_natCast, zset_same, show gCo P j q = gSh P j q from if_neg (by rw [gIx_y c2]; decide)]
    · rw [Int.toNat_natCast, zset_ne (fun c => e c.2)]
      exact h1 q (by omega)
  · intro c1 c2 _
    refine ih _ _ ⟨i + 1, by omega, rfl, fun q hq => ?_, fun a b ha => (zset_ne (fun c => ha c.1)).trans (h2 a b ha)⟩
    by_cases e : q = i
    · subst e
      rw [Int.toNat_natCast, zset_same, show gCo P j q = 0 from if_pos (gIx_n (by omega) c2)]
    · rw [Int.toNat_natCast, zset_ne (fun c => e c.2)]
      exact h1 q (by omega)
  · intro c1
    exact k h' (fun q hq => h1 q (by omega)) h2
theorem cx_lg_24 {D : zD} {T : zT} (hT : hTab T) (hO : vOK T) {N : Nat} {h : zH} {Q : zR → Prop} {P : PT} (hP : cP 24 P h) (hb : fB P) (k : ∀ g : zH, (∀ q, q < 48 → g 101 q = (0, gCg P q)) → (∀ a b, a ≠ 101 → g a b = h a b) → Q (g, none)) : vP D T N 135 0 h [some (2, 100), some (2, 24), none] [] Q := by
  refine vP_hv (fun hv => qk_lg0_24 (P := P) (i := 0) hT hO hv ?_)
  refine vP_loop (fun h' l => ∃ i : Nat, i ≤ 48 ∧ l = [some (2, 100), some (2, 24), some (0, (i : Int))] ∧ (∀ q, q < i → h' 101 q = (0, gCg P q)) ∧ ∀ a b, a ≠ 101 → h' a b = h a b) ?_ N h _ ⟨0, by decide, rfl, fun q hq => absurd hq (Nat.not_lt_zero _), fun _ _ _ => rfl⟩
  rintro N h' l ⟨i, hi, rfl, h1, h2⟩ ih
  refine vP_hv (fun hv' => qk_lg2_24 hT hO hv' (hP.eq (fun a b _ _ => h2 a b (by omega))) hb hi ?_ ?_ ?_)
  · intro c1 c2 _
    refine ih _ _ ⟨i + 1, by omega, rfl, fun q hq => ?_, fun a b ha => (zset_ne (fun c => ha c.1)).trans (h2 a b ha)⟩
    by_cases e : q = i
    · subst e
      rw [Int.toNat_natCast, zset_same, show gCg P q = gGr P q from if_neg (by rw [gIx_y c2]; decide)]
    · rw [Int.toNat_natCast, zset_ne (fun c => e c.2)]
      exact h1 q (by omega)
  · intro c1 c2 _
    refine ih _ _ ⟨i + 1, by omega, rfl, fun q hq => ?_, fun a b ha => (zset_ne (fun c => ha c.1)).trans (h2 a b ha)⟩
    by_cases e : q = i
    · subst e
      rw [Int.toNat_natCast, zset_same, show gCg P q = 0 from if_pos (gIx_n (by omega) c2)]
    · rw [Int.toNat_natCast, zset_ne (fun c => e c.2)]
      exact h1 q (by omega)
  · intro c1
    exact k h' (fun q hq => h1 q (by omega)) h2
/-- the queue's loops, out of what they know -/
theorem cx_meL_24 {D : zD} {T : zT} (hT : hTab T) (hO : vOK T) {h : zH} {Q : zR → Prop} {P : PT} {co d : Nat → Int} {fr to : Nat} (lb : lB P) (p0 : h 24 0 = (0, P 0 0)) (p1 : h 24 1 = (0, P 0 1)) (hc : ∀ i, i < 48 → h 101 i = (0, co i)) (bc : ∀ i, i < 48 → 0 ≤ co i ∧ co i ≤ 14) (gf : gIn P fr) (hD : wD (gIn P) (gNb P) co g100 to d) (k : ∀ (g : zH) (f : Nat → Int), mFr h g → (∀ i, i < 48 → g 102 i = (0, f i)) → (∀ i, i < 48 → 0 ≤ f i ∧ f i ≤ 1000000) → (∀ a, gIn P a → wEe d a ≤ f a) → (∀ a, wGd (gIn P) (wEe d) fr a → f a = wEe d a) → Q (g, some (0, if d fr < wFar then d fr / 100 else -1))) : ∀ N, (∀ (h' : zH) (f : Nat → Int) (q : List Nat) (tk : Nat) (o0 o1 o2 o3 : Option zV), tk ≤ 2304 → mFr h h' → wHp h' f q → wOS (gIn P) (gNb P) co d to fr tk f q → vP D T N 136 33 h' [some (2, 100), some (2, 24), some (0, (fr : Int)), some (0, (to : Int)), some (0, (tk : Int)), o0, o1, o2, o3] [] Q) ∧ (∀ (h' : zH) (f : Nat → Int) (q : List Nat) (tk b m : Nat) (w : Int) (o0 : Option zV), tk < 2304 → m ≤ 4 → w = g64 (co b) + f b → mFr h h' → wHp h' f q → wIS (gIn P) (gNb P) co d to fr tk b m f q → vP D T N 136 118 h' [some (2, 100), some (2, 24), some (0, (fr : Int)), some (0, (to : Int)), some (0, (tk : Int)), some (0, (b : Int)), some (0, w), some (0, (m : Int)), o0] [] Q) := by
  have hok := gOk lb
  have hco : ∀ a, gIn P a → co a ≤ 14 := fun a ga => (bc a ga.1).2
  have fin : ∀ (N : Nat) (h' : zH) (f : Nat → Int) (tk : Nat) (o0 o1 o2 o3 o4 o5 : Option zV), mFr h h' → wHp h' f [] → wOS (gIn P) (gNb P) co d to fr tk f [] → vP D T N 136 193 h' [some (2, 100), some (2, 24), some (0, (fr : Int)), o0, o1, o2, o3, o4, o5] [] Q := by
    intro N h' f tk o0 o1 o2 o3 o4 o5 hm hw hs
    have hx := wOS_end hok hco hD gf hs
    have lo := wLow hok hco hD hs.1
    have kk := k h' f hm hw.1 hs.2.2.2 lo hx
    have xf := hx fr ⟨gf, Or.inr rfl⟩
    have bd := hs.2.2.2 fr gf.1
    have b0 := hD.2.1.1 fr gf
    refine vP_hv (fun hv => qk_me193_24 hT hO o0 o1 o2 o3 o4 o5 hv hw.1 gf.1 bd ?_ ?_)
    · intro _ _ c
      refine cb_eq kk (if_neg (fun c2 => ?_))
      have := (wE_lt (d := d) b0.1).mpr c2
      rw [← xf, c] at this
      exact absurd this (by decide)
    · intro _ _ c
      have c2 : d fr < wFar := by
        by_cases c3 : d fr < wFar
        · exact c3
        · rw [xf, wE_n c3] at c
          exact absurd rfl c
      refine cb_eq kk ((if_pos c2).trans ?_)
      rw [xf]
      exact (wE_m hok.1 hco hD gf c2).2.symm
  intro N
  induction N with
  | zero => exact ⟨fun _ _ _ _ _ _ _ _ _ _ _ _ _ n r hn => absurd hn (Nat.not_lt_zero _), fun _ _ _ _ _ _ _ _ _ _ _ _ _ _ _ n r hn => absurd hn (Nat.not_lt_zero _)⟩
  | succ N ih =>
    constructor
    · intro h' f q tk o0 o1 o2 o3 htk hm hw hs
      have hw' := hw
      obtain ⟨g1, hd, z, a3, a4, a5, a6, a7, a8⟩ := hw'
      have l48 := wNd hok.1 hs.1.2.2.1 (fun x hx => (hs.1.2.2.2 x hx).1)
      have hc' : ∀ i, i < 48 → h' 101 i = (0, co i) := fun i hi => (hm 101 i (by omega)).trans (hc i hi)
      cases q with
      | nil =>
        have e5 : h' 100 5 = (0, (hd : Int)) := a5.trans (by rw [show (hd + ([] : List Nat).length) % 64 = hd from by show (hd + 0) % 64 = hd; omega])
        refine vP_hv (fun hv => ?_)
        by_cases c : (tk : Int) < 2304
        · exact qk_me33e_24 hT hO fr to o0 o1 o2 o3 hv a4 e5 c (fin N h' f tk _ _ _ _ _ _ hm hw hs)
        · exact qk_me33f_24 hT hO fr to o0 o1 o2 o3 hv (by omega) (fin N h' f tk _ _ _ _ _ _ hm hw hs)
      | cons b q =>
        have hb : b < 48 := (hs.1.2.2.2 b List.mem_cons_self).1.1
        have eb : h' 103 hd = (0, (b : Int)) := by
          have := a7 0 (Nat.succ_pos _)
          rw [show (hd + 0) % 64 = hd by omega] at this
          exact this
        have hl : (b :: q).length = q.length + 1 := rfl
        refine vP_hv (fun hv => qk_me33_24 hT hO (fr : Int) (to : Int) o0 o1 o2 o3 hv a3 a4 a5 hc' g1 a6 (Nat.mod_lt _ (by decide)) eb hb (hs.2.2.2 b hb) (bc b hb) ?_ ?_ ?_)
        · intro c1 c2
          rw [hl] at c2 l48
          omega
        · intro c1 c2 _ _ _ _
          have hi := wOS_pop hok hco hD gf hs
          exact ih.2 _ f q tk b 0 _ _ (by omega) (by decide) (by unfold g64; omega) ((hm.z (by omega)).z (by omega)) (wHp_pop hb hi.2.1.2.1 hw a3 a4) hi
        · intro c1
          have : tk = 2304 := by omega
          subst this
          exact (wOS_full hok hs).elim
    · intro h' f q tk b m w o0 htk hm4 hww hm hw hi
      have hw' := hw
      obtain ⟨g1, hd, z, a3, a4, a5, a6, a7, a8⟩ := hw'
      have l48 := wNd hok.1 hi.1.2.2.1 (fun x hx => (hi.1.2.2.2 x hx).1)
      have hc' : ∀ i, i < 48 → h' 101 i = (0, co i) := fun i hi => (hm 101 i (by omega)).trans (hc i hi)
      have gb := hi.2.1.1
      refine vP_hv (fun hv => qk_me118_24 hT hO (to : Int) w o0 hv ((hm 24 0 (by omega)).trans p0) ((hm 24 1 (by omega)).trans p1) lb a3 a4 a5 hc' g1 a6 (Nat.mod_lt _ (by decide)) gb gb.1 gf.1 hm4 htk ?_ ?_ ?_ ?_ ?_ ?_ ?_ ?_)
      · intro c1 _ _ c2 c3
        exact ih.2 _ f q tk b (m + 1) w _ htk (by omega) hww hm hw (wIS_stay hi (fun a ha => by rw [ha] at c3; omega))
      · intro c1 _ _ c2 q5 c3 c4 c5
        omega
      · intro c1 _ _ c2 q5 c3 c4 c5 _ _ c6 _ _ c7 c8 _ _
        have nm : q5 ∉ q := fun mem => by
          rw [wB_tst c4.1, a8 q5 c4.1, decide_eq_true mem] at c8
          exact absurd c8 (by decide)
        have hp := wIS_push hok hco hD gf (by omega) hi c4 c2 c3 hww c6 c7
        have l2 := wNd hok.1 hp.1.2.2.1 (fun x hx => (hp.1.2.2.2 x hx).1)
        have e2 : (wPush q5 w (f, q)).2 = q ++ [q5] := if_neg nm
        rw [e2, List.length_append] at l2
        have l2 : q.length + 1 ≤ 48 := l2
        refine ih.2 _ (wPush q5 w (f, q)).1 (wPush q5 w (f, q)).2 tk b (m + 1) w _ htk (by omega) ?_ ((((hm.z (by omega)).z (by omega)).z (by omega)).z (by omega)) (wHp_push c4.1 nm (by omega) hw a3 a5) hp
        rw [hww]
        refine congrArg (fun y => g64 (co b) + y) ?_
        refine (if_neg (fun c => ?_)).symm
        have gp := g64_p _ c2
        rw [← c] at c6
        omega
      · intro c1 _ _ c2 q5 c3 c4 c5 _ _ c6 _ _ c7 c8
        have nm : q5 ∈ q := by
          by_cases mem : q5 ∈ q
          · exact mem
          · rw [wB_tst c4.1, a8 q5 c4.1, decide_eq_false mem] at c8
            exact absurd rfl c8
        have hp := wIS_push hok hco hD gf (by omega) hi c4 c2 c3 hww c6 c7
        refine ih.2 _ (wPush q5 w (f, q)).1 (wPush q5 w (f, q)).2 tk b (m + 1) w _ htk (by omega) ?_ (hm.z (by omega)) (wHp_far nm hw) hp
        rw [hww]
        refine congrArg (fun y => g64 (co b) + y) ?_
        refine (if_neg (fun c => ?_)).symm
        have gp := g64_p _ c2
        rw [← c] at c6
        omega
      · intro c1 _ _ c2 q5 c3 c4 c5 _ _ c6 _ _ c7
        exact ih.2 _ f q tk b (m + 1) w _ htk (by omega) hww hm hw (wIS_stay hi (fun a ha => Or.inr (by omega)))
      · intro c1 _ _ c2 q5 c3 c4 c5 _ _ c6
        refine ih.2 _ f q tk b (m + 1) w _ htk (by omega) hww hm hw (wIS_stay hi (fun a ha => Or.inl ?_))
        rw [c3] at ha
        have : q5 = a := by omega
        rw [← this]
        omega
      · intro c1 _ _ c2
        exact ih.1 _ f q (tk + 1) _ _ _ _ (by omega) hm hw (wIS_end hi (Or.inr c2))
      · intro c1
        exact ih.1 _ f q (tk + 1) _ _ _ _ (by omega) hm hw (wIS_end hi (Or.inl (by omega)))
/-- measure() -/
theorem cx_me_24 {D : zD} {T : zT} (hT : hTab T) (hO : vOK T) {N : Nat} {h : zH} {Q : zR → Prop} {P : PT} {co d : Nat → Int} (x y : Int) (fr to : Nat) (ex : x = (fr : Int)) (ey : y = (to : Int)) (lb : lB P) (p0 : h 24 0 = (0, P 0 0)) (p1 : h 24 1 = (0, P 0 1)) (hc : ∀ i, i < 48 → h 101 i = (0, co i)) (bc : ∀ i, i < 48 → 0 ≤ co i ∧ co i ≤ 14) (gf : gIn P fr) (gt : gIn P to) (hD : wD (gIn P) (gNb P) co g100 to d) (k : ∀ (g : zH) (f : Nat → Int), mFr h g → (∀ i, i < 48 → g 102 i = (0, f i)) → (∀ i, i < 48 → 0 ≤ f i ∧ f i ≤ 1000000) → (∀ a, gIn P a → wEe d a ≤ f a) → (∀ a, wGd (gIn P) (wEe d) fr a → f a = wEe d a) → Q (g, some (0, if d fr < wFar then d fr / 100 else -1))) : vP D T N 136 0 h [some (2, 100), some (2, 24), some (0, x), some (0, y), none, none, none, none, none] [] Q := by
  subst ex ey
  have hok := gOk lb
  have hco : ∀ a, gIn P a → co a ≤ 14 := fun a ga => (bc a ga.1).2
  refine vP_hv (fun hv => qk_me0_24 (P := P) hT hO (fr : Int) hv gt.1 ?_ ?_)
  · intro g1 u _ _ _
    refine (cx_meL_24 hT hO lb p0 p1 hc bc gf hD k N).1 _ (fun i => if i = to then 0 else wFar) [to] 0 none none none none (by decide) ?_ ?_ (wOS_ini hok hco hD gt)
    · refine ((((((mFr.z (by omega) (mFr.z (by omega) (mFr.z (by omega) ?_))).z (by omega)).z (by omega)).z (by omega)).z (by omega)))
      exact fun a b hn => (u a b).trans (if_neg (fun c => hn (by omega)))
    · refine ⟨fun i hi => ?_, 0, _, (zset_ne (by omega)).trans ((zset_ne (by omega)).trans zset_same), (zset_ne (by omega)).trans ((zset_ne (by omega)).trans ((zset_ne (by omega)).trans ((zset_ne (by omega)).trans ((zset_ne (by omega)).trans zset_same)))), zset_same, by decide, fun i hi => ?_, fun x hx => ?_⟩
      · refine (zset_ne (by omega)).trans ((zset_ne (by omega)).trans ((zset_ne (by omega)).trans ?_))
        rw [Int.toNat_natCast]
        show zset _ 102 to (0, 0) 102 i = (0, if i = to then (0 : Int) else wFar)
        by_cases c : i = to
        · rw [c, if_pos rfl]; exact zset_same
        · rw [if_neg c]
          refine (zset_ne (fun e => c e.2)).trans ((zset_ne (by omega)).trans ((zset_ne (by omega)).trans ((zset_ne (by omega)).trans ((u 102 i).trans (if_pos ⟨rfl, hi⟩)))))
      · have hi : i < 1 := hi
        have : i = 0 := by omega
        subst this
        exact (zset_ne (by omega)).trans zset_same
      · rw [wB_set gt.1 hx, wB_0 x hx]
        simp
  · intro g1 u _ _ c
    rw [wB_tst gt.1, wB_0 to gt.1] at c
    exact absurd rfl c
/-- trace(): the row that was measured, step by step -/
theorem cx_trL_24 {D : zD} {T : zT} (hT : hTab T) (hO : vOK T) {h : zH} {Q : zR → Prop} {P : PT} {co d f : Nat → Int} {fr to : Nat} (lb : lB P) (p0 : h 24 0 = (0, P 0 0)) (p1 : h 24 1 = (0, P 0 1)) (hc : ∀ i, i < 48 → h 101 i = (0, co i)) (bc : ∀ i, i < 48 → 0 ≤ co i ∧ co i ≤ 14) (hf : ∀ i, i < 48 → h 102 i = (0, f i)) (bf : ∀ i, i < 48 → 0 ≤ f i ∧ f i ≤ 1000000) (gf : gIn P fr) (ff : d fr < wFar) (hD : wD (gIn P) (gNb P) co g100 to d) (lo : ∀ a, gIn P a → wEe d a ≤ f a) (hx : ∀ a, wGd (gIn P) (wEe d) fr a → f a = wEe d a) (k : ∀ g : zH, tFr h g → tHp (wPt (gNb P) co d fr) (d fr % 100).toNat g → Q (g, none)) : ∀ N, (∀ (h' : zH) (n : Nat) (o1 o2 o3 : Option zV), (n : Int) ≤ d fr % 100 → tFr h h' → tHp (wPt (gNb P) co d fr) n h' → vP D T N 139 23 h' [some (2, 100), some (2, 24), some (0, (fr : Int)), some (0, (to : Int)), some (0, ((wPt (gNb P) co d fr n : Nat) : Int)), some (0, ((n + 1 : Nat) : Int)), o1, o2, o3] [] Q) ∧ (∀ (h' : zH) (n m : Nat) (nx : Int) (o3 : Option zV), (n : Int) < d fr % 100 → m ≤ 4 → tFr h h' → tHp (wPt (gNb P) co d fr) n h' → ((nx = -1 ∧ m ≤ wDr (gNb P) co d (wPt (gNb P) co d fr n)) ∨ (nx = ((wPt (gNb P) co d fr (n + 1) : Nat) : Int) ∧ m = wDr (gNb P) co d (wPt (gNb P) co d fr n) + 1)) → vP D T N 139 42 h' [some (2, 100), some (2, 24), some (0, (fr : Int)), some (0, (to : Int)), some (0, ((wPt (gNb P) co d fr n : Nat) : Int)), some (0, ((n + 1 : Nat) : Int)), some (0, nx), some (0, (m : Int)), o3] [] Q) := by
  have hok := gOk lb
  have hco : ∀ a, gIn P a → co a ≤ 14 := fun a ga => (bc a ga.1).2
  have r47 := wrank2 hok.1 hco hD gf ff
  have pt : ∀ n : Nat, (n : Int) ≤ d fr % 100 → gIn P (wPt (gNb P) co d fr n) ∧ d (wPt (gNb P) co d fr n) < wFar := fun n hn => ⟨(wPt_ok hok hco hD gf ff n hn).1, (wPt_ok hok hco hD gf ff n hn).2.1⟩
  have gd : ∀ n : Nat, (n : Int) ≤ d fr % 100 → wGd (gIn P) (wEe d) fr (wPt (gNb P) co d fr n) := by
    intro n
    induction n with
    | zero => exact fun _ => ⟨gf, Or.inr rfl⟩
    | succ n ih =>
      intro hn
      have g := ih (by omega)
      obtain ⟨c1, f1⟩ := pt n (by omega)
      have nt : wPt (gNb P) co d fr n ≠ to := fun c => by
        have := (wPt_to hok hco hD gf ff (i := n) (by omega)).mp c
        omega
      obtain ⟨_, _, _, k4, _, k6, k7, k8⟩ := wNx_ok hok hD c1 nt f1
      have s2 := wsuc2 hok.1 hco hD c1 k4 f1 k7 k8
      refine ⟨k4, Or.inl ?_⟩
      have e1 := wE_f f1
      have e2 := wE_f k7
      show wEe d (wNx (gNb P) co d (wPt (gNb P) co d fr n)) < wEe d fr
      rcases g.2 with l | l
      · omega
      · have el : wEe d (wPt (gNb P) co d fr n) = wEe d fr := by rw [l]
        omega
  intro N
  induction N with
  | zero => exact ⟨fun _ _ _ _ _ _ _ _ _ n r hn => absurd hn (Nat.not_lt_zero _), fun _ _ _ _ _ _ _ _ _ _ _ n r hn => absurd hn (Nat.not_lt_zero _)⟩
  | succ N ih =>
    constructor
    · intro h' n o1 o2 o3 hn hm hp
      have wt := wPt_to hok hco hD gf ff (i := n) hn
      refine vP_hv (fun hv => qk_tr23_24 hT hO (t := to) (a := wPt (gNb P) co d fr n) (s := n + 1) (fr : Int) o1 o2 o3 hv ?_ ?_ ?_)
      · intro _ c
        have e := wt.mp (by omega)
        refine k h' hm ?_
        rw [show (d fr % 100).toNat = n by omega]
        exact hp
      · intro _ c
        have : (n : Int) ≠ d fr % 100 := fun e => c (by rw [wt.mpr e])
        exact ih.2 h' n 0 (-1) _ (by omega) (by decide) hm hp (Or.inl ⟨rfl, Nat.zero_le _⟩)
      · intro c
        refine k h' hm ?_
        rw [show (d fr % 100).toNat = n by omega]
        exact hp
    · intro h' n m nx o3 hn hm4 hm hp hs
      obtain ⟨c1, f1⟩ := pt n (by omega)
      have nt : wPt (gNb P) co d fr n ≠ to := fun c => by
        have := (wPt_to hok hco hD gf ff (i := n) (by omega)).mp c
        omega
      obtain ⟨k1, k2, k3, k4, k5, k6, k7, k8⟩ := wNx_ok hok hD c1 nt f1
      have g := gd n (by omega)
      have hc' : ∀ i, i < 48 → h' 101 i = (0, co i) := fun i hi => (hm 101 i (by omega)).trans (hc i hi)
      have hf' : ∀ i, i < 48 → h' 102 i = (0, f i) := fun i hi => (hm 102 i (by omega)).trans (hf i hi)
      have out : nx = ((wPt (gNb P) co d fr (n + 1) : Nat) : Int) → ∀ (m : Nat) (o2 : Option zV) (M : Nat), M ≤ N → vP D T M 139 120 h' [some (2, 100), some (2, 24), some (0, (fr : Int)), some (0, (to : Int)), some (0, ((wPt (gNb P) co d fr n : Nat) : Int)), some (0, ((n + 1 : Nat) : Int)), some (0, nx), o2, o3] [] Q := by
        intro en m o2 M hM
        obtain ⟨_, _, z, e8, _⟩ := id hp
        refine vP_hv (fun hv => qk_tr120_24 hT hO (t := to) (s := n + 1) (fr : Int) ((wPt (gNb P) co d fr n : Nat) : Int) nx o2 o3 hv e8 (by omega) ?_ ?_)
        · intro c
          omega
        · intro _ _ _
          rw [en]
          exact vP_le hM (ih.1 _ (n + 1) _ _ _ (by omega) (((hm.z (by omega)).z (by omega)).z (by omega)) (tHp_s (pt (n + 1) (by omega)).1.1 hp e8))
      refine vP_hv (fun hv => qk_tr42_24 hT hO (fr : Int) nx o3 hv ((hm 24 0 (by omega)).trans p0) ((hm 24 1 (by omega)).trans p1) lb hc' hf' (fun i hi => ⟨bf i hi, bc i hi⟩) c1 c1.1 hm4 ?_ ?_ ?_ ?_ ?_ ?_ ?_)
      · intro q1 q2 q3
        rcases hs with ⟨_, l⟩ | ⟨e, _⟩
        · refine ih.2 h' n (m + 1) nx _ hn (by omega) hm hp (Or.inl ⟨q2, ?_⟩)
          by_cases c : m = wDr (gNb P) co d (wPt (gNb P) co d fr n)
          · rw [← c, q3] at k5
            omega
          · omega
        · omega
      · intros
        omega
      · intro q1 q2 q5 q3 q4 _ _ _ q6 _ _ q7
        rcases hs with ⟨_, l⟩ | ⟨e, _⟩
        · have hit := (wHit hok hco hD lo hx g f1 q4 (by omega) q3).mp ⟨q6, by omega⟩
          have em : m = wDr (gNb P) co d (wPt (gNb P) co d fr n) := by
            by_cases c : m = wDr (gNb P) co d (wPt (gNb P) co d fr n)
            · exact c
            · exact absurd hit (k3 m (by omega))
          refine ih.2 h' n (m + 1) _ _ hn (by omega) hm hp (Or.inr ⟨?_, by omega⟩)
          rw [← em, q3] at k5
          exact k5
        · omega
      · intro q1 q2 q5 q3 q4 _ _ _ q6 _ _ q7
        rcases hs with ⟨_, l⟩ | ⟨e, _⟩
        · refine ih.2 h' n (m + 1) nx _ hn (by omega) hm hp (Or.inl ⟨q2, ?_⟩)
          by_cases c : m = wDr (gNb P) co d (wPt (gNb P) co d fr n)
          · exact absurd ((wHit hok hco hD lo hx g f1 q4 (by omega) q3).mpr (by rw [c]; exact k2)).2 (by omega)
          · omega
        · omega
      · intro q1 q2 q5 q3 q4 _ _ _ q6
        rcases hs with ⟨_, l⟩ | ⟨e, _⟩
        · refine ih.2 h' n (m + 1) nx _ hn (by omega) hm hp (Or.inl ⟨q2, ?_⟩)
          by_cases c : m = wDr (gNb P) co d (wPt (gNb P) co d fr n)
          · have := ((wHit hok hco hD lo hx g f1 q4 (by omega) q3).mpr (by rw [c]; exact k2)).1
            omega
          · omega
        · omega
      · intro q1 q2
        rcases hs with ⟨e, _⟩ | ⟨e, _⟩
        · exact absurd e q2
        · exact out e m _ N (Nat.le_refl _)
      · intro q1
        rcases hs with ⟨e, l⟩ | ⟨e, _⟩
        · omega
        · exact out e m _ N (Nat.le_refl _)
theorem cx_tr_24 {D : zD} {T : zT} (hT : hTab T) (hO : vOK T) {N : Nat} {h : zH} {Q : zR → Prop} {P : PT} {co d f : Nat → Int} (x y : Int) (fr to : Nat) (ex : x = (fr : Int)) (ey : y = (to : Int)) (lb : lB P) (p0 : h 24 0 = (0, P 0 0)) (p1 : h 24 1 = (0, P 0 1)) (hc : ∀ i, i < 48 → h 101 i = (0, co i)) (bc : ∀ i, i < 48 → 0 ≤ co i ∧ co i ≤ 14) (hf : ∀ i, i < 48 → h 102 i = (0, f i)) (bf : ∀ i, i < 48 → 0 ≤ f i ∧ f i ≤ 1000000) (gf : gIn P fr) (ff : d fr < wFar) (hD : wD (gIn P) (gNb P) co g100 to d) (lo : ∀ a, gIn P a → wEe d a ≤ f a) (hx : ∀ a, wGd (gIn P) (wEe d) fr a → f a = wEe d a) (k : ∀ g : zH, tFr h g → tHp (wPt (gNb P) co d fr) (d fr % 100).toNat g → Q (g, none)) : vP D T N 139 0 h [some (2, 100), some (2, 24), some (0, x), some (0, y), none, none, none, none, none] [] Q := by
  subst ex ey
  refine vP_hv (fun hv => qk_tr0_24 hT hO (fr := fr) (t := to) hv ?_)
  have b0 := hD.2.1.1 fr gf
  exact (cx_trL_24 hT hO lb p0 p1 hc bc hf bf gf ff hD lo hx k N).1 _ 0 _ _ _ (by omega) (((tFr.rf.z (by omega)).z (by omega)).z (by omega)) (tHp_0 rfl)
/-- retrace(): a COMPANY's row by the costs as they are -/
theorem cx_rt_24 {D : zD} {T : zT} (hT : hTab T) (hO : vOK T) {N : Nat} {h : zH} {Q : zR → Prop} {P : PT} {co : Nat → Int} (x : Int) (m : Nat) (ex : x = (m : Int)) (hP : cP 24 P h) (hb : fB P) (hm : (m : Int) < P 0 3) (hc : ∀ i, i < 48 → h 101 i = (0, co i)) (bc : ∀ i, i < 48 → 0 ≤ co i ∧ co i ≤ 14) (k : ∀ g : zH, wFr h g → yOK P co (P 6 m).toNat (P 7 m).toNat g → Q (g, some (0, yCost P co (P 6 m).toNat (P 7 m).toNat))) : vP D T N 138 0 h [some (2, 100), some (2, 24), some (0, x), none] [] Q := by
  subst ex
  obtain ⟨lb, _, _, hk⟩ := hb
  obtain ⟨_, ⟨b6, g6⟩, ⟨b7, g7⟩, _⟩ := hk m hm
  have hD := dW_ok (P := P) (co := co) (to := (P 7 m).toNat)
  have m6 : m < 6 := by have := lb.2.2.2.2; omega
  refine vP_hv (fun hv => qk_rt0_24 hT hO hv hP m6 hm (fun _ _ => ?_))
  refine cx_me_24 hT hO _ _ (P 6 m).toNat (P 7 m).toNat (by omega) (by omega) lb hP.1.1 hP.1.2.1 hc bc g6 g7 hD ?_
  intro g f u1 u2 u3 u4 u5
  show vP D T N 138 17 g [some (2, 100), some (2, 24), some (0, (m : Int)), none] [(0, yCost P co (P 6 m).toNat (P 7 m).toNat)] Q
  have hP1 : cP 24 P g := hP.eq (fun a b _ _ => u1 a b (by omega))
  refine vP_hv (fun hv1 => qk_rt17_24 hT hO (yCost P co (P 6 m).toNat (P 7 m).toNat) hv1 hP1 m6 hm ?_ ?_)
  · intro c
    refine k _ (fun a b hn => (zset_ne (by omega)).trans (u1 a b (by omega))) ⟨fun _ => zset_same, fun ff => ?_⟩
    have b0 := hD.2.1.1 _ g6
    have : yCost P co (P 6 m).toNat (P 7 m).toNat = dW P co (P 7 m).toNat (P 6 m).toNat / 100 := if_pos ff
    omega
  · intro c _ _
    have ff : dW P co (P 7 m).toNat (P 6 m).toNat < wFar := by
      by_cases c2 : dW P co (P 7 m).toNat (P 6 m).toNat < wFar
      · exact c2
      · exact absurd (if_neg c2) c
    have hP2 : cP 24 P (zset g 100 8 (1, 0)) := hP1.eq (fun a b _ _ => zset_ne (by omega))
    refine cx_tr_24 hT hO _ _ (P 6 m).toNat (P 7 m).toNat (by omega) (by omega) lb hP2.1.1 hP2.1.2.1 (fun i hi => (zset_ne (by omega)).trans ((u1 101 i (by omega)).trans (hc i hi))) bc (fun i hi => (zset_ne (by omega)).trans (u2 i hi)) u3 g6 ff hD u4 u5 ?_
    intro g2 v1 v2
    show vP D T N 138 45 g2 [some (2, 100), some (2, 24), some (0, (m : Int)), some (0, yCost P co (P 6 m).toNat (P 7 m).toNat)] [] Q
    refine vP_hv (fun hv2 => qk_rt45_24 hT hO (yCost P co (P 6 m).toNat (P 7 m).toNat) hv2 ?_)
    exact k g2 (fun a b hn => (v1 a b (by omega)).trans ((zset_ne (by omega)).trans (u1 a b (by omega)))) ⟨fun c3 => absurd c3 c, fun _ => v2⟩
/-- findWay() -/
theorem cx_fw_24 {D : zD} {T : zT} (hT : hTab T) (hO : vOK T) {N : Nat} {h : zH} {Q : zR → Prop} {P : PT} (x : Int) (m : Nat) (ex : x = (m : Int)) (hP : cP 24 P h) (hb : fB P) (hm : (m : Int) < P 0 3) (k : ∀ g : zH, wFr1 h g → (∀ q, q < 48 → g 101 q = (0, gCo P (P 8 m).toNat q)) → yOK P (gCo P (P 8 m).toNat) (P 6 m).toNat (P 7 m).toNat g → Q (g, some (0, yCost P (gCo P (P 8 m).toNat) (P 6 m).toNat (P 7 m).toNat))) : vP D T N 132 0 h [some (2, 100), some (2, 24), some (0, x)] [] Q := by
  subst ex
  obtain ⟨lb, _, _, hk⟩ := id hb
  obtain ⟨_, _, _, b8, c8⟩ := hk m hm
  have m6 : m < 6 := by have := lb.2.2.2.2; omega
  have l3 := lb.2.2.1.2
  refine vP_hv (fun hv => qk_fw0_24 hT hO hv hP m6 hm (fun _ _ => ?_))
  refine cx_la_24 hT hO _ (P 8 m).toNat (by omega) hP hb (by omega) ?_
  intro g u1 u2
  show vP D T N 132 11 g [some (2, 100), some (2, 24), some (0, (m : Int))] [] Q
  refine vP_hv (fun hv1 => qk_fw11_24 hT hO hv1 ?_)
  refine cx_rt_24 hT hO _ m rfl (hP.eq (fun a b _ _ => u2 a b (by omega))) hb hm u1 (fun i hi => gCo_b hb hi) ?_
  intro g2 v1 v2
  show vP D T N 132 17 g2 [some (2, 100), some (2, 24), some (0, (m : Int))] [(0, yCost P (gCo P (P 8 m).toNat) (P 6 m).toNat (P 7 m).toNat)] Q
  refine vP_hv (fun hv2 => qk_fw17_24 hT hO _ hv2 ?_)
  exact k g2 (fun a b hn => (v1 a b (by omega)).trans (u2 a b (by omega))) (fun q hq => (v1 101 q (by omega)).trans (u1 q hq)) v2
end
section
/-! THE REFERENCE'S LANDS -/
def gJ (P : PT) (q : Nat) : Nat := (P 0 0).toNat * (q / 8) + q % 8
def gQ (P : PT) (n : Nat) : Nat := 8 * (n / (P 0 0).toNat) + n % (P 0 0).toNat
theorem gJ_i {P : PT} (h0 : 0 ≤ P 0 0) (q : Nat) : ((gJ P q : Nat) : Int) = P 0 0 * ((q / 8 : Nat) : Int) + ((q % 8 : Nat) : Int) := by
  unfold gJ
  rw [Int.natCast_add, Int.natCast_mul, Int.toNat_of_nonneg h0]
theorem gJ_lt {P : PT} (lb : lB P) {q : Nat} (g : gIn P q) : gJ P q < 48 := by
  obtain ⟨⟨w0, w8⟩, ⟨r0, r6⟩, _⟩ := lb
  obtain ⟨g0, g1, g2⟩ := g
  unfold gJ
  have e : (P 0 0).toNat * (q / 8) ≤ 8 * (q / 8) := Nat.mul_le_mul_right _ (by omega)
  omega
theorem gJ_m {P : PT} (lb : lB P) {q : Nat} (g : gIn P q) : ((gJ P q : Nat) : Int) % P 0 0 = ((q % 8 : Nat) : Int) ∧ ((gJ P q : Nat) : Int) / P 0 0 = ((q / 8 : Nat) : Int) := by
  have h0 := lb.1.1
  obtain ⟨g0, g1, g2⟩ := g
  have hw : 0 < P 0 0 := by omega
  rw [gJ_i h0]
  constructor
  · rw [Int.add_comm, Int.add_mul_emod_self_left]
    exact Int.emod_eq_of_lt (by omega) g1
  · rw [Int.add_comm, Int.add_mul_ediv_left _ _ (by omega), Int.ediv_eq_zero_of_lt (by omega) g1, Int.zero_add]
theorem gJ_inj {P : PT} (lb : lB P) {q r : Nat} (g : gIn P q) (g' : gIn P r) (e : gJ P q = gJ P r) : q = r := by
  have a := gJ_m lb g
  have b := gJ_m lb g'
  rw [e] at a
  omega
theorem gQ_ok {P : PT} (lb : lB P) {n : Nat} (hn : n < (P 0 0).toNat * (P 0 1).toNat) : gIn P (gQ P n) ∧ gJ P (gQ P n) = n := by
  obtain ⟨⟨w0, w8⟩, ⟨r0, r6⟩, _⟩ := lb
  have hw : 0 < (P 0 0).toNat := by
    by_cases c : (P 0 0).toNat = 0
    · rw [c, Nat.zero_mul] at hn
      exact absurd hn (Nat.not_lt_zero _)
    · omega
  have m := Nat.mod_lt n hw
  have dv : n / (P 0 0).toNat < (P 0 1).toNat := Nat.div_lt_of_lt_mul hn
  have e8 : gQ P n / 8 = n / (P 0 0).toNat := by unfold gQ; omega
  have e7 : gQ P n % 8 = n % (P 0 0).toNat := by unfold gQ; omega
  refine ⟨⟨by unfold gQ; omega, by omega, by omega⟩, ?_⟩
  unfold gJ
  rw [e8, e7]
  exact Nat.div_add_mod n (P 0 0).toNat
theorem gJ_all {P : PT} (lb : lB P) {q : Nat} (g : gIn P q) : gJ P q < (P 0 0).toNat * (P 0 1).toNat := by
  obtain ⟨⟨w0, w8⟩, ⟨r0, r6⟩, _⟩ := lb
  obtain ⟨g0, g1, g2⟩ := g
  unfold gJ
  have : (P 0 0).toNat * (q / 8 + 1) ≤ (P 0 0).toNat * (P 0 1).toNat := Nat.mul_le_mul_left _ (by omega)
  rw [Nat.mul_add, Nat.mul_one] at this
  omega
theorem gQ_J {P : PT} (lb : lB P) {q : Nat} (g : gIn P q) : gQ P (gJ P q) = q := gJ_inj lb (gQ_ok lb (gJ_all lb g)).1 g (gQ_ok lb (gJ_all lb g)).2
/-- block at o: all of a LAND but its ORDERS -/
def rBk (o : Nat) (P : PT) (h : zH) : Prop := (h 126 o = (0, P 0 0) ∧ h 126 (o + 1) = (0, P 0 1) ∧ h 126 (o + 2) = (0, P 0 2) ∧ h 126 (o + 3) = (0, P 0 3) ∧ h 126 (o + 4) = (0, P 0 4)) ∧ (∀ q, gIn P q → h 126 (o + 5 + gJ P q) = (0, P 1 q) ∧ h 126 (o + 53 + gJ P q) = (0, P 2 q)) ∧ (∀ k q : Nat, k < 3 → gIn P q → h 126 (o + 101 + 48 * k + gJ P q) = (0, P 3 (48 * k + q))) ∧ ∀ k : Nat, (k : Int) < P 0 3 → h 126 (o + 245 + k) = (0, ((gJ P (P 6 k).toNat : Nat) : Int)) ∧ h 126 (o + 251 + k) = (0, ((gJ P (P 7 k).toNat : Nat) : Int)) ∧ h 126 (o + 257 + k) = (0, ((gJ P (P 5 k).toNat : Nat) : Int)) ∧ h 126 (o + 263 + k) = (0, P 8 k) ∧ h 126 (o + 269 + k) = (0, P 9 k)
section RF
variable {P : PT} {h h' : zH}
theorem rBk.w (g : rBk 0 P h) : h 126 0 = (0, P 0 0) := g.1.1
theorem rBk.r (g : rBk 0 P h) : h 126 1 = (0, P 0 1) := g.1.2.1
theorem rBk.c (g : rBk 0 P h) : h 126 2 = (0, P 0 2) := g.1.2.2.1
theorem rBk.m (g : rBk 0 P h) : h 126 3 = (0, P 0 3) := g.1.2.2.2.1
theorem rBk.e (g : rBk 0 P h) : h 126 4 = (0, P 0 4) := g.1.2.2.2.2
theorem rBk.l (g : rBk 0 P h) {q : Nat} (i : gIn P q) : h 126 (5 + ((gJ P q : Nat) : Int)).toNat = (0, P 1 q) := by
  have e := (g.2.1 q i).1
  rw [show 0 + 5 + gJ P q = (5 + ((gJ P q : Nat) : Int)).toNat by omega] at e
  exact e
theorem rBk.s (g : rBk 0 P h) {q : Nat} (i : gIn P q) : h 126 (53 + ((gJ P q : Nat) : Int)).toNat = (0, P 2 q) := by
  have e := (g.2.1 q i).2
  rw [show 0 + 53 + gJ P q = (53 + ((gJ P q : Nat) : Int)).toNat by omega] at e
  exact e
theorem rBk.st (g : rBk 0 P h) {k q : Nat} (hk : k < 3) (i : gIn P q) : h 126 ((101 + (48 * (k : Int))) + ((gJ P q : Nat) : Int)).toNat = (0, P 3 (48 * k + q)) := by
  have e := g.2.2.1 k q hk i
  rw [show 0 + 101 + 48 * k + gJ P q = ((101 + (48 * (k : Int))) + ((gJ P q : Nat) : Int)).toNat by omega] at e
  exact e
theorem rBk.at (g : rBk 0 P h) {k : Nat} (hk : (k : Int) < P 0 3) : h 126 (245 + (k : Int)).toNat = (0, ((gJ P (P 6 k).toNat : Nat) : Int)) := by
  have e := (g.2.2.2 k hk).1
  rw [show 0 + 245 + k = (245 + (k : Int)).toNat by omega] at e
  exact e
theorem rBk.go (g : rBk 0 P h) {k : Nat} (hk : (k : Int) < P 0 3) : h 126 (251 + (k : Int)).toNat = (0, ((gJ P (P 7 k).toNat : Nat) : Int)) := by
  have e := (g.2.2.2 k hk).2.1
  rw [show 0 + 251 + k = (251 + (k : Int)).toNat by omega] at e
  exact e
theorem rBk.ho (g : rBk 0 P h) {k : Nat} (hk : (k : Int) < P 0 3) : h 126 (257 + (k : Int)).toNat = (0, ((gJ P (P 5 k).toNat : Nat) : Int)) := by
  have e := (g.2.2.2 k hk).2.2.1
  rw [show 0 + 257 + k = (257 + (k : Int)).toNat by omega] at e
  exact e
theorem rBk.by (g : rBk 0 P h) {k : Nat} (hk : (k : Int) < P 0 3) : h 126 (263 + (k : Int)).toNat = (0, P 8 k) := by
  have e := (g.2.2.2 k hk).2.2.2.1
  rw [show 0 + 263 + k = (263 + (k : Int)).toNat by omega] at e
  exact e
theorem rBk.sp (g : rBk 0 P h) {k : Nat} (hk : (k : Int) < P 0 3) : h 126 (269 + (k : Int)).toNat = (0, P 9 k) := by
  have e := (g.2.2.2 k hk).2.2.2.2
  rw [show 0 + 269 + k = (269 + (k : Int)).toNat by omega] at e
  exact e
theorem rBk.eq {o : Nat} (g : rBk o P h) (lb : lB P) (f : ∀ b, o ≤ b → b < o + 275 → h' 126 b = h 126 b) : rBk o P h' := by
  obtain ⟨⟨a0, a1, a2, a3, a4⟩, b1, b2, b3⟩ := g
  refine ⟨⟨(f _ (by omega) (by omega)).trans a0, (f _ (by omega) (by omega)).trans a1, (f _ (by omega) (by omega)).trans a2, (f _ (by omega) (by omega)).trans a3, (f _ (by omega) (by omega)).trans a4⟩, fun q i => ?_, fun k q hk i => ?_, fun k hk => ?_⟩
  · have := gJ_lt lb i
    exact ⟨(f _ (by omega) (by omega)).trans (b1 q i).1, (f _ (by omega) (by omega)).trans (b1 q i).2⟩
  · have := gJ_lt lb i
    exact (f _ (by omega) (by omega)).trans (b2 k q hk i)
  · have := lb.2.2.2.2
    obtain ⟨c1, c2, c3, c4, c5⟩ := b3 k hk
    exact ⟨(f _ (by omega) (by omega)).trans c1, (f _ (by omega) (by omega)).trans c2, (f _ (by omega) (by omega)).trans c3, (f _ (by omega) (by omega)).trans c4, (f _ (by omega) (by omega)).trans c5⟩
end RF
/-- what it costs by copy cp (below 0: the ground) -/
def rC (P : PT) (cp : Int) (q : Nat) : Int := if cp < 0 then gGr P q else gSh P cp.toNat q
theorem rC_b {P : PT} (hb : fB P) {cp : Int} {q : Nat} (hq : q < 48) : 0 ≤ rC P cp q ∧ rC P cp q ≤ 14 := by
  have a := gGr_b hb hq
  have b := gSh_b hb (k := cp.toNat) hq
  unfold rC
  split <;> omega
def rCF (P : PT) (cp : Int) (q : Nat) : Int := if rC P cp q = 0 then 1000000 else rC P cp q
/-- over a cell's neighbour -/
def gGo (P : PT) (cp : Int) (d : Nat → Int) (q k : Nat) : Int := if gNb P q k = -1 then 1000000 else if rC P cp (gNb P q k).toNat = 0 then 1000000 else if d (gNb P q k).toNat = 1000000 then 1000000 else 100 * rC P cp (gNb P q k).toNat + 1 + d (gNb P q k).toNat
def dX (d : Nat) : Int := if d = 0 then 1 else if d = 2 then -1 else 0
def dY (d : Nat) : Int := if d = 1 then 1 else if d = 3 then -1 else 0
theorem gNb_xy {P : PT} (lb : lB P) {q d : Nat} (g : gIn P q) (hd : d < 4) : gNb P q d = if (0 ≤ ((q % 8 : Nat) : Int) + dX d ∧ ((q % 8 : Nat) : Int) + dX d ≤ P 0 0 - 1) ∧ 0 ≤ ((q / 8 : Nat) : Int) + dY d ∧ ((q / 8 : Nat) : Int) + dY d ≤ P 0 1 - 1 then 8 * (((q / 8 : Nat) : Int) + dY d) + (((q % 8 : Nat) : Int) + dX d) else -1 := by
  obtain ⟨⟨w0, w8⟩, ⟨r0, r6⟩, _⟩ := lb
  obtain ⟨g0, g1, g2⟩ := g
  have : d = 0 ∨ d = 1 ∨ d = 2 ∨ d = 3 := by omega
  rcases this with rfl | rfl | rfl | rfl
  · show cBs (P 0 0) (P 0 1) q 0 = _
    rw [show dX 0 = 1 from rfl, show dY 0 = 0 from rfl]
    unfold cBs
    rw [if_pos rfl]
    by_cases c : ((q % 8 : Nat) : Int) + 1 < P 0 0
    · rw [if_pos c, if_pos (by omega)]; omega
    · rw [if_neg c, if_neg (by omega)]
  · show cBs (P 0 0) (P 0 1) q 1 = _
    rw [show dX 1 = 0 from rfl, show dY 1 = 1 from rfl]
    unfold cBs
    rw [if_neg (by decide), if_pos rfl]
    by_cases c : (q : Int) + 8 < P 0 1 * 8
    · rw [if_pos c, if_pos (by omega)]; omega
    · rw [if_neg c, if_neg (by omega)]
  · show cBs (P 0 0) (P 0 1) q 2 = _
    rw [show dX 2 = -1 from rfl, show dY 2 = 0 from rfl]
    unfold cBs
    rw [if_neg (by decide), if_neg (by decide), if_pos rfl]
    by_cases c : 0 < q % 8
    · rw [if_pos c, if_pos (by omega)]; omega
    · rw [if_neg c, if_neg (by omega)]
  · show cBs (P 0 0) (P 0 1) q 3 = _
    rw [show dX 3 = 0 from rfl, show dY 3 = -1 from rfl]
    unfold cBs
    rw [if_neg (by decide), if_neg (by decide), if_neg (by decide)]
    by_cases c : 8 ≤ q
    · rw [if_pos c, if_pos (by omega)]; omega
    · rw [if_neg c, if_neg (by omega)]
theorem gJ_xy {P : PT} (h0 : 0 ≤ P 0 0) {q2 : Nat} {x y : Int} (hx : 0 ≤ x ∧ x < 8) (hy : 0 ≤ y) (e : 8 * y + x = (q2 : Int)) : P 0 0 * y + x = ((gJ P q2 : Nat) : Int) := by
  rw [gJ_i h0, show ((q2 / 8 : Nat) : Int) = y by omega, show ((q2 % 8 : Nat) : Int) = x by omega]
theorem wy_b {w y : Int} (h1 : 0 ≤ w ∧ w ≤ 8) (h2 : 0 ≤ y ∧ y ≤ 8) : 0 ≤ w * y ∧ w * y ≤ 64 := by
  have a := Int.mul_nonneg h1.1 h2.1
  have b : w * y ≤ 8 * y := Int.mul_le_mul_of_nonneg_right h1.2 h2.1
  omega
theorem gGo_r {P : PT} {cp : Int} {d : Nat → Int} {q k b : Nat} (e : gNb P q k = (b : Int)) : gGo P cp d q k = if rC P cp b = 0 then 1000000 else if d b = 1000000 then 1000000 else 100 * rC P cp b + 1 + d b := by
  unfold gGo
  rw [if_neg (by omega), e, Int.toNat_natCast]
def oHp (P : PT) (d : Nat → Int) (h : zH) : Prop := ∀ r, gIn P r → h 130 (gJ P r) = (0, d r)
def oU (P : PT) (cp : Int) (to : Nat) (d : Nat → Int) : Prop := d to = 0 ∧ wU (gIn P) (gNb P) (rC P cp) g100 to d
def oRL (P : PT) (cp : Int) (d : Nat → Int) (m : Int) (n e : Nat) : Prop := m = 0 → ∀ q' : Nat, gIn P q' → ∀ e' : Nat, e' < 4 → (gJ P q' < n ∨ (gJ P q' = n ∧ e' < e)) → d q' ≤ gGo P cp d q' e'
theorem oU_set {P : PT} {cp : Int} {to : Nat} {d : Nat → Int} (lb : lB P) (hu : oU P cp to d) (h0 : ∀ q, gIn P q → 0 ≤ rC P cp q) {q e : Nat} (gq : gIn P q) (he : e < 4) (hl : gGo P cp d q e < d q) : oU P cp to (fun x => if x = q then gGo P cp d q e else d x) := by
  obtain ⟨ht, hu1, hu2⟩ := hu
  have bq := hu1 q gq
  have w6 : wFar = 1000000 := rfl
  obtain ⟨b, cb, en, ab⟩ : ∃ b : Nat, gIn P b ∧ gNb P q e = (b : Int) ∧ wAdj (gNb P) b q := by
    rcases (gOk lb).2 q e gq he with f | ⟨b, g, f, a⟩
    · have : gGo P cp d q e = 1000000 := if_pos f
      omega
    · exact ⟨b, g, f, a⟩
  have r := gGo_r (P := P) (cp := cp) (d := d) en
  have bb := hu1 b cb
  have c0 := h0 b cb
  by_cases z1 : rC P cp b = 0
  · rw [if_pos z1] at r
    omega
  · rw [if_neg z1] at r
    by_cases z2 : d b = 1000000
    · rw [if_pos z2] at r
      omega
    · rw [if_neg z2] at r
      have hbq : b ≠ q := fun c => by rw [c] at r c0; omega
      have hqt : q ≠ to := fun c => by rw [c, ht] at hl; rw [c] at r; omega
      refine ⟨?_, fun x gx => ?_, fun x gx hx fx => ?_⟩
      · show (if to = q then gGo P cp d q e else d to) = 0
        rw [if_neg (fun c => hqt c.symm)]; exact ht
      · show 0 ≤ (if x = q then gGo P cp d q e else d x) ∧ (if x = q then gGo P cp d q e else d x) ≤ wFar
        by_cases c : x = q
        · rw [if_pos c]; omega
        · rw [if_neg c]; exact hu1 x gx
      · have fx : (if x = q then gGo P cp d q e else d x) < wFar := fx
        show ∃ y, gIn P y ∧ wAdj (gNb P) x y ∧ 0 < rC P cp y ∧ (if y = q then gGo P cp d q e else d y) < wFar ∧ g100 (rC P cp y) + (if y = q then gGo P cp d q e else d y) ≤ (if x = q then gGo P cp d q e else d x)
        by_cases c : x = q
        · refine ⟨b, cb, by rw [c]; exact ⟨e, he, en⟩, by omega, ?_, ?_⟩
          · rw [if_neg hbq]; omega
          · rw [if_neg hbq, if_pos c, r]
            unfold g100
            omega
        · rw [if_neg c] at fx ⊢
          obtain ⟨y, gy, ay, py, fy, ly⟩ := hu2 x gx hx fx
          refine ⟨y, gy, ay, py, ?_, ?_⟩
          · by_cases cc : y = q
            · rw [if_pos cc]; omega
            · rw [if_neg cc]; exact fy
          · by_cases cc : y = q
            · rw [if_pos cc]
              rw [cc] at ly ⊢
              omega
            · rw [if_neg cc]; exact ly
theorem oU_D {P : PT} {cp : Int} {to : Nat} {d co : Nat → Int} (hu : oU P cp to d) (hco : ∀ q, gIn P q → rC P cp q = co q) (hr : ∀ q : Nat, gIn P q → ∀ e : Nat, e < 4 → d q ≤ gGo P cp d q e) : wD (gIn P) (gNb P) co g100 to d := by
  have w6 : wFar = 1000000 := rfl
  refine ⟨hu.1, ⟨hu.2.1, fun a ca hat fa => ?_⟩, fun a b ca cb ab pb fb => ?_⟩
  · obtain ⟨b, cb, ab, pb, fb, l⟩ := hu.2.2 a ca hat fa
    rw [hco b cb] at pb l
    exact ⟨b, cb, ab, pb, fb, l⟩
  · obtain ⟨e, he, en⟩ := ab
    have k := hr a ca e he
    rw [← hco b cb] at pb ⊢
    rw [gGo_r en, if_neg (by omega), if_neg (by omega)] at k
    unfold g100
    omega
theorem oU_ini {P : PT} {cp : Int} {to : Nat} : oU P cp to (fun x => if x = to then 0 else 1000000) := by
  refine ⟨if_pos rfl, fun a _ => ?_, fun a _ hat hf => ?_⟩
  · show 0 ≤ (if a = to then (0 : Int) else 1000000) ∧ (if a = to then (0 : Int) else 1000000) ≤ wFar
    unfold wFar
    split <;> omega
  · have hf : (if a = to then (0 : Int) else 1000000) < wFar := hf
    rw [if_neg hat] at hf
    unfold wFar at hf
    omega
theorem oU_b {P : PT} {cp : Int} {to : Nat} {d : Nat → Int} {h : zH} (hu : oU P cp to d) (hp : oHp P d h) : ∀ r, gIn P r → h 130 (gJ P r) = (0, d r) ∧ 0 ≤ d r ∧ d r ≤ 1000000 := fun r g => ⟨hp r g, hu.2.1 r g⟩
/-! the row of CELLS told by the reference -/
def rHp (P : PT) (p : Nat → Nat) (n : Nat) (h : zH) : Prop := (∀ i, i ≤ n → h 132 i = (0, ((gJ P (p i) : Nat) : Int))) ∧ h 121 31 = (0, ((n + 1 : Nat) : Int))
def rwF (h0 h : zH) : Prop := ∀ a b, ¬ (a = 130 ∨ a = 132 ∨ (a = 121 ∧ b = 31)) → h a b = h0 a b
theorem rwF.z {h0 h : zH} {a b : Nat} {v : zV} (ha : a = 130 ∨ a = 132 ∨ (a = 121 ∧ b = 31)) (g : rwF h0 h) : rwF h0 (zset h a b v) := fun x y hn => (zset_ne (fun c => hn (by omega))).trans (g x y hn)
theorem rHp_s {P : PT} {p : Nat → Nat} {n : Nat} {h : zH} (g : rHp P p n h) : rHp P p (n + 1) (zset (zset h 132 (n + 1) (0, ((gJ P (p (n + 1)) : Nat) : Int))) 121 31 (0, (((n + 1 : Nat) : Int) + 1))) := by
  refine ⟨fun i hi => (zset_ne (by omega)).trans ?_, zset_same⟩
  by_cases c : i = n + 1
  · rw [c]; exact zset_same
  · exact (zset_ne (fun e => c e.2)).trans (g.1 i (by omega))
theorem gGo_hit {P : PT} {cp : Int} {d co : Nat → Int} {a k : Nat} (lb : lB P) (hco : ∀ q, gIn P q → rC P cp q = co q) (h0 : ∀ q, gIn P q → 0 ≤ rC P cp q) (bd : ∀ q, gIn P q → 0 ≤ d q ∧ d q ≤ 1000000) (ga : gIn P a) (fa : d a < wFar) (hk : k < 4) : gGo P cp d a k = d a ↔ wHb (gNb P) co d a k = true := by
  have w6 : wFar = 1000000 := rfl
  rcases (gOk lb).2 a k ga hk with f | ⟨b, gb, f, _⟩
  · constructor
    · intro c
      have : gGo P cp d a k = 1000000 := if_pos f
      omega
    · intro c
      have := (wHb_i c).1
      omega
  · rw [wHb_b f, gGo_r f, ← hco b gb]
    have c0 := h0 b gb
    have bb := bd b gb
    constructor
    · intro c
      by_cases z1 : rC P cp b = 0
      · rw [if_pos z1] at c; omega
      · rw [if_neg z1] at c
        by_cases z2 : d b = 1000000
        · rw [if_pos z2] at c; omega
        · rw [if_neg z2] at c
          unfold g100
          exact ⟨by omega, by omega, by omega⟩
    · rintro ⟨z1, z2, z3⟩
      rw [if_neg (by omega), if_neg (by omega)]
      unfold g100 at z3
      omega
end
section
theorem qr_at2 {D : zD} {T : zT} (hT : hTab T) (hO : vOK T) {N : Nat} {h : zH} {Q : zR → Prop} {P : PT} (x y : Int) (hv0 : zHv h) (c0 : h 126 0 = (0, P 0 0)) (hm : 0 ≤ P 0 0 * y ∧ P 0 0 * y ≤ 64) (hx : 0 ≤ x ∧ x < 8)
    (k0 : Q (h, some (0, (((P 0 0) * y) + x)))) :
    vP D T N 197 0 h [some (2, 121), some (0, x), some (0, y)] [] Q := by
  refine v_load (v := (2, 121)) (hz_X12_at2 hT _ _ rfl) rfl rfl ?_
  refine v_getR (c := 126) (r := 121) (hz_X12_at2 hT _ _ rfl) rfl rfl rfl ?_
  refine v_push (0) (hz_X12_at2 hT _ _ rfl) rfl ?_
  refine v_aldV (v := (0, (P 0 0))) (r := 126) (hz_X12_at2 hT _ _ rfl) rfl rfl (fun _ _ _ => c0) (fun ha1 hb2 => ?_)
  refine v_load (v := (0, y)) (hz_X12_at2 hT _ _ rfl) rfl rfl ?_
  refine v_bin (w := ((P 0 0) * y)) (hz_X12_at2 hT _ _ rfl) (hq_mul (by omega) (by omega)) ?_
  refine v_load (v := (0, x)) (hz_X12_at2 hT _ _ rfl) rfl rfl ?_
  refine v_bin (w := (((P 0 0) * y) + x)) (hz_X12_at2 hT _ _ rfl) (hq_add (by omega) (by omega)) ?_
  refine v_ret (hz_X12_at2 hT _ _ rfl) (Or.inl rfl) ?_
  exact k0 
theorem rb_at2 {D : zD} {T : zT} (hT : hTab T) (hO : vOK T) {N : Nat} {h : zH} {Q : zR → Prop} {P : PT} (x y : Int) (hx : 0 ≤ x ∧ x < 8) (hy : 0 ≤ y ∧ y ≤ 8) (c0 : h 126 0 = (0, P 0 0)) (lb : lB P) (k : Q (h, some (0, P 0 0 * y + x))) : vP D T N 197 0 h [some (2, 121), some (0, x), some (0, y)] [] Q := vP_hv (fun hv => qr_at2 hT hO x y hv c0 (wy_b lb.1 hy) hx k)
theorem qr_cells {D : zD} {T : zT} (hT : hTab T) (hO : vOK T) {N : Nat} {h : zH} {Q : zR → Prop} {P : PT} (hv0 : zHv h) (c0 : h 126 0 = (0, P 0 0)) (c1 : h 126 1 = (0, P 0 1)) (hm : 0 ≤ P 0 0 * P 0 1 ∧ P 0 0 * P 0 1 ≤ 64)
    (k0 : Q (h, some (0, ((P 0 0) * (P 0 1))))) :
    vP D T N 206 0 h [some (2, 121)] [] Q := by
  refine v_load (v := (2, 121)) (hz_X12_cells hT _ _ rfl) rfl rfl ?_
  refine v_getR (c := 126) (r := 121) (hz_X12_cells hT _ _ rfl) rfl rfl rfl ?_
  refine v_push (0) (hz_X12_cells hT _ _ rfl) rfl ?_
  refine v_aldV (v := (0, (P 0 0))) (r := 126) (hz_X12_cells hT _ _ rfl) rfl rfl (fun _ _ _ => c0) (fun ha1 hb2 => ?_)
  refine v_load (v := (2, 121)) (hz_X12_cells hT _ _ rfl) rfl rfl ?_
  refine v_getR (c := 126) (r := 121) (hz_X12_cells hT _ _ rfl) rfl rfl rfl ?_
  refine v_push (1) (hz_X12_cells hT _ _ rfl) rfl ?_
  refine v_aldV (v := (0, (P 0 1))) (r := 126) (hz_X12_cells hT _ _ rfl) rfl rfl (fun _ _ _ => c1) (fun ha3 hb4 => ?_)
  refine v_bin (w := ((P 0 0) * (P 0 1))) (hz_X12_cells hT _ _ rfl) (hq_mul (by omega) (by omega)) ?_
  refine v_ret (hz_X12_cells hT _ _ rfl) (Or.inl rfl) ?_
  exact k0 
theorem rb_cells {D : zD} {T : zT} (hT : hTab T) (hO : vOK T) {N : Nat} {h : zH} {Q : zR → Prop} {P : PT} (c0 : h 126 0 = (0, P 0 0)) (c1 : h 126 1 = (0, P 0 1)) (lb : lB P) (k : Q (h, some (0, P 0 0 * P 0 1))) : vP D T N 206 0 h [some (2, 121)] [] Q := vP_hv (fun hv => qr_cells hT hO hv c0 c1 (wy_b lb.1 ⟨lb.2.1.1, by have := lb.2.1.2; omega⟩) k)
theorem qr_bes0 {D : zD} {T : zT} (hT : hTab T) (hO : vOK T) {N : Nat} {h : zH} {Q : zR → Prop} {P : PT} {n x y : Nat} (hv0 : zHv h) (c0 : h 126 0 = (0, P 0 0)) (c1 : h 126 1 = (0, P 0 1)) (lb : lB P) (hn : n < 48) (hw : 0 < P 0 0 ∧ P 0 0 ≤ 8) (hr : 0 ≤ P 0 1 ∧ P 0 1 ≤ 6) (hx : (n : Int) % P 0 0 = (x : Int)) (hy : (n : Int) / P 0 0 = (y : Int)) (bx : x < 8) (by_ : y < 6)
    (k0 : ((P 0 0) ≠ 0) → ((P 0 0) ≠ 0) → (((x : Int) + 1) < 0) → Q (h, some (0, -1)))
    (k1 : ((P 0 0) ≠ 0) → ((P 0 0) ≠ 0) → (0 ≤ ((x : Int) + 1)) → (((P 0 0) - 1) < ((x : Int) + 1)) → Q (h, some (0, -1)))
    (k2 : ((P 0 0) ≠ 0) → ((P 0 0) ≠ 0) → (0 ≤ ((x : Int) + 1)) → (((x : Int) + 1) ≤ ((P 0 0) - 1)) → (((y : Int) + 0) < 0) → Q (h, some (0, -1)))
    (k3 : ((P 0 0) ≠ 0) → ((P 0 0) ≠ 0) → (0 ≤ ((x : Int) + 1)) → (((x : Int) + 1) ≤ ((P 0 0) - 1)) → (0 ≤ ((y : Int) + 0)) → (((P 0 1) - 1) < ((y : Int) + 0)) → Q (h, some (0, -1)))
    (k4 : ((P 0 0) ≠ 0) → ((P 0 0) ≠ 0) → (0 ≤ ((x : Int) + 1)) → (((x : Int) + 1) ≤ ((P 0 0) - 1)) → (0 ≤ ((y : Int) + 0)) → (((y : Int) + 0) ≤ ((P 0 1) - 1)) → Q (h, some (0, ((P 0 0) * ((y : Int) + 0) + ((x : Int) + 1))))) :
    vP D T N 200 0 h [some (2, 121), some (0, (n : Int)), some (0, 0), none, none] [] Q := by
  refine v_load (v := (0, (n : Int))) (hi_X12_beside_0 hT) rfl rfl ?_
  refine v_load (v := (2, 121)) (hi_X12_beside_1 hT) rfl rfl ?_
  refine v_getR (c := 126) (r := 121) (hi_X12_beside_2 hT) rfl rfl rfl ?_
  refine v_push (0) (hi_X12_beside_5 hT) rfl ?_
  refine v_aldV (v := (0, (P 0 0))) (r := 126) (hi_X12_beside_6 hT) rfl rfl (fun _ _ _ => c0) (fun ha1 hb2 => ?_)
  refine v_div (w := (x : Int)) (hi_X12_beside_7 hT) (fun _ => (hq_rem (by omega) (by omega) (by omega) (by omega)).trans hx) (fun hc3 => ?_)
  refine v_load (v := (0, 0)) (hi_X12_beside_8 hT) rfl rfl ?_
  refine v_if (hi_X12_beside_9 hT) (fun _ => ?_) (fun hc4 => absurd (show (0 : Int) = 0 from (by decide)) hc4)
  refine v_push (1) (hz_X12_beside hT _ _ rfl) rfl ?_
  refine v_goto (hz_X12_beside hT _ _ rfl) ?_
  refine v_bin (w := ((x : Int) + 1)) (hi_X12_beside_26 hT) (hq_add (by omega) (by omega)) ?_
  refine v_store1 [some (2, 121), some (0, (n : Int)), some (0, 0), some (0, ((x : Int) + 1)), none] (hi_X12_beside_27 hT) ⟨rfl, Nat.ne_of_beq_eq_false rfl⟩ (Nat.le_of_ble_eq_true rfl) rfl ?_
  refine v_load (v := (0, (n : Int))) (hi_X12_beside_28 hT) rfl rfl ?_
  refine v_load (v := (2, 121)) (hi_X12_beside_29 hT) rfl rfl ?_
  refine v_getR (c := 126) (r := 121) (hi_X12_beside_30 hT) rfl rfl rfl ?_
  refine v_push (0) (hi_X12_beside_33 hT) rfl ?_
  refine v_aldV (v := (0, (P 0 0))) (r := 126) (hi_X12_beside_34 hT) rfl rfl (fun _ _ _ => c0) (fun ha5 hb6 => ?_)
  refine v_div (w := (y : Int)) (hi_X12_beside_35 hT) (fun _ => (hq_quo (by omega) (by omega) (by omega) (by omega)).trans hy) (fun hc7 => ?_)
  refine v_load (v := (0, 0)) (hi_X12_beside_36 hT) rfl rfl ?_
  refine v_push (1) (hi_X12_beside_37 hT) rfl ?_
  refine v_ic (hi_X12_beside_38 hT) (fun hc8 => absurd (show (0 : Int) = 1 from hc8) (by decide)) (fun _ => ?_)
  refine v_load (v := (0, 0)) (hz_X12_beside hT _ _ rfl) rfl rfl ?_
  refine v_push (3) (hz_X12_beside hT _ _ rfl) rfl ?_
  refine v_ic (hz_X12_beside hT _ _ rfl) (fun hc9 => absurd (show (0 : Int) = 3 from hc9) (by decide)) (fun _ => ?_)
  refine v_push (0) (hz_X12_beside hT _ _ rfl) rfl ?_
  refine v_bin (w := ((y : Int) + 0)) (hi_X12_beside_55 hT) (hq_add (by omega) (by omega)) ?_
  refine v_store1 [some (2, 121), some (0, (n : Int)), some (0, 0), some (0, ((x : Int) + 1)), some (0, ((y : Int) + 0))] (hi_X12_beside_56 hT) ⟨rfl, Nat.ne_of_beq_eq_false rfl⟩ (Nat.le_of_ble_eq_true rfl) rfl ?_
  refine v_load (v := (2, 121)) (hi_X12_beside_58 hT) rfl rfl ?_
  refine v_load (v := (0, ((x : Int) + 1))) (hi_X12_beside_59 hT) rfl rfl ?_
  refine v_load (v := (0, ((y : Int) + 0))) (hi_X12_beside_60 hT) rfl rfl ?_
  refine v_call (w := 3) [some (2, 121), some (0, ((x : Int) + 1)), some (0, ((y : Int) + 0))] hO (hi_X12_beside_62 hT) rfl rfl ?_
  refine v_load (v := (0, ((x : Int) + 1))) (hi_X12_isCell_0 hT) rfl rfl ?_
  refine v_i2l (hi_X12_isCell_1 hT) ?_
  refine v_push (0) (hi_X12_isCell_2 hT) rfl ?_
  refine v_load (v := (2, 121)) (hi_X12_isCell_3 hT) rfl rfl ?_
  refine v_getR (c := 126) (r := 121) (hi_X12_isCell_4 hT) rfl rfl rfl ?_
  refine v_push (0) (hi_X12_isCell_7 hT) rfl ?_
  refine v_aldV (v := (0, (P 0 0))) (r := 126) (hi_X12_isCell_8 hT) rfl rfl (fun _ _ _ => c0) (fun ha10 hb11 => ?_)
  refine v_push (1) (hi_X12_isCell_9 hT) rfl ?_
  refine v_bin (w := ((P 0 0) - 1)) (hi_X12_isCell_10 hT) (hq_sub (by omega) (by omega)) ?_
  refine v_i2l (hi_X12_isCell_11 hT) ?_
  refine v_call (w := 6) [some (1, ((x : Int) + 1)), none, some (1, 0), none, some (1, ((P 0 0) - 1)), none] hO (hi_X12_isCell_12 hT) rfl rfl ?_
  refine v_load (v := (1, ((x : Int) + 1))) (hi_X12_isIn_0 hT) rfl rfl ?_
  refine v_load (v := (1, 0)) (hi_X12_isIn_1 hT) rfl rfl ?_
  refine v_lif (hi_X12_isIn_2 hT) (hi_X12_isIn_3 hT) (fun hc12 => ?_) (fun hc12 => ?_)
  · have hc12 : ((x : Int) + 1) < 0 := hc12
    refine v_push (0) (hi_X12_isIn_17 hT) rfl ?_
    refine v_ret (hi_X12_isIn_18 hT) (Or.inl rfl) ?_
    show vP D T N 244 15 h [some (2, 121), some (0, ((x : Int) + 1)), some (0, ((y : Int) + 0))] [(0, 0)] _
    refine v_if (hi_X12_isCell_15 hT) (fun _ => ?_) (fun hc13 => absurd (show (0 : Int) = 0 from (by decide)) hc13)
    refine v_push (0) (hi_X12_isCell_40 hT) rfl ?_
    refine v_ret (hi_X12_isCell_41 hT) (Or.inl rfl) ?_
    show vP D T N 200 65 h [some (2, 121), some (0, (n : Int)), some (0, 0), some (0, ((x : Int) + 1)), some (0, ((y : Int) + 0))] [(0, 0)] _
    refine v_if (hi_X12_beside_65 hT) (fun _ => ?_) (fun hc14 => absurd (show (0 : Int) = 0 from (by decide)) hc14)
    refine v_push (-1) (hi_X12_beside_78 hT) rfl ?_
    refine v_ret (hi_X12_beside_79 hT) (Or.inl rfl) ?_
    exact k0 hc3 hc7 hc12
  · have hc12 : 0 ≤ ((x : Int) + 1) := Int.not_lt.mp hc12
    refine v_load (v := (1, ((x : Int) + 1))) (hi_X12_isIn_6 hT) rfl rfl ?_
    refine v_load (v := (1, ((P 0 0) - 1))) (hi_X12_isIn_7 hT) rfl rfl ?_
    refine v_lif (hi_X12_isIn_9 hT) (hi_X12_isIn_10 hT) (fun hc15 => ?_) (fun hc15 => ?_)
    · have hc15 : ((P 0 0) - 1) < ((x : Int) + 1) := hc15
      refine v_push (0) (hi_X12_isIn_17 hT) rfl ?_
      refine v_ret (hi_X12_isIn_18 hT) (Or.inl rfl) ?_
      show vP D T N 244 15 h [some (2, 121), some (0, ((x : Int) + 1)), some (0, ((y : Int) + 0))] [(0, 0)] _
      refine v_if (hi_X12_isCell_15 hT) (fun _ => ?_) (fun hc16 => absurd (show (0 : Int) = 0 from (by decide)) hc16)
      refine v_push (0) (hi_X12_isCell_40 hT) rfl ?_
      refine v_ret (hi_X12_isCell_41 hT) (Or.inl rfl) ?_
      show vP D T N 200 65 h [some (2, 121), some (0, (n : Int)), some (0, 0), some (0, ((x : Int) + 1)), some (0, ((y : Int) + 0))] [(0, 0)] _
      refine v_if (hi_X12_beside_65 hT) (fun _ => ?_) (fun hc17 => absurd (show (0 : Int) = 0 from (by decide)) hc17)
      refine v_push (-1) (hi_X12_beside_78 hT) rfl ?_
      refine v_ret (hi_X12_beside_79 hT) (Or.inl rfl) ?_
      exact k1 hc3 hc7 hc12 hc15
    · have hc15 : ((x : Int) + 1) ≤ ((P 0 0) - 1) := Int.not_lt.mp hc15
      refine v_push (1) (hi_X12_isIn_13 hT) rfl ?_
      refine v_goto (hi_X12_isIn_14 hT) ?_
      refine v_ret (hi_X12_isIn_18 hT) (Or.inl rfl) ?_
      show vP D T N 244 15 h [some (2, 121), some (0, ((x : Int) + 1)), some (0, ((y : Int) + 0))] [(0, 1)] _
      refine v_if (hi_X12_isCell_15 hT) (fun hc18 => absurd (show (1 : Int) = 0 from hc18) (by decide)) (fun _ => ?_)
      refine v_load (v := (0, ((y : Int) + 0))) (hi_X12_isCell_18 hT) rfl rfl ?_
      refine v_i2l (hi_X12_isCell_19 hT) ?_
      refine v_push (0) (hi_X12_isCell_20 hT) rfl ?_
      refine v_load (v := (2, 121)) (hi_X12_isCell_21 hT) rfl rfl ?_
      refine v_getR (c := 126) (r := 121) (hi_X12_isCell_22 hT) rfl rfl rfl ?_
      refine v_push (1) (hi_X12_isCell_25 hT) rfl ?_
      refine v_aldV (v := (0, (P 0 1))) (r := 126) (hi_X12_isCell_26 hT) rfl rfl (fun _ _ _ => c1) (fun ha19 hb20 => ?_)
      refine v_push (1) (hi_X12_isCell_27 hT) rfl ?_
      refine v_bin (w := ((P 0 1) - 1)) (hi_X12_isCell_28 hT) (hq_sub (by omega) (by omega)) ?_
      refine v_i2l (hi_X12_isCell_29 hT) ?_
      refine v_call (w := 6) [some (1, ((y : Int) + 0)), none, some (1, 0), none, some (1, ((P 0 1) - 1)), none] hO (hi_X12_isCell_30 hT) rfl rfl ?_
      refine v_load (v := (1, ((y : Int) + 0))) (hi_X12_isIn_0 hT) rfl rfl ?_
      refine v_load (v := (1, 0)) (hi_X12_isIn_1 hT) rfl rfl ?_
      refine v_lif (hi_X12_isIn_2 hT) (hi_X12_isIn_3 hT) (fun hc21 => ?_) (fun hc21 => ?_)
      · have hc21 : ((y : Int) + 0) < 0 := hc21
        refine v_push (0) (hi_X12_isIn_17 hT) rfl ?_
        refine v_ret (hi_X12_isIn_18 hT) (Or.inl rfl) ?_
        show vP D T N 244 33 h [some (2, 121), some (0, ((x : Int) + 1)), some (0, ((y : Int) + 0))] [(0, 0)] _
        refine v_if (hi_X12_isCell_33 hT) (fun _ => ?_) (fun hc22 => absurd (show (0 : Int) = 0 from (by decide)) hc22)
        refine v_push (0) (hi_X12_isCell_40 hT) rfl ?_
        refine v_ret (hi_X12_isCell_41 hT) (Or.inl rfl) ?_
        show vP D T N 200 65 h [some (2, 121), some (0, (n : Int)), some (0, 0), some (0, ((x : Int) + 1)), some (0, ((y : Int) + 0))] [(0, 0)] _
        refine v_if (hi_X12_beside_65 hT) (fun _ => ?_) (fun hc23 => absurd (show (0 : Int) = 0 from (by decide)) hc23)
        refine v_push (-1) (hi_X12_beside_78 hT) rfl ?_
        refine v_ret (hi_X12_beside_79 hT) (Or.inl rfl) ?_
        exact k2 hc3 hc7 hc12 hc15 hc21
      · have hc21 : 0 ≤ ((y : Int) + 0) := Int.not_lt.mp hc21
        refine v_load (v := (1, ((y : Int) + 0))) (hi_X12_isIn_6 hT) rfl rfl ?_
        refine v_load (v := (1, ((P 0 1) - 1))) (hi_X12_isIn_7 hT) rfl rfl ?_
        refine v_lif (hi_X12_isIn_9 hT) (hi_X12_isIn_10 hT) (fun hc24 => ?_) (fun hc24 => ?_)
        · have hc24 : ((P 0 1) - 1) < ((y : Int) + 0) := hc24
          refine v_push (0) (hi_X12_isIn_17 hT) rfl ?_
          refine v_ret (hi_X12_isIn_18 hT) (Or.inl rfl) ?_
          show vP D T N 244 33 h [some (2, 121), some (0, ((x : Int) + 1)), some (0, ((y : Int) + 0))] [(0, 0)] _
          refine v_if (hi_X12_isCell_33 hT) (fun _ => ?_) (fun hc25 => absurd (show (0 : Int) = 0 from (by decide)) hc25)
          refine v_push (0) (hi_X12_isCell_40 hT) rfl ?_
          refine v_ret (hi_X12_isCell_41 hT) (Or.inl rfl) ?_
          show vP D T N 200 65 h [some (2, 121), some (0, (n : Int)), some (0, 0), some (0, ((x : Int) + 1)), some (0, ((y : Int) + 0))] [(0, 0)] _
          refine v_if (hi_X12_beside_65 hT) (fun _ => ?_) (fun hc26 => absurd (show (0 : Int) = 0 from (by decide)) hc26)
          refine v_push (-1) (hi_X12_beside_78 hT) rfl ?_
          refine v_ret (hi_X12_beside_79 hT) (Or.inl rfl) ?_
          exact k3 hc3 hc7 hc12 hc15 hc21 hc24
        · have hc24 : ((y : Int) + 0) ≤ ((P 0 1) - 1) := Int.not_lt.mp hc24
          refine v_push (1) (hi_X12_isIn_13 hT) rfl ?_
          refine v_goto (hi_X12_isIn_14 hT) ?_
          refine v_ret (hi_X12_isIn_18 hT) (Or.inl rfl) ?_
          show vP D T N 244 33 h [some (2, 121), some (0, ((x : Int) + 1)), some (0, ((y : Int) + 0))] [(0, 1)] _
          refine v_if (hi_X12_isCell_33 hT) (fun hc27 => absurd (show (1 : Int) = 0 from hc27) (by decide)) (fun _ => ?_)
          refine v_push (1) (hi_X12_isCell_36 hT) rfl ?_
          refine v_goto (hi_X12_isCell_37 hT) ?_
          refine v_ret (hi_X12_isCell_41 hT) (Or.inl rfl) ?_
          show vP D T N 200 65 h [some (2, 121), some (0, (n : Int)), some (0, 0), some (0, ((x : Int) + 1)), some (0, ((y : Int) + 0))] [(0, 1)] _
          refine v_if (hi_X12_beside_65 hT) (fun hc28 => absurd (show (1 : Int) = 0 from hc28) (by decide)) (fun _ => ?_)
          refine v_load (v := (2, 121)) (hi_X12_beside_68 hT) rfl rfl ?_
          refine v_load (v := (0, ((x : Int) + 1))) (hi_X12_beside_69 hT) rfl rfl ?_
          refine v_load (v := (0, ((y : Int) + 0))) (hi_X12_beside_70 hT) rfl rfl ?_
          refine v_call (w := 3) [some (2, 121), some (0, ((x : Int) + 1)), some (0, ((y : Int) + 0))] hO (hi_X12_beside_72 hT) rfl rfl (rb_at2 hT hO (((x : Int) + 1)) (((y : Int) + 0)) (by omega) (by omega) c0 lb ?_)
          show vP D T N 200 75 h [some (2, 121), some (0, (n : Int)), some (0, 0), some (0, ((x : Int) + 1)), some (0, ((y : Int) + 0))] [(0, ((P 0 0) * ((y : Int) + 0) + ((x : Int) + 1)))] _
          refine v_goto (hi_X12_beside_75 hT) ?_
          refine v_ret (hi_X12_beside_79 hT) (Or.inl rfl) ?_
          exact k4 hc3 hc7 hc12 hc15 hc21 hc24
theorem qr_bes1 {D : zD} {T : zT} (hT : hTab T) (hO : vOK T) {N : Nat} {h : zH} {Q : zR → Prop} {P : PT} {n x y : Nat} (hv0 : zHv h) (c0 : h 126 0 = (0, P 0 0)) (c1 : h 126 1 = (0, P 0 1)) (lb : lB P) (hn : n < 48) (hw : 0 < P 0 0 ∧ P 0 0 ≤ 8) (hr : 0 ≤ P 0 1 ∧ P 0 1 ≤ 6) (hx : (n : Int) % P 0 0 = (x : Int)) (hy : (n : Int) / P 0 0 = (y : Int)) (bx : x < 8) (by_ : y < 6)
    (k0 : ((P 0 0) ≠ 0) → ((P 0 0) ≠ 0) → (((x : Int) + 0) < 0) → Q (h, some (0, -1)))
    (k1 : ((P 0 0) ≠ 0) → ((P 0 0) ≠ 0) → (0 ≤ ((x : Int) + 0)) → (((P 0 0) - 1) < ((x : Int) + 0)) → Q (h, some (0, -1)))
    (k2 : ((P 0 0) ≠ 0) → ((P 0 0) ≠ 0) → (0 ≤ ((x : Int) + 0)) → (((x : Int) + 0) ≤ ((P 0 0) - 1)) → (((y : Int) + 1) < 0) → Q (h, some (0, -1)))
    (k3 : ((P 0 0) ≠ 0) → ((P 0 0) ≠ 0) → (0 ≤ ((x : Int) + 0)) → (((x : Int) + 0) ≤ ((P 0 0) - 1)) → (0 ≤ ((y : Int) + 1)) → (((P 0 1) - 1) < ((y : Int) + 1)) → Q (h, some (0, -1)))
    (k4 : ((P 0 0) ≠ 0) → ((P 0 0) ≠ 0) → (0 ≤ ((x : Int) + 0)) → (((x : Int) + 0) ≤ ((P 0 0) - 1)) → (0 ≤ ((y : Int) + 1)) → (((y : Int) + 1) ≤ ((P 0 1) - 1)) → Q (h, some (0, ((P 0 0) * ((y : Int) + 1) + ((x : Int) + 0))))) :
    vP D T N 200 0 h [some (2, 121), some (0, (n : Int)), some (0, 1), none, none] [] Q := by
  refine v_load (v := (0, (n : Int))) (hi_X12_beside_0 hT) rfl rfl ?_
  refine v_load (v := (2, 121)) (hi_X12_beside_1 hT) rfl rfl ?_
  refine v_getR (c := 126) (r := 121) (hi_X12_beside_2 hT) rfl rfl rfl ?_
  refine v_push (0) (hi_X12_beside_5 hT) rfl ?_
  refine v_aldV (v := (0, (P 0 0))) (r := 126) (hi_X12_beside_6 hT) rfl rfl (fun _ _ _ => c0) (fun ha1 hb2 => ?_)
  refine v_div (w := (x : Int)) (hi_X12_beside_7 hT) (fun _ => (hq_rem (by omega) (by omega) (by omega) (by omega)).trans hx) (fun hc3 => ?_)
  refine v_load (v := (0, 1)) (hi_X12_beside_8 hT) rfl rfl ?_
  refine v_if (hi_X12_beside_9 hT) (fun hc4 => absurd (show (1 : Int) = 0 from hc4) (by decide)) (fun _ => ?_)
  refine v_load (v := (0, 1)) (hz_X12_beside hT _ _ rfl) rfl rfl ?_
  refine v_push (2) (hz_X12_beside hT _ _ rfl) rfl ?_
  refine v_ic (hz_X12_beside hT _ _ rfl) (fun hc5 => absurd (show (1 : Int) = 2 from hc5) (by decide)) (fun _ => ?_)
  refine v_push (0) (hz_X12_beside hT _ _ rfl) rfl ?_
  refine v_bin (w := ((x : Int) + 0)) (hi_X12_beside_26 hT) (hq_add (by omega) (by omega)) ?_
  refine v_store1 [some (2, 121), some (0, (n : Int)), some (0, 1), some (0, ((x : Int) + 0)), none] (hi_X12_beside_27 hT) ⟨rfl, Nat.ne_of_beq_eq_false rfl⟩ (Nat.le_of_ble_eq_true rfl) rfl ?_
  refine v_load (v := (0, (n : Int))) (hi_X12_beside_28 hT) rfl rfl ?_
  refine v_load (v := (2, 121)) (hi_X12_beside_29 hT) rfl rfl ?_
  refine v_getR (c := 126) (r := 121) (hi_X12_beside_30 hT) rfl rfl rfl ?_
  refine v_push (0) (hi_X12_beside_33 hT) rfl ?_
  refine v_aldV (v := (0, (P 0 0))) (r := 126) (hi_X12_beside_34 hT) rfl rfl (fun _ _ _ => c0) (fun ha6 hb7 => ?_)
  refine v_div (w := (y : Int)) (hi_X12_beside_35 hT) (fun _ => (hq_quo (by omega) (by omega) (by omega) (by omega)).trans hy) (fun hc8 => ?_)
  refine v_load (v := (0, 1)) (hi_X12_beside_36 hT) rfl rfl ?_
  refine v_push (1) (hi_X12_beside_37 hT) rfl ?_
  refine v_ic (hi_X12_beside_38 hT) (fun _ => ?_) (fun hc9 => absurd (show (1 : Int) = 1 from (by decide)) hc9)
  refine v_push (1) (hz_X12_beside hT _ _ rfl) rfl ?_
  refine v_goto (hz_X12_beside hT _ _ rfl) ?_
  refine v_bin (w := ((y : Int) + 1)) (hi_X12_beside_55 hT) (hq_add (by omega) (by omega)) ?_
  refine v_store1 [some (2, 121), some (0, (n : Int)), some (0, 1), some (0, ((x : Int) + 0)), some (0, ((y : Int) + 1))] (hi_X12_beside_56 hT) ⟨rfl, Nat.ne_of_beq_eq_false rfl⟩ (Nat.le_of_ble_eq_true rfl) rfl ?_
  refine v_load (v := (2, 121)) (hi_X12_beside_58 hT) rfl rfl ?_
  refine v_load (v := (0, ((x : Int) + 0))) (hi_X12_beside_59 hT) rfl rfl ?_
  refine v_load (v := (0, ((y : Int) + 1))) (hi_X12_beside_60 hT) rfl rfl ?_
  refine v_call (w := 3) [some (2, 121), some (0, ((x : Int) + 0)), some (0, ((y : Int) + 1))] hO (hi_X12_beside_62 hT) rfl rfl ?_
  refine v_load (v := (0, ((x : Int) + 0))) (hi_X12_isCell_0 hT) rfl rfl ?_
  refine v_i2l (hi_X12_isCell_1 hT) ?_
  refine v_push (0) (hi_X12_isCell_2 hT) rfl ?_
  refine v_load (v := (2, 121)) (hi_X12_isCell_3 hT) rfl rfl ?_
  refine v_getR (c := 126) (r := 121) (hi_X12_isCell_4 hT) rfl rfl rfl ?_
  refine v_push (0) (hi_X12_isCell_7 hT) rfl ?_
  refine v_aldV (v := (0, (P 0 0))) (r := 126) (hi_X12_isCell_8 hT) rfl rfl (fun _ _ _ => c0) (fun ha10 hb11 => ?_)
  refine v_push (1) (hi_X12_isCell_9 hT) rfl ?_
  refine v_bin (w := ((P 0 0) - 1)) (hi_X12_isCell_10 hT) (hq_sub (by omega) (by omega)) ?_
  refine v_i2l (hi_X12_isCell_11 hT) ?_
  refine v_call (w := 6) [some (1, ((x : Int) + 0)), none, some (1, 0), none, some (1, ((P 0 0) - 1)), none] hO (hi_X12_isCell_12 hT) rfl rfl ?_
  refine v_load (v := (1, ((x : Int) + 0))) (hi_X12_isIn_0 hT) rfl rfl ?_
  refine v_load (v := (1, 0)) (hi_X12_isIn_1 hT) rfl rfl ?_
  refine v_lif (hi_X12_isIn_2 hT) (hi_X12_isIn_3 hT) (fun hc12 => ?_) (fun hc12 => ?_)
  · have hc12 : ((x : Int) + 0) < 0 := hc12
    refine v_push (0) (hi_X12_isIn_17 hT) rfl ?_
    refine v_ret (hi_X12_isIn_18 hT) (Or.inl rfl) ?_
    show vP D T N 244 15 h [some (2, 121), some (0, ((x : Int) + 0)), some (0, ((y : Int) + 1))] [(0, 0)] _
    refine v_if (hi_X12_isCell_15 hT) (fun _ => ?_) (fun hc13 => absurd (show (0 : Int) = 0 from (by decide)) hc13)
    refine v_push (0) (hi_X12_isCell_40 hT) rfl ?_
    refine v_ret (hi_X12_isCell_41 hT) (Or.inl rfl) ?_
    show vP D T N 200 65 h [some (2, 121), some (0, (n : Int)), some (0, 1), some (0, ((x : Int) + 0)), some (0, ((y : Int) + 1))] [(0, 0)] _
    refine v_if (hi_X12_beside_65 hT) (fun _ => ?_) (fun hc14 => absurd (show (0 : Int) = 0 from (by decide)) hc14)
    refine v_push (-1) (hi_X12_beside_78 hT) rfl ?_
    refine v_ret (hi_X12_beside_79 hT) (Or.inl rfl) ?_
    exact k0 hc3 hc8 hc12
  · have hc12 : 0 ≤ ((x : Int) + 0) := Int.not_lt.mp hc12
    refine v_load (v := (1, ((x : Int) + 0))) (hi_X12_isIn_6 hT) rfl rfl ?_
    refine v_load (v := (1, ((P 0 0) - 1))) (hi_X12_isIn_7 hT) rfl rfl ?_
    refine v_lif (hi_X12_isIn_9 hT) (hi_X12_isIn_10 hT) (fun hc15 => ?_) (fun hc15 => ?_)
    · have hc15 : ((P 0 0) - 1) < ((x : Int) + 0) := hc15
      refine v_push (0) (hi_X12_isIn_17 hT) rfl ?_
      refine v_ret (hi_X12_isIn_18 hT) (Or.inl rfl) ?_
      show vP D T N 244 15 h [some (2, 121), some (0, ((x : Int) + 0)), some (0, ((y : Int) + 1))] [(0, 0)] _
      refine v_if (hi_X12_isCell_15 hT) (fun _ => ?_) (fun hc16 => absurd (show (0 : Int) = 0 from (by decide)) hc16)
      refine v_push (0) (hi_X12_isCell_40 hT) rfl ?_
      refine v_ret (hi_X12_isCell_41 hT) (Or.inl rfl) ?_
      show vP D T N 200 65 h [some (2, 121), some (0, (n : Int)), some (0, 1), some (0, ((x : Int) + 0)), some (0, ((y : Int) + 1))] [(0, 0)] _
      refine v_if (hi_X12_beside_65 hT) (fun _ => ?_) (fun hc17 => absurd (show (0 : Int) = 0 from (by decide)) hc17)
      refine v_push (-1) (hi_X12_beside_78 hT) rfl ?_
      refine v_ret (hi_X12_beside_79 hT) (Or.inl rfl) ?_
      exact k1 hc3 hc8 hc12 hc15
    · have hc15 : ((x : Int) + 0) ≤ ((P 0 0) - 1) := Int.not_lt.mp hc15
      refine v_push (1) (hi_X12_isIn_13 hT) rfl ?_
      refine v_goto (hi_X12_isIn_14 hT) ?_
      refine v_ret (hi_X12_isIn_18 hT) (Or.inl rfl) ?_
      show vP D T N 244 15 h [some (2, 121), some (0, ((x : Int) + 0)), some (0, ((y : Int) + 1))] [(0, 1)] _
      refine v_if (hi_X12_isCell_15 hT) (fun hc18 => absurd (show (1 : Int) = 0 from hc18) (by decide)) (fun _ => ?_)
      refine v_load (v := (0, ((y : Int) + 1))) (hi_X12_isCell_18 hT) rfl rfl ?_
      refine v_i2l (hi_X12_isCell_19 hT) ?_
      refine v_push (0) (hi_X12_isCell_20 hT) rfl ?_
      refine v_load (v := (2, 121)) (hi_X12_isCell_21 hT) rfl rfl ?_
      refine v_getR (c := 126) (r := 121) (hi_X12_isCell_22 hT) rfl rfl rfl ?_
      refine v_push (1) (hi_X12_isCell_25 hT) rfl ?_
      refine v_aldV (v := (0, (P 0 1))) (r := 126) (hi_X12_isCell_26 hT) rfl rfl (fun _ _ _ => c1) (fun ha19 hb20 => ?_)
      refine v_push (1) (hi_X12_isCell_27 hT) rfl ?_
      refine v_bin (w := ((P 0 1) - 1)) (hi_X12_isCell_28 hT) (hq_sub (by omega) (by omega)) ?_
      refine v_i2l (hi_X12_isCell_29 hT) ?_
      refine v_call (w := 6) [some (1, ((y : Int) + 1)), none, some (1, 0), none, some (1, ((P 0 1) - 1)), none] hO (hi_X12_isCell_30 hT) rfl rfl ?_
      refine v_load (v := (1, ((y : Int) + 1))) (hi_X12_isIn_0 hT) rfl rfl ?_
      refine v_load (v := (1, 0)) (hi_X12_isIn_1 hT) rfl rfl ?_
      refine v_lif (hi_X12_isIn_2 hT) (hi_X12_isIn_3 hT) (fun hc21 => ?_) (fun hc21 => ?_)
      · have hc21 : ((y : Int) + 1) < 0 := hc21
        refine v_push (0) (hi_X12_isIn_17 hT) rfl ?_
        refine v_ret (hi_X12_isIn_18 hT) (Or.inl rfl) ?_
        show vP D T N 244 33 h [some (2, 121), some (0, ((x : Int) + 0)), some (0, ((y : Int) + 1))] [(0, 0)] _
        refine v_if (hi_X12_isCell_33 hT) (fun _ => ?_) (fun hc22 => absurd (show (0 : Int) = 0 from (by decide)) hc22)
        refine v_push (0) (hi_X12_isCell_40 hT) rfl ?_
        refine v_ret (hi_X12_isCell_41 hT) (Or.inl rfl) ?_
        show vP D T N 200 65 h [some (2, 121), some (0, (n : Int)), some (0, 1), some (0, ((x : Int) + 0)), some (0, ((y : Int) + 1))] [(0, 0)] _
        refine v_if (hi_X12_beside_65 hT) (fun _ => ?_) (fun hc23 => absurd (show (0 : Int) = 0 from (by decide)) hc23)
        refine v_push (-1) (hi_X12_beside_78 hT) rfl ?_
        refine v_ret (hi_X12_beside_79 hT) (Or.inl rfl) ?_
        exact k2 hc3 hc8 hc12 hc15 hc21
      · have hc21 : 0 ≤ ((y : Int) + 1) := Int.not_lt.mp hc21
        refine v_load (v := (1, ((y : Int) + 1))) (hi_X12_isIn_6 hT) rfl rfl ?_
        refine v_load (v := (1, ((P 0 1) - 1))) (hi_X12_isIn_7 hT) rfl rfl ?_
        refine v_lif (hi_X12_isIn_9 hT) (hi_X12_isIn_10 hT) (fun hc24 => ?_) (fun hc24 => ?_)
        · have hc24 : ((P 0 1) - 1) < ((y : Int) + 1) := hc24
          refine v_push (0) (hi_X12_isIn_17 hT) rfl ?_
          refine v_ret (hi_X12_isIn_18 hT) (Or.inl rfl) ?_
          show vP D T N 244 33 h [some (2, 121), some (0, ((x : Int) + 0)), some (0, ((y : Int) + 1))] [(0, 0)] _
          refine v_if (hi_X12_isCell_33 hT) (fun _ => ?_) (fun hc25 => absurd (show (0 : Int) = 0 from (by decide)) hc25)
          refine v_push (0) (hi_X12_isCell_40 hT) rfl ?_
          refine v_ret (hi_X12_isCell_41 hT) (Or.inl rfl) ?_
          show vP D T N 200 65 h [some (2, 121), some (0, (n : Int)), some (0, 1), some (0, ((x : Int) + 0)), some (0, ((y : Int) + 1))] [(0, 0)] _
          refine v_if (hi_X12_beside_65 hT) (fun _ => ?_) (fun hc26 => absurd (show (0 : Int) = 0 from (by decide)) hc26)
          refine v_push (-1) (hi_X12_beside_78 hT) rfl ?_
          refine v_ret (hi_X12_beside_79 hT) (Or.inl rfl) ?_
          exact k3 hc3 hc8 hc12 hc15 hc21 hc24
        · have hc24 : ((y : Int) + 1) ≤ ((P 0 1) - 1) := Int.not_lt.mp hc24
          refine v_push (1) (hi_X12_isIn_13 hT) rfl ?_
          refine v_goto (hi_X12_isIn_14 hT) ?_
          refine v_ret (hi_X12_isIn_18 hT) (Or.inl rfl) ?_
          show vP D T N 244 33 h [some (2, 121), some (0, ((x : Int) + 0)), some (0, ((y : Int) + 1))] [(0, 1)] _
          refine v_if (hi_X12_isCell_33 hT) (fun hc27 => absurd (show (1 : Int) = 0 from hc27) (by decide)) (fun _ => ?_)
          refine v_push (1) (hi_X12_isCell_36 hT) rfl ?_
          refine v_goto (hi_X12_isCell_37 hT) ?_
          refine v_ret (hi_X12_isCell_41 hT) (Or.inl rfl) ?_
          show vP D T N 200 65 h [some (2, 121), some (0, (n : Int)), some (0, 1), some (0, ((x : Int) + 0)), some (0, ((y : Int) + 1))] [(0, 1)] _
          refine v_if (hi_X12_beside_65 hT) (fun hc28 => absurd (show (1 : Int) = 0 from hc28) (by decide)) (fun _ => ?_)
          refine v_load (v := (2, 121)) (hi_X12_beside_68 hT) rfl rfl ?_
          refine v_load (v := (0, ((x : Int) + 0))) (hi_X12_beside_69 hT) rfl rfl ?_
          refine v_load (v := (0, ((y : Int) + 1))) (hi_X12_beside_70 hT) rfl rfl ?_
          refine v_call (w := 3) [some (2, 121), some (0, ((x : Int) + 0)), some (0, ((y : Int) + 1))] hO (hi_X12_beside_72 hT) rfl rfl (rb_at2 hT hO (((x : Int) + 0)) (((y : Int) + 1)) (by omega) (by omega) c0 lb ?_)
          show vP D T N 200 75 h [some (2, 121), some (0, (n : Int)), some (0, 1), some (0, ((x : Int) + 0)), some (0, ((y : Int) + 1))] [(0, ((P 0 0) * ((y : Int) + 1) + ((x : Int) + 0)))] _
          refine v_goto (hi_X12_beside_75 hT) ?_
          refine v_ret (hi_X12_beside_79 hT) (Or.inl rfl) ?_
          exact k4 hc3 hc8 hc12 hc15 hc21 hc24
theorem qr_bes2 {D : zD} {T : zT} (hT : hTab T) (hO : vOK T) {N : Nat} {h : zH} {Q : zR → Prop} {P : PT} {n x y : Nat} (hv0 : zHv h) (c0 : h 126 0 = (0, P 0 0)) (c1 : h 126 1 = (0, P 0 1)) (lb : lB P) (hn : n < 48) (hw : 0 < P 0 0 ∧ P 0 0 ≤ 8) (hr : 0 ≤ P 0 1 ∧ P 0 1 ≤ 6) (hx : (n : Int) % P 0 0 = (x : Int)) (hy : (n : Int) / P 0 0 = (y : Int)) (bx : x < 8) (by_ : y < 6)
    (k0 : ((P 0 0) ≠ 0) → ((P 0 0) ≠ 0) → (((x : Int) + -1) < 0) → Q (h, some (0, -1)))
    (k1 : ((P 0 0) ≠ 0) → ((P 0 0) ≠ 0) → (0 ≤ ((x : Int) + -1)) → (((P 0 0) - 1) < ((x : Int) + -1)) → Q (h, some (0, -1)))
    (k2 : ((P 0 0) ≠ 0) → ((P 0 0) ≠ 0) → (0 ≤ ((x : Int) + -1)) → (((x : Int) + -1) ≤ ((P 0 0) - 1)) → (((y : Int) + 0) < 0) → Q (h, some (0, -1)))
    (k3 : ((P 0 0) ≠ 0) → ((P 0 0) ≠ 0) → (0 ≤ ((x : Int) + -1)) → (((x : Int) + -1) ≤ ((P 0 0) - 1)) → (0 ≤ ((y : Int) + 0)) → (((P 0 1) - 1) < ((y : Int) + 0)) → Q (h, some (0, -1)))
    (k4 : ((P 0 0) ≠ 0) → ((P 0 0) ≠ 0) → (0 ≤ ((x : Int) + -1)) → (((x : Int) + -1) ≤ ((P 0 0) - 1)) → (0 ≤ ((y : Int) + 0)) → (((y : Int) + 0) ≤ ((P 0 1) - 1)) → Q (h, some (0, ((P 0 0) * ((y : Int) + 0) + ((x : Int) + -1))))) :
    vP D T N 200 0 h [some (2, 121), some (0, (n : Int)), some (0, 2), none, none] [] Q := by
  refine v_load (v := (0, (n : Int))) (hi_X12_beside_0 hT) rfl rfl ?_
  refine v_load (v := (2, 121)) (hi_X12_beside_1 hT) rfl rfl ?_
  refine v_getR (c := 126) (r := 121) (hi_X12_beside_2 hT) rfl rfl rfl ?_
  refine v_push (0) (hi_X12_beside_5 hT) rfl ?_
  refine v_aldV (v := (0, (P 0 0))) (r := 126) (hi_X12_beside_6 hT) rfl rfl (fun _ _ _ => c0) (fun ha1 hb2 => ?_)
  refine v_div (w := (x : Int)) (hi_X12_beside_7 hT) (fun _ => (hq_rem (by omega) (by omega) (by omega) (by omega)).trans hx) (fun hc3 => ?_)
  refine v_load (v := (0, 2)) (hi_X12_beside_8 hT) rfl rfl ?_
  refine v_if (hi_X12_beside_9 hT) (fun hc4 => absurd (show (2 : Int) = 0 from hc4) (by decide)) (fun _ => ?_)
  refine v_load (v := (0, 2)) (hz_X12_beside hT _ _ rfl) rfl rfl ?_
  refine v_push (2) (hz_X12_beside hT _ _ rfl) rfl ?_
  refine v_ic (hz_X12_beside hT _ _ rfl) (fun _ => ?_) (fun hc5 => absurd (show (2 : Int) = 2 from (by decide)) hc5)
  refine v_push (-1) (hz_X12_beside hT _ _ rfl) rfl ?_
  refine v_goto (hz_X12_beside hT _ _ rfl) ?_
  refine v_bin (w := ((x : Int) + -1)) (hi_X12_beside_26 hT) (hq_add (by omega) (by omega)) ?_
  refine v_store1 [some (2, 121), some (0, (n : Int)), some (0, 2), some (0, ((x : Int) + -1)), none] (hi_X12_beside_27 hT) ⟨rfl, Nat.ne_of_beq_eq_false rfl⟩ (Nat.le_of_ble_eq_true rfl) rfl ?_
  refine v_load (v := (0, (n : Int))) (hi_X12_beside_28 hT) rfl rfl ?_
  refine v_load (v := (2, 121)) (hi_X12_beside_29 hT) rfl rfl ?_
  refine v_getR (c := 126) (r := 121) (hi_X12_beside_30 hT) rfl rfl rfl ?_
  refine v_push (0) (hi_X12_beside_33 hT) rfl ?_
  refine v_aldV (v := (0, (P 0 0))) (r := 126) (hi_X12_beside_34 hT) rfl rfl (fun _ _ _ => c0) (fun ha6 hb7 => ?_)
  refine v_div (w := (y : Int)) (hi_X12_beside_35 hT) (fun _ => (hq_quo (by omega) (by omega) (by omega) (by omega)).trans hy) (fun hc8 => ?_)
  refine v_load (v := (0, 2)) (hi_X12_beside_36 hT) rfl rfl ?_
  refine v_push (1) (hi_X12_beside_37 hT) rfl ?_
  refine v_ic (hi_X12_beside_38 hT) (fun hc9 => absurd (show (2 : Int) = 1 from hc9) (by decide)) (fun _ => ?_)
  refine v_load (v := (0, 2)) (hz_X12_beside hT _ _ rfl) rfl rfl ?_
  refine v_push (3) (hz_X12_beside hT _ _ rfl) rfl ?_
  refine v_ic (hz_X12_beside hT _ _ rfl) (fun hc10 => absurd (show (2 : Int) = 3 from hc10) (by decide)) (fun _ => ?_)
  refine v_push (0) (hz_X12_beside hT _ _ rfl) rfl ?_
  refine v_bin (w := ((y : Int) + 0)) (hi_X12_beside_55 hT) (hq_add (by omega) (by omega)) ?_
  refine v_store1 [some (2, 121), some (0, (n : Int)), some (0, 2), some (0, ((x : Int) + -1)), some (0, ((y : Int) + 0))] (hi_X12_beside_56 hT) ⟨rfl, Nat.ne_of_beq_eq_false rfl⟩ (Nat.le_of_ble_eq_true rfl) rfl ?_
  refine v_load (v := (2, 121)) (hi_X12_beside_58 hT) rfl rfl ?_
  refine v_load (v := (0, ((x : Int) + -1))) (hi_X12_beside_59 hT) rfl rfl ?_
  refine v_load (v := (0, ((y : Int) + 0))) (hi_X12_beside_60 hT) rfl rfl ?_
  refine v_call (w := 3) [some (2, 121), some (0, ((x : Int) + -1)), some (0, ((y : Int) + 0))] hO (hi_X12_beside_62 hT) rfl rfl ?_
  refine v_load (v := (0, ((x : Int) + -1))) (hi_X12_isCell_0 hT) rfl rfl ?_
  refine v_i2l (hi_X12_isCell_1 hT) ?_
  refine v_push (0) (hi_X12_isCell_2 hT) rfl ?_
  refine v_load (v := (2, 121)) (hi_X12_isCell_3 hT) rfl rfl ?_
  refine v_getR (c := 126) (r := 121) (hi_X12_isCell_4 hT) rfl rfl rfl ?_
  refine v_push (0) (hi_X12_isCell_7 hT) rfl ?_
  refine v_aldV (v := (0, (P 0 0))) (r := 126) (hi_X12_isCell_8 hT) rfl rfl (fun _ _ _ => c0) (fun ha11 hb12 => ?_)
  refine v_push (1) (hi_X12_isCell_9 hT) rfl ?_
  refine v_bin (w := ((P 0 0) - 1)) (hi_X12_isCell_10 hT) (hq_sub (by omega) (by omega)) ?_
  refine v_i2l (hi_X12_isCell_11 hT) ?_
  refine v_call (w := 6) [some (1, ((x : Int) + -1)), none, some (1, 0), none, some (1, ((P 0 0) - 1)), none] hO (hi_X12_isCell_12 hT) rfl rfl ?_
  refine v_load (v := (1, ((x : Int) + -1))) (hi_X12_isIn_0 hT) rfl rfl ?_
  refine v_load (v := (1, 0)) (hi_X12_isIn_1 hT) rfl rfl ?_
  refine v_lif (hi_X12_isIn_2 hT) (hi_X12_isIn_3 hT) (fun hc13 => ?_) (fun hc13 => ?_)
  · have hc13 : ((x : Int) + -1) < 0 := hc13
    refine v_push (0) (hi_X12_isIn_17 hT) rfl ?_
    refine v_ret (hi_X12_isIn_18 hT) (Or.inl rfl) ?_
    show vP D T N 244 15 h [some (2, 121), some (0, ((x : Int) + -1)), some (0, ((y : Int) + 0))] [(0, 0)] _
    refine v_if (hi_X12_isCell_15 hT) (fun _ => ?_) (fun hc14 => absurd (show (0 : Int) = 0 from (by decide)) hc14)
    refine v_push (0) (hi_X12_isCell_40 hT) rfl ?_
    refine v_ret (hi_X12_isCell_41 hT) (Or.inl rfl) ?_
    show vP D T N 200 65 h [some (2, 121), some (0, (n : Int)), some (0, 2), some (0, ((x : Int) + -1)), some (0, ((y : Int) + 0))] [(0, 0)] _
    refine v_if (hi_X12_beside_65 hT) (fun _ => ?_) (fun hc15 => absurd (show (0 : Int) = 0 from (by decide)) hc15)
    refine v_push (-1) (hi_X12_beside_78 hT) rfl ?_
    refine v_ret (hi_X12_beside_79 hT) (Or.inl rfl) ?_
    exact k0 hc3 hc8 hc13
  · have hc13 : 0 ≤ ((x : Int) + -1) := Int.not_lt.mp hc13
    refine v_load (v := (1, ((x : Int) + -1))) (hi_X12_isIn_6 hT) rfl rfl ?_
    refine v_load (v := (1, ((P 0 0) - 1))) (hi_X12_isIn_7 hT) rfl rfl ?_
    refine v_lif (hi_X12_isIn_9 hT) (hi_X12_isIn_10 hT) (fun hc16 => ?_) (fun hc16 => ?_)
    · have hc16 : ((P 0 0) - 1) < ((x : Int) + -1) := hc16
      refine v_push (0) (hi_X12_isIn_17 hT) rfl ?_
      refine v_ret (hi_X12_isIn_18 hT) (Or.inl rfl) ?_
      show vP D T N 244 15 h [some (2, 121), some (0, ((x : Int) + -1)), some (0, ((y : Int) + 0))] [(0, 0)] _
      refine v_if (hi_X12_isCell_15 hT) (fun _ => ?_) (fun hc17 => absurd (show (0 : Int) = 0 from (by decide)) hc17)
      refine v_push (0) (hi_X12_isCell_40 hT) rfl ?_
      refine v_ret (hi_X12_isCell_41 hT) (Or.inl rfl) ?_
      show vP D T N 200 65 h [some (2, 121), some (0, (n : Int)), some (0, 2), some (0, ((x : Int) + -1)), some (0, ((y : Int) + 0))] [(0, 0)] _
      refine v_if (hi_X12_beside_65 hT) (fun _ => ?_) (fun hc18 => absurd (show (0 : Int) = 0 from (by decide)) hc18)
      refine v_push (-1) (hi_X12_beside_78 hT) rfl ?_
      refine v_ret (hi_X12_beside_79 hT) (Or.inl rfl) ?_
      exact k1 hc3 hc8 hc13 hc16
    · have hc16 : ((x : Int) + -1) ≤ ((P 0 0) - 1) := Int.not_lt.mp hc16
      refine v_push (1) (hi_X12_isIn_13 hT) rfl ?_
      refine v_goto (hi_X12_isIn_14 hT) ?_
      refine v_ret (hi_X12_isIn_18 hT) (Or.inl rfl) ?_
      show vP D T N 244 15 h [some (2, 121), some (0, ((x : Int) + -1)), some (0, ((y : Int) + 0))] [(0, 1)] _
      refine v_if (hi_X12_isCell_15 hT) (fun hc19 => absurd (show (1 : Int) = 0 from hc19) (by decide)) (fun _ => ?_)
      refine v_load (v := (0, ((y : Int) + 0))) (hi_X12_isCell_18 hT) rfl rfl ?_
      refine v_i2l (hi_X12_isCell_19 hT) ?_
      refine v_push (0) (hi_X12_isCell_20 hT) rfl ?_
      refine v_load (v := (2, 121)) (hi_X12_isCell_21 hT) rfl rfl ?_
      refine v_getR (c := 126) (r := 121) (hi_X12_isCell_22 hT) rfl rfl rfl ?_
      refine v_push (1) (hi_X12_isCell_25 hT) rfl ?_
      refine v_aldV (v := (0, (P 0 1))) (r := 126) (hi_X12_isCell_26 hT) rfl rfl (fun _ _ _ => c1) (fun ha20 hb21 => ?_)
      refine v_push (1) (hi_X12_isCell_27 hT) rfl ?_
      refine v_bin (w := ((P 0 1) - 1)) (hi_X12_isCell_28 hT) (hq_sub (by omega) (by omega)) ?_
      refine v_i2l (hi_X12_isCell_29 hT) ?_
      refine v_call (w := 6) [some (1, ((y : Int) + 0)), none, some (1, 0), none, some (1, ((P 0 1) - 1)), none] hO (hi_X12_isCell_30 hT) rfl rfl ?_
      refine v_load (v := (1, ((y : Int) + 0))) (hi_X12_isIn_0 hT) rfl rfl ?_
      refine v_load (v := (1, 0)) (hi_X12_isIn_1 hT) rfl rfl ?_
      refine v_lif (hi_X12_isIn_2 hT) (hi_X12_isIn_3 hT) (fun hc22 => ?_) (fun hc22 => ?_)
      · have hc22 : ((y : Int) + 0) < 0 := hc22
        refine v_push (0) (hi_X12_isIn_17 hT) rfl ?_
        refine v_ret (hi_X12_isIn_18 hT) (Or.inl rfl) ?_
        show vP D T N 244 33 h [some (2, 121), some (0, ((x : Int) + -1)), some (0, ((y : Int) + 0))] [(0, 0)] _
        refine v_if (hi_X12_isCell_33 hT) (fun _ => ?_) (fun hc23 => absurd (show (0 : Int) = 0 from (by decide)) hc23)
        refine v_push (0) (hi_X12_isCell_40 hT) rfl ?_
        refine v_ret (hi_X12_isCell_41 hT) (Or.inl rfl) ?_
        show vP D T N 200 65 h [some (2, 121), some (0, (n : Int)), some (0, 2), some (0, ((x : Int) + -1)), some (0, ((y : Int) + 0))] [(0, 0)] _
        refine v_if (hi_X12_beside_65 hT) (fun _ => ?_) (fun hc24 => absurd (show (0 : Int) = 0 from (by decide)) hc24)
        refine v_push (-1) (hi_X12_beside_78 hT) rfl ?_
        refine v_ret (hi_X12_beside_79 hT) (Or.inl rfl) ?_
        exact k2 hc3 hc8 hc13 hc16 hc22
      · have hc22 : 0 ≤ ((y : Int) + 0) := Int.not_lt.mp hc22
        refine v_load (v := (1, ((y : Int) + 0))) (hi_X12_isIn_6 hT) rfl rfl ?_
        refine v_load (v := (1, ((P 0 1) - 1))) (hi_X12_isIn_7 hT) rfl rfl ?_
        refine v_lif (hi_X12_isIn_9 hT) (hi_X12_isIn_10 hT) (fun hc25 => ?_) (fun hc25 => ?_)
        · have hc25 : ((P 0 1) - 1) < ((y : Int) + 0) := hc25
          refine v_push (0) (hi_X12_isIn_17 hT) rfl ?_
          refine v_ret (hi_X12_isIn_18 hT) (Or.inl rfl) ?_
          show vP D T N 244 33 h [some (2, 121), some (0, ((x : Int) + -1)), some (0, ((y : Int) + 0))] [(0, 0)] _
          refine v_if (hi_X12_isCell_33 hT) (fun _ => ?_) (fun hc26 => absurd (show (0 : Int) = 0 from (by decide)) hc26)
          refine v_push (0) (hi_X12_isCell_40 hT) rfl ?_
          refine v_ret (hi_X12_isCell_41 hT) (Or.inl rfl) ?_
          show vP D T N 200 65 h [some (2, 121), some (0, (n : Int)), some (0, 2), some (0, ((x : Int) + -1)), some (0, ((y : Int) + 0))] [(0, 0)] _
          refine v_if (hi_X12_beside_65 hT) (fun _ => ?_) (fun hc27 => absurd (show (0 : Int) = 0 from (by decide)) hc27)
          refine v_push (-1) (hi_X12_beside_78 hT) rfl ?_
          refine v_ret (hi_X12_beside_79 hT) (Or.inl rfl) ?_
          exact k3 hc3 hc8 hc13 hc16 hc22 hc25
        · have hc25 : ((y : Int) + 0) ≤ ((P 0 1) - 1) := Int.not_lt.mp hc25
          refine v_push (1) (hi_X12_isIn_13 hT) rfl ?_
          refine v_goto (hi_X12_isIn_14 hT) ?_
          refine v_ret (hi_X12_isIn_18 hT) (Or.inl rfl) ?_
          show vP D T N 244 33 h [some (2, 121), some (0, ((x : Int) + -1)), some (0, ((y : Int) + 0))] [(0, 1)] _
          refine v_if (hi_X12_isCell_33 hT) (fun hc28 => absurd (show (1 : Int) = 0 from hc28) (by decide)) (fun _ => ?_)
          refine v_push (1) (hi_X12_isCell_36 hT) rfl ?_
          refine v_goto (hi_X12_isCell_37 hT) ?_
          refine v_ret (hi_X12_isCell_41 hT) (Or.inl rfl) ?_
          show vP D T N 200 65 h [some (2, 121), some (0, (n : Int)), some (0, 2), some (0, ((x : Int) + -1)), some (0, ((y : Int) + 0))] [(0, 1)] _
          refine v_if (hi_X12_beside_65 hT) (fun hc29 => absurd (show (1 : Int) = 0 from hc29) (by decide)) (fun _ => ?_)
          refine v_load (v := (2, 121)) (hi_X12_beside_68 hT) rfl rfl ?_
          refine v_load (v := (0, ((x : Int) + -1))) (hi_X12_beside_69 hT) rfl rfl ?_
          refine v_load (v := (0, ((y : Int) + 0))) (hi_X12_beside_70 hT) rfl rfl ?_
          refine v_call (w := 3) [some (2, 121), some (0, ((x : Int) + -1)), some (0, ((y : Int) + 0))] hO (hi_X12_beside_72 hT) rfl rfl (rb_at2 hT hO (((x : Int) + -1)) (((y : Int) + 0)) (by omega) (by omega) c0 lb ?_)
          show vP D T N 200 75 h [some (2, 121), some (0, (n : Int)), some (0, 2), some (0, ((x : Int) + -1)), some (0, ((y : Int) + 0))] [(0, ((P 0 0) * ((y : Int) + 0) + ((x : Int) + -1)))] _
          refine v_goto (hi_X12_beside_75 hT) ?_
          refine v_ret (hi_X12_beside_79 hT) (Or.inl rfl) ?_
          exact k4 hc3 hc8 hc13 hc16 hc22 hc25
theorem qr_bes3 {D : zD} {T : zT} (hT : hTab T) (hO : vOK T) {N : Nat} {h : zH} {Q : zR → Prop} {P : PT} {n x y : Nat} (hv0 : zHv h) (c0 : h 126 0 = (0, P 0 0)) (c1 : h 126 1 = (0, P 0 1)) (lb : lB P) (hn : n < 48) (hw : 0 < P 0 0 ∧ P 0 0 ≤ 8) (hr : 0 ≤ P 0 1 ∧ P 0 1 ≤ 6) (hx : (n : Int) % P 0 0 = (x : Int)) (hy : (n : Int) / P 0 0 = (y : Int)) (bx : x < 8) (by_ : y < 6)
    (k0 : ((P 0 0) ≠ 0) → ((P 0 0) ≠ 0) → (((x : Int) + 0) < 0) → Q (h, some (0, -1)))
    (k1 : ((P 0 0) ≠ 0) → ((P 0 0) ≠ 0) → (0 ≤ ((x : Int) + 0)) → (((P 0 0) - 1) < ((x : Int) + 0)) → Q (h, some (0, -1)))
    (k2 : ((P 0 0) ≠ 0) → ((P 0 0) ≠ 0) → (0 ≤ ((x : Int) + 0)) → (((x : Int) + 0) ≤ ((P 0 0) - 1)) → (((y : Int) + -1) < 0) → Q (h, some (0, -1)))
    (k3 : ((P 0 0) ≠ 0) → ((P 0 0) ≠ 0) → (0 ≤ ((x : Int) + 0)) → (((x : Int) + 0) ≤ ((P 0 0) - 1)) → (0 ≤ ((y : Int) + -1)) → (((P 0 1) - 1) < ((y : Int) + -1)) → Q (h, some (0, -1)))
    (k4 : ((P 0 0) ≠ 0) → ((P 0 0) ≠ 0) → (0 ≤ ((x : Int) + 0)) → (((x : Int) + 0) ≤ ((P 0 0) - 1)) → (0 ≤ ((y : Int) + -1)) → (((y : Int) + -1) ≤ ((P 0 1) - 1)) → Q (h, some (0, ((P 0 0) * ((y : Int) + -1) + ((x : Int) + 0))))) :
    vP D T N 200 0 h [some (2, 121), some (0, (n : Int)), some (0, 3), none, none] [] Q := by
  refine v_load (v := (0, (n : Int))) (hi_X12_beside_0 hT) rfl rfl ?_
  refine v_load (v := (2, 121)) (hi_X12_beside_1 hT) rfl rfl ?_
  refine v_getR (c := 126) (r := 121) (hi_X12_beside_2 hT) rfl rfl rfl ?_
  refine v_push (0) (hi_X12_beside_5 hT) rfl ?_
  refine v_aldV (v := (0, (P 0 0))) (r := 126) (hi_X12_beside_6 hT) rfl rfl (fun _ _ _ => c0) (fun ha1 hb2 => ?_)
  refine v_div (w := (x : Int)) (hi_X12_beside_7 hT) (fun _ => (hq_rem (by omega) (by omega) (by omega) (by omega)).trans hx) (fun hc3 => ?_)
  refine v_load (v := (0, 3)) (hi_X12_beside_8 hT) rfl rfl ?_
  refine v_if (hi_X12_beside_9 hT) (fun hc4 => absurd (show (3 : Int) = 0 from hc4) (by decide)) (fun _ => ?_)
  refine v_load (v := (0, 3)) (hz_X12_beside hT _ _ rfl) rfl rfl ?_
  refine v_push (2) (hz_X12_beside hT _ _ rfl) rfl ?_
  refine v_ic (hz_X12_beside hT _ _ rfl) (fun hc5 => absurd (show (3 : Int) = 2 from hc5) (by decide)) (fun _ => ?_)
  refine v_push (0) (hz_X12_beside hT _ _ rfl) rfl ?_
  refine v_bin (w := ((x : Int) + 0)) (hi_X12_beside_26 hT) (hq_add (by omega) (by omega)) ?_
  refine v_store1 [some (2, 121), some (0, (n : Int)), some (0, 3), some (0, ((x : Int) + 0)), none] (hi_X12_beside_27 hT) ⟨rfl, Nat.ne_of_beq_eq_false rfl⟩ (Nat.le_of_ble_eq_true rfl) rfl ?_
  refine v_load (v := (0, (n : Int))) (hi_X12_beside_28 hT) rfl rfl ?_
  refine v_load (v := (2, 121)) (hi_X12_beside_29 hT) rfl rfl ?_
  refine v_getR (c := 126) (r := 121) (hi_X12_beside_30 hT) rfl rfl rfl ?_
  refine v_push (0) (hi_X12_beside_33 hT) rfl ?_
  refine v_aldV (v := (0, (P 0 0))) (r := 126) (hi_X12_beside_34 hT) rfl rfl (fun _ _ _ => c0) (fun ha6 hb7 => ?_)
  refine v_div (w := (y : Int)) (hi_X12_beside_35 hT) (fun _ => (hq_quo (by omega) (by omega) (by omega) (by omega)).trans hy) (fun hc8 => ?_)
  refine v_load (v := (0, 3)) (hi_X12_beside_36 hT) rfl rfl ?_
  refine v_push (1) (hi_X12_beside_37 hT) rfl ?_
  refine v_ic (hi_X12_beside_38 hT) (fun hc9 => absurd (show (3 : Int) = 1 from hc9) (by decide)) (fun _ => ?_)
  refine v_load (v := (0, 3)) (hz_X12_beside hT _ _ rfl) rfl rfl ?_
  refine v_push (3) (hz_X12_beside hT _ _ rfl) rfl ?_
  refine v_ic (hz_X12_beside hT _ _ rfl) (fun _ => ?_) (fun hc10 => absurd (show (3 : Int) = 3 from (by decide)) hc10)
  refine v_push (-1) (hz_X12_beside hT _ _ rfl) rfl ?_
  refine v_goto (hz_X12_beside hT _ _ rfl) ?_
  refine v_bin (w := ((y : Int) + -1)) (hi_X12_beside_55 hT) (hq_add (by omega) (by omega)) ?_
  refine v_store1 [some (2, 121), some (0, (n : Int)), some (0, 3), some (0, ((x : Int) + 0)), some (0, ((y : Int) + -1))] (hi_X12_beside_56 hT) ⟨rfl, Nat.ne_of_beq_eq_false rfl⟩ (Nat.le_of_ble_eq_true rfl) rfl ?_
  refine v_load (v := (2, 121)) (hi_X12_beside_58 hT) rfl rfl ?_
  refine v_load (v := (0, ((x : Int) + 0))) (hi_X12_beside_59 hT) rfl rfl ?_
  refine v_load (v := (0, ((y : Int) + -1))) (hi_X12_beside_60 hT) rfl rfl ?_
  refine v_call (w := 3) [some (2, 121), some (0, ((x : Int) + 0)), some (0, ((y : Int) + -1))] hO (hi_X12_beside_62 hT) rfl rfl ?_
  refine v_load (v := (0, ((x : Int) + 0))) (hi_X12_isCell_0 hT) rfl rfl ?_
  refine v_i2l (hi_X12_isCell_1 hT) ?_
  refine v_push (0) (hi_X12_isCell_2 hT) rfl ?_
  refine v_load (v := (2, 121)) (hi_X12_isCell_3 hT) rfl rfl ?_
  refine v_getR (c := 126) (r := 121) (hi_X12_isCell_4 hT) rfl rfl rfl ?_
  refine v_push (0) (hi_X12_isCell_7 hT) rfl ?_
  refine v_aldV (v := (0, (P 0 0))) (r := 126) (hi_X12_isCell_8 hT) rfl rfl (fun _ _ _ => c0) (fun ha11 hb12 => ?_)
  refine v_push (1) (hi_X12_isCell_9 hT) rfl ?_
  refine v_bin (w := ((P 0 0) - 1)) (hi_X12_isCell_10 hT) (hq_sub (by omega) (by omega)) ?_
  refine v_i2l (hi_X12_isCell_11 hT) ?_
  refine v_call (w := 6) [some (1, ((x : Int) + 0)), none, some (1, 0), none, some (1, ((P 0 0) - 1)), none] hO (hi_X12_isCell_12 hT) rfl rfl ?_
  refine v_load (v := (1, ((x : Int) + 0))) (hi_X12_isIn_0 hT) rfl rfl ?_
  refine v_load (v := (1, 0)) (hi_X12_isIn_1 hT) rfl rfl ?_
  refine v_lif (hi_X12_isIn_2 hT) (hi_X12_isIn_3 hT) (fun hc13 => ?_) (fun hc13 => ?_)
  · have hc13 : ((x : Int) + 0) < 0 := hc13
    refine v_push (0) (hi_X12_isIn_17 hT) rfl ?_
    refine v_ret (hi_X12_isIn_18 hT) (Or.inl rfl) ?_
    show vP D T N 244 15 h [some (2, 121), some (0, ((x : Int) + 0)), some (0, ((y : Int) + -1))] [(0, 0)] _
    refine v_if (hi_X12_isCell_15 hT) (fun _ => ?_) (fun hc14 => absurd (show (0 : Int) = 0 from (by decide)) hc14)
    refine v_push (0) (hi_X12_isCell_40 hT) rfl ?_
    refine v_ret (hi_X12_isCell_41 hT) (Or.inl rfl) ?_
    show vP D T N 200 65 h [some (2, 121), some (0, (n : Int)), some (0, 3), some (0, ((x : Int) + 0)), some (0, ((y : Int) + -1))] [(0, 0)] _
    refine v_if (hi_X12_beside_65 hT) (fun _ => ?_) (fun hc15 => absurd (show (0 : Int) = 0 from (by decide)) hc15)
    refine v_push (-1) (hi_X12_beside_78 hT) rfl ?_
    refine v_ret (hi_X12_beside_79 hT) (Or.inl rfl) ?_
    exact k0 hc3 hc8 hc13
  · have hc13 : 0 ≤ ((x : Int) + 0) := Int.not_lt.mp hc13
    refine v_load (v := (1, ((x : Int) + 0))) (hi_X12_isIn_6 hT) rfl rfl ?_
    refine v_load (v := (1, ((P 0 0) - 1))) (hi_X12_isIn_7 hT) rfl rfl ?_
    refine v_lif (hi_X12_isIn_9 hT) (hi_X12_isIn_10 hT) (fun hc16 => ?_) (fun hc16 => ?_)
    · have hc16 : ((P 0 0) - 1) < ((x : Int) + 0) := hc16
      refine v_push (0) (hi_X12_isIn_17 hT) rfl ?_
      refine v_ret (hi_X12_isIn_18 hT) (Or.inl rfl) ?_
      show vP D T N 244 15 h [some (2, 121), some (0, ((x : Int) + 0)), some (0, ((y : Int) + -1))] [(0, 0)] _
      refine v_if (hi_X12_isCell_15 hT) (fun _ => ?_) (fun hc17 => absurd (show (0 : Int) = 0 from (by decide)) hc17)
      refine v_push (0) (hi_X12_isCell_40 hT) rfl ?_
      refine v_ret (hi_X12_isCell_41 hT) (Or.inl rfl) ?_
      show vP D T N 200 65 h [some (2, 121), some (0, (n : Int)), some (0, 3), some (0, ((x : Int) + 0)), some (0, ((y : Int) + -1))] [(0, 0)] _
      refine v_if (hi_X12_beside_65 hT) (fun _ => ?_) (fun hc18 => absurd (show (0 : Int) = 0 from (by decide)) hc18)
      refine v_push (-1) (hi_X12_beside_78 hT) rfl ?_
      refine v_ret (hi_X12_beside_79 hT) (Or.inl rfl) ?_
      exact k1 hc3 hc8 hc13 hc16
    · have hc16 : ((x : Int) + 0) ≤ ((P 0 0) - 1) := Int.not_lt.mp hc16
      refine v_push (1) (hi_X12_isIn_13 hT) rfl ?_
      refine v_goto (hi_X12_isIn_14 hT) ?_
      refine v_ret (hi_X12_isIn_18 hT) (Or.inl rfl) ?_
      show vP D T N 244 15 h [some (2, 121), some (0, ((x : Int) + 0)), some (0, ((y : Int) + -1))] [(0, 1)] _
      refine v_if (hi_X12_isCell_15 hT) (fun hc19 => absurd (show (1 : Int) = 0 from hc19) (by decide)) (fun _ => ?_)
      refine v_load (v := (0, ((y : Int) + -1))) (hi_X12_isCell_18 hT) rfl rfl ?_
      refine v_i2l (hi_X12_isCell_19 hT) ?_
      refine v_push (0) (hi_X12_isCell_20 hT) rfl ?_
      refine v_load (v := (2, 121)) (hi_X12_isCell_21 hT) rfl rfl ?_
      refine v_getR (c := 126) (r := 121) (hi_X12_isCell_22 hT) rfl rfl rfl ?_
      refine v_push (1) (hi_X12_isCell_25 hT) rfl ?_
      refine v_aldV (v := (0, (P 0 1))) (r := 126) (hi_X12_isCell_26 hT) rfl rfl (fun _ _ _ => c1) (fun ha20 hb21 => ?_)
      refine v_push (1) (hi_X12_isCell_27 hT) rfl ?_
      refine v_bin (w := ((P 0 1) - 1)) (hi_X12_isCell_28 hT) (hq_sub (by omega) (by omega)) ?_
      refine v_i2l (hi_X12_isCell_29 hT) ?_
      refine v_call (w := 6) [some (1, ((y : Int) + -1)), none, some (1, 0), none, some (1, ((P 0 1) - 1)), none] hO (hi_X12_isCell_30 hT) rfl rfl ?_
      refine v_load (v := (1, ((y : Int) + -1))) (hi_X12_isIn_0 hT) rfl rfl ?_
      refine v_load (v := (1, 0)) (hi_X12_isIn_1 hT) rfl rfl ?_
      refine v_lif (hi_X12_isIn_2 hT) (hi_X12_isIn_3 hT) (fun hc22 => ?_) (fun hc22 => ?_)
      · have hc22 : ((y : Int) + -1) < 0 := hc22
        refine v_push (0) (hi_X12_isIn_17 hT) rfl ?_
        refine v_ret (hi_X12_isIn_18 hT) (Or.inl rfl) ?_
        show vP D T N 244 33 h [some (2, 121), some (0, ((x : Int) + 0)), some (0, ((y : Int) + -1))] [(0, 0)] _
        refine v_if (hi_X12_isCell_33 hT) (fun _ => ?_) (fun hc23 => absurd (show (0 : Int) = 0 from (by decide)) hc23)
        refine v_push (0) (hi_X12_isCell_40 hT) rfl ?_
        refine v_ret (hi_X12_isCell_41 hT) (Or.inl rfl) ?_
        show vP D T N 200 65 h [some (2, 121), some (0, (n : Int)), some (0, 3), some (0, ((x : Int) + 0)), some (0, ((y : Int) + -1))] [(0, 0)] _
        refine v_if (hi_X12_beside_65 hT) (fun _ => ?_) (fun hc24 => absurd (show (0 : Int) = 0 from (by decide)) hc24)
        refine v_push (-1) (hi_X12_beside_78 hT) rfl ?_
        refine v_ret (hi_X12_beside_79 hT) (Or.inl rfl) ?_
        exact k2 hc3 hc8 hc13 hc16 hc22
      · have hc22 : 0 ≤ ((y : Int) + -1) := Int.not_lt.mp hc22
        refine v_load (v := (1, ((y : Int) + -1))) (hi_X12_isIn_6 hT) rfl rfl ?_
        refine v_load (v := (1, ((P 0 1) - 1))) (hi_X12_isIn_7 hT) rfl rfl ?_
        refine v_lif (hi_X12_isIn_9 hT) (hi_X12_isIn_10 hT) (fun hc25 => ?_) (fun hc25 => ?_)
        · have hc25 : ((P 0 1) - 1) < ((y : Int) + -1) := hc25
          refine v_push (0) (hi_X12_isIn_17 hT) rfl ?_
          refine v_ret (hi_X12_isIn_18 hT) (Or.inl rfl) ?_
          show vP D T N 244 33 h [some (2, 121), some (0, ((x : Int) + 0)), some (0, ((y : Int) + -1))] [(0, 0)] _
          refine v_if (hi_X12_isCell_33 hT) (fun _ => ?_) (fun hc26 => absurd (show (0 : Int) = 0 from (by decide)) hc26)
          refine v_push (0) (hi_X12_isCell_40 hT) rfl ?_
          refine v_ret (hi_X12_isCell_41 hT) (Or.inl rfl) ?_
          show vP D T N 200 65 h [some (2, 121), some (0, (n : Int)), some (0, 3), some (0, ((x : Int) + 0)), some (0, ((y : Int) + -1))] [(0, 0)] _
          refine v_if (hi_X12_beside_65 hT) (fun _ => ?_) (fun hc27 => absurd (show (0 : Int) = 0 from (by decide)) hc27)
          refine v_push (-1) (hi_X12_beside_78 hT) rfl ?_
          refine v_ret (hi_X12_beside_79 hT) (Or.inl rfl) ?_
          exact k3 hc3 hc8 hc13 hc16 hc22 hc25
        · have hc25 : ((y : Int) + -1) ≤ ((P 0 1) - 1) := Int.not_lt.mp hc25
          refine v_push (1) (hi_X12_isIn_13 hT) rfl ?_
          refine v_goto (hi_X12_isIn_14 hT) ?_
          refine v_ret (hi_X12_isIn_18 hT) (Or.inl rfl) ?_
          show vP D T N 244 33 h [some (2, 121), some (0, ((x : Int) + 0)), some (0, ((y : Int) + -1))] [(0, 1)] _
          refine v_if (hi_X12_isCell_33 hT) (fun hc28 => absurd (show (1 : Int) = 0 from hc28) (by decide)) (fun _ => ?_)
          refine v_push (1) (hi_X12_isCell_36 hT) rfl ?_
          refine v_goto (hi_X12_isCell_37 hT) ?_
          refine v_ret (hi_X12_isCell_41 hT) (Or.inl rfl) ?_
          show vP D T N 200 65 h [some (2, 121), some (0, (n : Int)), some (0, 3), some (0, ((x : Int) + 0)), some (0, ((y : Int) + -1))] [(0, 1)] _
          refine v_if (hi_X12_beside_65 hT) (fun hc29 => absurd (show (1 : Int) = 0 from hc29) (by decide)) (fun _ => ?_)
          refine v_load (v := (2, 121)) (hi_X12_beside_68 hT) rfl rfl ?_
          refine v_load (v := (0, ((x : Int) + 0))) (hi_X12_beside_69 hT) rfl rfl ?_
          refine v_load (v := (0, ((y : Int) + -1))) (hi_X12_beside_70 hT) rfl rfl ?_
          refine v_call (w := 3) [some (2, 121), some (0, ((x : Int) + 0)), some (0, ((y : Int) + -1))] hO (hi_X12_beside_72 hT) rfl rfl (rb_at2 hT hO (((x : Int) + 0)) (((y : Int) + -1)) (by omega) (by omega) c0 lb ?_)
          show vP D T N 200 75 h [some (2, 121), some (0, (n : Int)), some (0, 3), some (0, ((x : Int) + 0)), some (0, ((y : Int) + -1))] [(0, ((P 0 0) * ((y : Int) + -1) + ((x : Int) + 0)))] _
          refine v_goto (hi_X12_beside_75 hT) ?_
          refine v_ret (hi_X12_beside_79 hT) (Or.inl rfl) ?_
          exact k4 hc3 hc8 hc13 hc16 hc22 hc25
theorem rb_bes {D : zD} {T : zT} (hT : hTab T) (hO : vOK T) {N : Nat} {h : zH} {Q : zR → Prop} {P : PT} (z : Int) (q d : Nat) (ez : z = (d : Int)) (gq : gIn P q) (hd : d < 4) (c0 : h 126 0 = (0, P 0 0)) (c1 : h 126 1 = (0, P 0 1)) (lb : lB P) (k1 : gNb P q d = -1 → Q (h, some (0, -1))) (k2 : ∀ q2 : Nat, gNb P q d = (q2 : Int) → gIn P q2 → Q (h, some (0, ((gJ P q2 : Nat) : Int)))) : vP D T N 200 0 h [some (2, 121), some (0, ((gJ P q : Nat) : Int)), some (0, z), none, none] [] Q := by
  subst ez
  have e := gNb_xy lb gq hd
  obtain ⟨m1, m2⟩ := gJ_m lb gq
  have y1 : ((0 ≤ ((q % 8 : Nat) : Int) + dX d ∧ ((q % 8 : Nat) : Int) + dX d ≤ P 0 0 - 1) ∧ 0 ≤ ((q / 8 : Nat) : Int) + dY d ∧ ((q / 8 : Nat) : Int) + dY d ≤ P 0 1 - 1) → Q (h, some (0, P 0 0 * (((q / 8 : Nat) : Int) + dY d) + (((q % 8 : Nat) : Int) + dX d))) := fun c => by
    rw [if_pos c] at e
    have := lb.1.2
    rcases (gOk lb).2 q d gq hd with f | ⟨q2, g2, f, _⟩
    · omega
    · rw [gJ_xy lb.1.1 (q2 := q2) ⟨c.1.1, by omega⟩ c.2.1 (by omega)]
      exact k2 q2 f g2
  have y2 : ¬ ((0 ≤ ((q % 8 : Nat) : Int) + dX d ∧ ((q % 8 : Nat) : Int) + dX d ≤ P 0 0 - 1) ∧ 0 ≤ ((q / 8 : Nat) : Int) + dY d ∧ ((q / 8 : Nat) : Int) + dY d ≤ P 0 1 - 1) → Q (h, some (0, -1)) := fun c => by
    rw [if_neg c] at e
    exact k1 e
  clear k1 k2 e
  obtain ⟨g0, g1, g2⟩ := id gq
  have hw : 0 < P 0 0 ∧ P 0 0 ≤ 8 := ⟨by omega, lb.1.2⟩
  have l48 := gJ_lt lb gq
  have : d = 0 ∨ d = 1 ∨ d = 2 ∨ d = 3 := by omega
  rcases this with rfl | rfl | rfl | rfl
  · refine vP_hv (fun hv => qr_bes0 hT hO (x := q % 8) (y := q / 8) hv c0 c1 lb l48 hw lb.2.1 m1 m2 (by omega) (by omega) ?_ ?_ ?_ ?_ ?_) <;> intros
    all_goals first
      | exact y1 (by rw [show dX 0 = 1 from rfl, show dY 0 = 0 from rfl]; omega)
      | exact y2 (fun c => by rw [show dX 0 = 1 from rfl, show dY 0 = 0 from rfl] at c; omega)
  · refine vP_hv (fun hv => qr_bes1 hT hO (x := q % 8) (y := q / 8) hv c0 c1 lb l48 hw lb.2.1 m1 m2 (by omega) (by omega) ?_ ?_ ?_ ?_ ?_) <;> intros
    all_goals first
      | exact y1 (by rw [show dX 1 = 0 from rfl, show dY 1 = 1 from rfl]; omega)
      | exact y2 (fun c => by rw [show dX 1 = 0 from rfl, show dY 1 = 1 from rfl] at c; omega)
  · refine vP_hv (fun hv => qr_bes2 hT hO (x := q % 8) (y := q / 8) hv c0 c1 lb l48 hw lb.2.1 m1 m2 (by omega) (by omega) ?_ ?_ ?_ ?_ ?_) <;> intros
    all_goals first
      | exact y1 (by rw [show dX 2 = -1 from rfl, show dY 2 = 0 from rfl]; omega)
      | exact y2 (fun c => by rw [show dX 2 = -1 from rfl, show dY 2 = 0 from rfl] at c; omega)
  · refine vP_hv (fun hv => qr_bes3 hT hO (x := q % 8) (y := q / 8) hv c0 c1 lb l48 hw lb.2.1 m1 m2 (by omega) (by omega) ?_ ?_ ?_ ?_ ?_) <;> intros
    all_goals first
      | exact y1 (by rw [show dX 3 = 0 from rfl, show dY 3 = -1 from rfl]; omega)
      | exact y2 (fun c => by rw [show dX 3 = 0 from rfl, show dY 3 = -1 from rfl] at c; omega)
theorem qr_cr {D : zD} {T : zT} (hT : hTab T) (hO : vOK T) {N : Nat} {h : zH} {Q : zR → Prop} {P : PT} {q : Nat} (hv0 : zHv h) (hR : rBk 0 P h) (gq : gIn P q) (hn : gJ P q < 48) (b1 : 0 ≤ P 1 q ∧ P 1 q ≤ 4) (b2 : 0 ≤ P 2 q ∧ P 2 q ≤ 9)
    (k0 : (0 ≤ (5 + ((gJ P q : Nat) : Int))) → ((5 + ((gJ P q : Nat) : Int)) < 2750) → ((P 1 q) = 0) → (0 ≤ (53 + ((gJ P q : Nat) : Int))) → ((53 + ((gJ P q : Nat) : Int)) < 2750) → Q (h, some (0, (2 + (P 2 q)))))
    (k1 : (0 ≤ (5 + ((gJ P q : Nat) : Int))) → ((5 + ((gJ P q : Nat) : Int)) < 2750) → ((P 1 q) ≠ 0) → ((P 1 q) = 1) → (0 ≤ (53 + ((gJ P q : Nat) : Int))) → ((53 + ((gJ P q : Nat) : Int)) < 2750) → Q (h, some (0, (1 + (P 2 q)))))
    (k2 : (0 ≤ (5 + ((gJ P q : Nat) : Int))) → ((5 + ((gJ P q : Nat) : Int)) < 2750) → ((P 1 q) ≠ 0) → ((P 1 q) ≠ 1) → ((P 1 q) = 3) → (0 ≤ (53 + ((gJ P q : Nat) : Int))) → ((53 + ((gJ P q : Nat) : Int)) < 2750) → Q (h, some (0, (5 + (P 2 q)))))
    (k3 : (0 ≤ (5 + ((gJ P q : Nat) : Int))) → ((5 + ((gJ P q : Nat) : Int)) < 2750) → ((P 1 q) ≠ 0) → ((P 1 q) ≠ 1) → ((P 1 q) ≠ 3) → ((P 1 q) = 4) → (0 ≤ (53 + ((gJ P q : Nat) : Int))) → ((53 + ((gJ P q : Nat) : Int)) < 2750) → Q (h, some (0, (3 + (P 2 q)))))
    (k4 : (0 ≤ (5 + ((gJ P q : Nat) : Int))) → ((5 + ((gJ P q : Nat) : Int)) < 2750) → ((P 1 q) ≠ 0) → ((P 1 q) ≠ 1) → ((P 1 q) ≠ 3) → ((P 1 q) ≠ 4) → (0 ≤ (53 + ((gJ P q : Nat) : Int))) → ((53 + ((gJ P q : Nat) : Int)) < 2750) → Q (h, some (0, (4 + (P 2 q))))) :
    vP D T N 215 0 h [some (2, 121), some (0, ((gJ P q : Nat) : Int))] [] Q := by
  refine v_load (v := (2, 121)) (hz_X12_crumbsOf hT _ _ rfl) rfl rfl ?_
  refine v_getR (c := 126) (r := 121) (hz_X12_crumbsOf hT _ _ rfl) rfl rfl rfl ?_
  refine v_push (5) (hz_X12_crumbsOf hT _ _ rfl) rfl ?_
  refine v_load (v := (0, ((gJ P q : Nat) : Int))) (hz_X12_crumbsOf hT _ _ rfl) rfl rfl ?_
  refine v_bin (w := (5 + ((gJ P q : Nat) : Int))) (hz_X12_crumbsOf hT _ _ rfl) (hq_add (by omega) (by omega)) ?_
  refine v_aldB (t := 0) (r := 126) (w := (P 1 q)) (hz_X12_crumbsOf hT _ _ rfl) rfl rfl rfl (fun _ _ => (congrArg Prod.snd (hR.l gq))) (fun ha1 hb2 => ?_)
  refine v_call (w := 1) [some (0, (P 1 q))] hO (hz_X12_crumbsOf hT _ _ rfl) rfl rfl ?_
  refine v_load (v := (0, (P 1 q))) (hz_X12_letterCost hT _ _ rfl) rfl rfl ?_
  refine v_if (hz_X12_letterCost hT _ _ rfl) (fun hc3 => ?_) (fun hc3 => ?_)
  · have hc3 : (P 1 q) = 0 := hc3
    refine v_push (2) (hz_X12_letterCost hT _ _ rfl) rfl ?_
    refine v_goto (hz_X12_letterCost hT _ _ rfl) ?_
    refine v_ret (hi_X12_letterCost_36 hT) (Or.inl rfl) ?_
    show vP D T N 215 11 h [some (2, 121), some (0, ((gJ P q : Nat) : Int))] [(0, 2)] _
    refine v_load (v := (2, 121)) (hi_X12_crumbsOf_11 hT) rfl rfl ?_
    refine v_getR (c := 126) (r := 121) (hi_X12_crumbsOf_12 hT) rfl rfl rfl ?_
    refine v_push (53) (hi_X12_crumbsOf_15 hT) rfl ?_
    refine v_load (v := (0, ((gJ P q : Nat) : Int))) (hi_X12_crumbsOf_17 hT) rfl rfl ?_
    refine v_bin (w := (53 + ((gJ P q : Nat) : Int))) (hi_X12_crumbsOf_18 hT) (hq_add (by omega) (by omega)) ?_
    refine v_aldB (t := 0) (r := 126) (w := (P 2 q)) (hi_X12_crumbsOf_19 hT) rfl rfl rfl (fun _ _ => (congrArg Prod.snd (hR.s gq))) (fun ha4 hb5 => ?_)
    refine v_bin (w := (2 + (P 2 q))) (hi_X12_crumbsOf_20 hT) (hq_add (by omega) (by omega)) ?_
    refine v_ret (hi_X12_crumbsOf_21 hT) (Or.inl rfl) ?_
    exact k0 ha1 hb2 hc3 ha4 hb5
  · have hc3 : (P 1 q) ≠ 0 := hc3
    refine v_load (v := (0, (P 1 q))) (hz_X12_letterCost hT _ _ rfl) rfl rfl ?_
    refine v_push (1) (hz_X12_letterCost hT _ _ rfl) rfl ?_
    refine v_ic (hz_X12_letterCost hT _ _ rfl) (fun hc6 => ?_) (fun hc6 => ?_)
    · have hc6 : (P 1 q) = 1 := hc6
      refine v_push (1) (hz_X12_letterCost hT _ _ rfl) rfl ?_
      refine v_goto (hz_X12_letterCost hT _ _ rfl) ?_
      refine v_ret (hi_X12_letterCost_36 hT) (Or.inl rfl) ?_
      show vP D T N 215 11 h [some (2, 121), some (0, ((gJ P q : Nat) : Int))] [(0, 1)] _
      refine v_load (v := (2, 121)) (hi_X12_crumbsOf_11 hT) rfl rfl ?_
      refine v_getR (c := 126) (r := 121) (hi_X12_crumbsOf_12 hT) rfl rfl rfl ?_
      refine v_push (53) (hi_X12_crumbsOf_15 hT) rfl ?_
      refine v_load (v := (0, ((gJ P q : Nat) : Int))) (hi_X12_crumbsOf_17 hT) rfl rfl ?_
      refine v_bin (w := (53 + ((gJ P q : Nat) : Int))) (hi_X12_crumbsOf_18 hT) (hq_add (by omega) (by omega)) ?_
      refine v_aldB (t := 0) (r := 126) (w := (P 2 q)) (hi_X12_crumbsOf_19 hT) rfl rfl rfl (fun _ _ => (congrArg Prod.snd (hR.s gq))) (fun ha7 hb8 => ?_)
      refine v_bin (w := (1 + (P 2 q))) (hi_X12_crumbsOf_20 hT) (hq_add (by omega) (by omega)) ?_
      refine v_ret (hi_X12_crumbsOf_21 hT) (Or.inl rfl) ?_
      exact k1 ha1 hb2 hc3 hc6 ha7 hb8
    · have hc6 : (P 1 q) ≠ 1 := hc6
      refine v_load (v := (0, (P 1 q))) (hz_X12_letterCost hT _ _ rfl) rfl rfl ?_
      refine v_push (3) (hz_X12_letterCost hT _ _ rfl) rfl ?_
      refine v_ic (hz_X12_letterCost hT _ _ rfl) (fun hc9 => ?_) (fun hc9 => ?_)
      · have hc9 : (P 1 q) = 3 := hc9
        refine v_push (5) (hz_X12_letterCost hT _ _ rfl) rfl ?_
        refine v_goto (hz_X12_letterCost hT _ _ rfl) ?_
        refine v_ret (hi_X12_letterCost_36 hT) (Or.inl rfl) ?_
        show vP D T N 215 11 h [some (2, 121), some (0, ((gJ P q : Nat) : Int))] [(0, 5)] _
        refine v_load (v := (2, 121)) (hi_X12_crumbsOf_11 hT) rfl rfl ?_
        refine v_getR (c := 126) (r := 121) (hi_X12_crumbsOf_12 hT) rfl rfl rfl ?_
        refine v_push (53) (hi_X12_crumbsOf_15 hT) rfl ?_
        refine v_load (v := (0, ((gJ P q : Nat) : Int))) (hi_X12_crumbsOf_17 hT) rfl rfl ?_
        refine v_bin (w := (53 + ((gJ P q : Nat) : Int))) (hi_X12_crumbsOf_18 hT) (hq_add (by omega) (by omega)) ?_
        refine v_aldB (t := 0) (r := 126) (w := (P 2 q)) (hi_X12_crumbsOf_19 hT) rfl rfl rfl (fun _ _ => (congrArg Prod.snd (hR.s gq))) (fun ha10 hb11 => ?_)
        refine v_bin (w := (5 + (P 2 q))) (hi_X12_crumbsOf_20 hT) (hq_add (by omega) (by omega)) ?_
        refine v_ret (hi_X12_crumbsOf_21 hT) (Or.inl rfl) ?_
        exact k2 ha1 hb2 hc3 hc6 hc9 ha10 hb11
      · have hc9 : (P 1 q) ≠ 3 := hc9
        refine v_load (v := (0, (P 1 q))) (hz_X12_letterCost hT _ _ rfl) rfl rfl ?_
        refine v_push (4) (hz_X12_letterCost hT _ _ rfl) rfl ?_
        refine v_ic (hz_X12_letterCost hT _ _ rfl) (fun hc12 => ?_) (fun hc12 => ?_)
        · have hc12 : (P 1 q) = 4 := hc12
          refine v_push (3) (hz_X12_letterCost hT _ _ rfl) rfl ?_
          refine v_goto (hz_X12_letterCost hT _ _ rfl) ?_
          refine v_ret (hi_X12_letterCost_36 hT) (Or.inl rfl) ?_
          show vP D T N 215 11 h [some (2, 121), some (0, ((gJ P q : Nat) : Int))] [(0, 3)] _
          refine v_load (v := (2, 121)) (hi_X12_crumbsOf_11 hT) rfl rfl ?_
          refine v_getR (c := 126) (r := 121) (hi_X12_crumbsOf_12 hT) rfl rfl rfl ?_
          refine v_push (53) (hi_X12_crumbsOf_15 hT) rfl ?_
          refine v_load (v := (0, ((gJ P q : Nat) : Int))) (hi_X12_crumbsOf_17 hT) rfl rfl ?_
          refine v_bin (w := (53 + ((gJ P q : Nat) : Int))) (hi_X12_crumbsOf_18 hT) (hq_add (by omega) (by omega)) ?_
          refine v_aldB (t := 0) (r := 126) (w := (P 2 q)) (hi_X12_crumbsOf_19 hT) rfl rfl rfl (fun _ _ => (congrArg Prod.snd (hR.s gq))) (fun ha13 hb14 => ?_)
          refine v_bin (w := (3 + (P 2 q))) (hi_X12_crumbsOf_20 hT) (hq_add (by omega) (by omega)) ?_
          refine v_ret (hi_X12_crumbsOf_21 hT) (Or.inl rfl) ?_
          exact k3 ha1 hb2 hc3 hc6 hc9 hc12 ha13 hb14
        · have hc12 : (P 1 q) ≠ 4 := hc12
          refine v_push (4) (hz_X12_letterCost hT _ _ rfl) rfl ?_
          refine v_ret (hi_X12_letterCost_36 hT) (Or.inl rfl) ?_
          show vP D T N 215 11 h [some (2, 121), some (0, ((gJ P q : Nat) : Int))] [(0, 4)] _
          refine v_load (v := (2, 121)) (hi_X12_crumbsOf_11 hT) rfl rfl ?_
          refine v_getR (c := 126) (r := 121) (hi_X12_crumbsOf_12 hT) rfl rfl rfl ?_
          refine v_push (53) (hi_X12_crumbsOf_15 hT) rfl ?_
          refine v_load (v := (0, ((gJ P q : Nat) : Int))) (hi_X12_crumbsOf_17 hT) rfl rfl ?_
          refine v_bin (w := (53 + ((gJ P q : Nat) : Int))) (hi_X12_crumbsOf_18 hT) (hq_add (by omega) (by omega)) ?_
          refine v_aldB (t := 0) (r := 126) (w := (P 2 q)) (hi_X12_crumbsOf_19 hT) rfl rfl rfl (fun _ _ => (congrArg Prod.snd (hR.s gq))) (fun ha15 hb16 => ?_)
          refine v_bin (w := (4 + (P 2 q))) (hi_X12_crumbsOf_20 hT) (hq_add (by omega) (by omega)) ?_
          refine v_ret (hi_X12_crumbsOf_21 hT) (Or.inl rfl) ?_
          exact k4 ha1 hb2 hc3 hc6 hc9 hc12 ha15 hb16
theorem rb_cr {D : zD} {T : zT} (hT : hTab T) (hO : vOK T) {N : Nat} {h : zH} {Q : zR → Prop} {P : PT} (q : Nat) (gq : gIn P q) (hR : rBk 0 P h) (hb : fB P) (k : Q (h, some (0, gCr P q))) : vP D T N 215 0 h [some (2, 121), some (0, ((gJ P q : Nat) : Int))] [] Q := by
  obtain ⟨b1, b2⟩ := hb.2.1 q gq.1
  refine vP_hv (fun hv => qr_cr hT hO hv hR gq (gJ_lt hb.1 gq) b1 b2 ?_ ?_ ?_ ?_ ?_) <;> (intros; exact cb_eq k (by unfold gCr crw; omega))
theorem qr_st {D : zD} {T : zT} (hT : hTab T) (hO : vOK T) {N : Nat} {h : zH} {Q : zR → Prop} {P : PT} {j q : Nat} (hv0 : zHv h) (hR : rBk 0 P h) (gq : gIn P q) (hj : j < 3) (hn : gJ P q < 48)
    (k0 : (0 ≤ ((101 + (48 * (j : Int))) + ((gJ P q : Nat) : Int))) → (((101 + (48 * (j : Int))) + ((gJ P q : Nat) : Int)) < 2750) → Q (h, some (0, (P 3 (48 * j + q))))) :
    vP D T N 314 0 h [some (2, 121), some (0, (j : Int)), some (0, ((gJ P q : Nat) : Int))] [] Q := by
  refine v_load (v := (2, 121)) (hz_X12_stateOf hT _ _ rfl) rfl rfl ?_
  refine v_getR (c := 126) (r := 121) (hz_X12_stateOf hT _ _ rfl) rfl rfl rfl ?_
  refine v_load (v := (0, (j : Int))) (hz_X12_stateOf hT _ _ rfl) rfl rfl ?_
  refine v_load (v := (0, ((gJ P q : Nat) : Int))) (hz_X12_stateOf hT _ _ rfl) rfl rfl ?_
  refine v_call (w := 2) [some (0, (j : Int)), some (0, ((gJ P q : Nat) : Int))] hO (hz_X12_stateOf hT _ _ rfl) rfl rfl ?_
  refine v_push (101) (hi_X12_state_0 hT) rfl ?_
  refine v_push (48) (hi_X12_state_2 hT) rfl ?_
  refine v_load (v := (0, (j : Int))) (hi_X12_state_4 hT) rfl rfl ?_
  refine v_bin (w := (48 * (j : Int))) (hi_X12_state_5 hT) (hq_mul (by omega) (by omega)) ?_
  refine v_bin (w := (101 + (48 * (j : Int)))) (hi_X12_state_6 hT) (hq_add (by omega) (by omega)) ?_
  refine v_load (v := (0, ((gJ P q : Nat) : Int))) (hi_X12_state_7 hT) rfl rfl ?_
  refine v_bin (w := ((101 + (48 * (j : Int))) + ((gJ P q : Nat) : Int))) (hi_X12_state_8 hT) (hq_add (by omega) (by omega)) ?_
  refine v_ret (hi_X12_state_9 hT) (Or.inl rfl) ?_
  show vP D T N 314 9 h [some (2, 121), some (0, (j : Int)), some (0, ((gJ P q : Nat) : Int))] [(0, ((101 + (48 * (j : Int))) + ((gJ P q : Nat) : Int))), (2, 126)] _
  refine v_aldB (t := 0) (r := 126) (w := (P 3 (48 * j + q))) (hz_X12_stateOf hT _ _ rfl) rfl rfl rfl (fun _ _ => (congrArg Prod.snd (hR.st hj gq))) (fun ha1 hb2 => ?_)
  refine v_ret (hz_X12_stateOf hT _ _ rfl) (Or.inl rfl) ?_
  exact k0 ha1 hb2
theorem rb_st {D : zD} {T : zT} (hT : hTab T) (hO : vOK T) {N : Nat} {h : zH} {Q : zR → Prop} {P : PT} (x : Int) (j q : Nat) (ex : x = (j : Int)) (hj : j < 3) (gq : gIn P q) (hR : rBk 0 P h) (hb : fB P) (k : Q (h, some (0, P 3 (48 * j + q)))) : vP D T N 314 0 h [some (2, 121), some (0, x), some (0, ((gJ P q : Nat) : Int))] [] Q := by
  subst ex
  exact vP_hv (fun hv => qr_st hT hO hv hR gq hj (gJ_lt hb.1 gq) (fun _ _ => k))
theorem qr_co {D : zD} {T : zT} (hT : hTab T) (hO : vOK T) {N : Nat} {h : zH} {Q : zR → Prop} {P : PT} {j q : Nat} (hv0 : zHv h) (hR : rBk 0 P h) (gq : gIn P q) (hj : j < 3) (hn : gJ P q < 48) (hb : fB P) (b2 : 0 ≤ P 2 q ∧ P 2 q ≤ 9)
    (k0 : ((j : Int) < 0) → (0 ≤ (5 + ((gJ P q : Nat) : Int))) → ((5 + ((gJ P q : Nat) : Int)) < 2750) → ((P 1 q) = 3) → Q (h, some (0, 1000000)))
    (k1 : ((j : Int) < 0) → (0 ≤ (5 + ((gJ P q : Nat) : Int))) → ((5 + ((gJ P q : Nat) : Int)) < 2750) → ((P 1 q) ≠ 3) → Q (h, some (0, (gCr P q))))
    (k2 : (0 ≤ (j : Int)) → ((P 3 (48 * j + q)) = 2) → (0 ≤ (53 + ((gJ P q : Nat) : Int))) → ((53 + ((gJ P q : Nat) : Int)) < 2750) → Q (h, some (0, (5 + (P 2 q)))))
    (k3 : (0 ≤ (j : Int)) → ((P 3 (48 * j + q)) ≠ 2) → (0 < (P 3 (48 * j + q))) → Q (h, some (0, 1000000)))
    (k4 : (0 ≤ (j : Int)) → ((P 3 (48 * j + q)) ≠ 2) → ((P 3 (48 * j + q)) ≤ 0) → (0 ≤ (5 + ((gJ P q : Nat) : Int))) → ((5 + ((gJ P q : Nat) : Int)) < 2750) → ((P 1 q) = 3) → Q (h, some (0, 1000000)))
    (k5 : (0 ≤ (j : Int)) → ((P 3 (48 * j + q)) ≠ 2) → ((P 3 (48 * j + q)) ≤ 0) → (0 ≤ (5 + ((gJ P q : Nat) : Int))) → ((5 + ((gJ P q : Nat) : Int)) < 2750) → ((P 1 q) ≠ 3) → Q (h, some (0, (gCr P q)))) :
    vP D T N 212 0 h [some (2, 121), some (0, (j : Int)), some (0, ((gJ P q : Nat) : Int)), none] [] Q := by
  refine v_load (v := (0, (j : Int))) (hz_X12_costOf hT _ _ rfl) rfl rfl ?_
  refine v_if (hz_X12_costOf hT _ _ rfl) (fun hc1 => ?_) (fun hc1 => ?_)
  · have hc1 : (j : Int) < 0 := hc1
    refine v_push (0) (hz_X12_costOf hT _ _ rfl) rfl ?_
    refine v_goto (hz_X12_costOf hT _ _ rfl) ?_
    refine v_store1 [some (2, 121), some (0, (j : Int)), some (0, ((gJ P q : Nat) : Int)), some (0, 0)] (hz_X12_costOf hT _ _ rfl) ⟨rfl, Nat.ne_of_beq_eq_false rfl⟩ (Nat.le_of_ble_eq_true rfl) rfl ?_
    refine v_load (v := (0, 0)) (hz_X12_costOf hT _ _ rfl) rfl rfl ?_
    refine v_push (2) (hz_X12_costOf hT _ _ rfl) rfl ?_
    refine v_ic (hz_X12_costOf hT _ _ rfl) (fun hc2 => absurd (show (0 : Int) = 2 from hc2) (by decide)) (fun _ => ?_)
    refine v_load (v := (0, 0)) (hz_X12_costOf hT _ _ rfl) rfl rfl ?_
    refine v_if (hz_X12_costOf hT _ _ rfl) (fun hc3 => absurd (show 0 < (0 : Int) from hc3) (by decide)) (fun _ => ?_)
    refine v_load (v := (2, 121)) (hz_X12_costOf hT _ _ rfl) rfl rfl ?_
    refine v_getR (c := 126) (r := 121) (hz_X12_costOf hT _ _ rfl) rfl rfl rfl ?_
    refine v_push (5) (hz_X12_costOf hT _ _ rfl) rfl ?_
    refine v_load (v := (0, ((gJ P q : Nat) : Int))) (hz_X12_costOf hT _ _ rfl) rfl rfl ?_
    refine v_bin (w := (5 + ((gJ P q : Nat) : Int))) (hz_X12_costOf hT _ _ rfl) (hq_add (by omega) (by omega)) ?_
    refine v_aldB (t := 0) (r := 126) (w := (P 1 q)) (hz_X12_costOf hT _ _ rfl) rfl rfl rfl (fun _ _ => (congrArg Prod.snd (hR.l gq))) (fun ha4 hb5 => ?_)
    refine v_push (3) (hz_X12_costOf hT _ _ rfl) rfl ?_
    refine v_ic (hz_X12_costOf hT _ _ rfl) (fun hc6 => ?_) (fun hc6 => ?_)
    · have hc6 : (P 1 q) = 3 := hc6
      refine v_push (1000000) (hi_X12_costOf_48 hT) rfl ?_
      refine v_goto (hi_X12_costOf_51 hT) ?_
      refine v_ret (hi_X12_costOf_59 hT) (Or.inl rfl) ?_
      exact k0 hc1 ha4 hb5 hc6
    · have hc6 : (P 1 q) ≠ 3 := hc6
      refine v_load (v := (2, 121)) (hz_X12_costOf hT _ _ rfl) rfl rfl ?_
      refine v_load (v := (0, ((gJ P q : Nat) : Int))) (hz_X12_costOf hT _ _ rfl) rfl rfl ?_
      refine v_call (w := 2) [some (2, 121), some (0, ((gJ P q : Nat) : Int))] hO (hz_X12_costOf hT _ _ rfl) rfl rfl (rb_cr hT hO q gq hR hb ?_)
      show vP D T N 212 59 h [some (2, 121), some (0, (j : Int)), some (0, ((gJ P q : Nat) : Int)), some (0, 0)] [(0, (gCr P q))] _
      refine v_ret (hi_X12_costOf_59 hT) (Or.inl rfl) ?_
      exact k1 hc1 ha4 hb5 hc6
  · have hc1 : 0 ≤ (j : Int) := Int.not_lt.mp hc1
    refine v_load (v := (2, 121)) (hz_X12_costOf hT _ _ rfl) rfl rfl ?_
    refine v_load (v := (0, (j : Int))) (hz_X12_costOf hT _ _ rfl) rfl rfl ?_
    refine v_load (v := (0, ((gJ P q : Nat) : Int))) (hz_X12_costOf hT _ _ rfl) rfl rfl ?_
    refine v_call (w := 3) [some (2, 121), some (0, (j : Int)), some (0, ((gJ P q : Nat) : Int))] hO (hz_X12_costOf hT _ _ rfl) rfl rfl (rb_st hT hO ((j : Int)) j q rfl (by omega) gq hR hb ?_)
    show vP D T N 212 14 h [some (2, 121), some (0, (j : Int)), some (0, ((gJ P q : Nat) : Int)), none] [(0, (P 3 (48 * j + q)))] _
    refine v_store1 [some (2, 121), some (0, (j : Int)), some (0, ((gJ P q : Nat) : Int)), some (0, (P 3 (48 * j + q)))] (hz_X12_costOf hT _ _ rfl) ⟨rfl, Nat.ne_of_beq_eq_false rfl⟩ (Nat.le_of_ble_eq_true rfl) rfl ?_
    refine v_load (v := (0, (P 3 (48 * j + q)))) (hz_X12_costOf hT _ _ rfl) rfl rfl ?_
    refine v_push (2) (hz_X12_costOf hT _ _ rfl) rfl ?_
    refine v_ic (hz_X12_costOf hT _ _ rfl) (fun hc7 => ?_) (fun hc7 => ?_)
    · have hc7 : (P 3 (48 * j + q)) = 2 := hc7
      refine v_push (5) (hz_X12_costOf hT _ _ rfl) rfl ?_
      refine v_load (v := (2, 121)) (hz_X12_costOf hT _ _ rfl) rfl rfl ?_
      refine v_getR (c := 126) (r := 121) (hz_X12_costOf hT _ _ rfl) rfl rfl rfl ?_
      refine v_push (53) (hz_X12_costOf hT _ _ rfl) rfl ?_
      refine v_load (v := (0, ((gJ P q : Nat) : Int))) (hz_X12_costOf hT _ _ rfl) rfl rfl ?_
      refine v_bin (w := (53 + ((gJ P q : Nat) : Int))) (hz_X12_costOf hT _ _ rfl) (hq_add (by omega) (by omega)) ?_
      refine v_aldB (t := 0) (r := 126) (w := (P 2 q)) (hz_X12_costOf hT _ _ rfl) rfl rfl rfl (fun _ _ => (congrArg Prod.snd (hR.s gq))) (fun ha8 hb9 => ?_)
      refine v_bin (w := (5 + (P 2 q))) (hz_X12_costOf hT _ _ rfl) (hq_add (by omega) (by omega)) ?_
      refine v_ret (hz_X12_costOf hT _ _ rfl) (Or.inl rfl) ?_
      exact k2 hc1 hc7 ha8 hb9
    · have hc7 : (P 3 (48 * j + q)) ≠ 2 := hc7
      refine v_load (v := (0, (P 3 (48 * j + q)))) (hz_X12_costOf hT _ _ rfl) rfl rfl ?_
      refine v_if (hz_X12_costOf hT _ _ rfl) (fun hc10 => ?_) (fun hc10 => ?_)
      · have hc10 : 0 < (P 3 (48 * j + q)) := hc10
        refine v_push (1000000) (hi_X12_costOf_48 hT) rfl ?_
        refine v_goto (hi_X12_costOf_51 hT) ?_
        refine v_ret (hi_X12_costOf_59 hT) (Or.inl rfl) ?_
        exact k3 hc1 hc7 hc10
      · have hc10 : (P 3 (48 * j + q)) ≤ 0 := Int.not_lt.mp hc10
        refine v_load (v := (2, 121)) (hz_X12_costOf hT _ _ rfl) rfl rfl ?_
        refine v_getR (c := 126) (r := 121) (hz_X12_costOf hT _ _ rfl) rfl rfl rfl ?_
        refine v_push (5) (hz_X12_costOf hT _ _ rfl) rfl ?_
        refine v_load (v := (0, ((gJ P q : Nat) : Int))) (hz_X12_costOf hT _ _ rfl) rfl rfl ?_
        refine v_bin (w := (5 + ((gJ P q : Nat) : Int))) (hz_X12_costOf hT _ _ rfl) (hq_add (by omega) (by omega)) ?_
        refine v_aldB (t := 0) (r := 126) (w := (P 1 q)) (hz_X12_costOf hT _ _ rfl) rfl rfl rfl (fun _ _ => (congrArg Prod.snd (hR.l gq))) (fun ha11 hb12 => ?_)
        refine v_push (3) (hz_X12_costOf hT _ _ rfl) rfl ?_
        refine v_ic (hz_X12_costOf hT _ _ rfl) (fun hc13 => ?_) (fun hc13 => ?_)
        · have hc13 : (P 1 q) = 3 := hc13
          refine v_push (1000000) (hi_X12_costOf_48 hT) rfl ?_
          refine v_goto (hi_X12_costOf_51 hT) ?_
          refine v_ret (hi_X12_costOf_59 hT) (Or.inl rfl) ?_
          exact k4 hc1 hc7 hc10 ha11 hb12 hc13
        · have hc13 : (P 1 q) ≠ 3 := hc13
          refine v_load (v := (2, 121)) (hz_X12_costOf hT _ _ rfl) rfl rfl ?_
          refine v_load (v := (0, ((gJ P q : Nat) : Int))) (hz_X12_costOf hT _ _ rfl) rfl rfl ?_
          refine v_call (w := 2) [some (2, 121), some (0, ((gJ P q : Nat) : Int))] hO (hz_X12_costOf hT _ _ rfl) rfl rfl (rb_cr hT hO q gq hR hb ?_)
          show vP D T N 212 59 h [some (2, 121), some (0, (j : Int)), some (0, ((gJ P q : Nat) : Int)), some (0, (P 3 (48 * j + q)))] [(0, (gCr P q))] _
          refine v_ret (hi_X12_costOf_59 hT) (Or.inl rfl) ?_
          exact k5 hc1 hc7 hc10 ha11 hb12 hc13
theorem qr_cog {D : zD} {T : zT} (hT : hTab T) (hO : vOK T) {N : Nat} {h : zH} {Q : zR → Prop} {P : PT} {q : Nat} (hv0 : zHv h) (hR : rBk 0 P h) (gq : gIn P q) (hn : gJ P q < 48) (hb : fB P) (b2 : 0 ≤ P 2 q ∧ P 2 q ≤ 9)
    (k0 : (0 ≤ (5 + ((gJ P q : Nat) : Int))) → ((5 + ((gJ P q : Nat) : Int)) < 2750) → ((P 1 q) = 3) → Q (h, some (0, 1000000)))
    (k1 : (0 ≤ (5 + ((gJ P q : Nat) : Int))) → ((5 + ((gJ P q : Nat) : Int)) < 2750) → ((P 1 q) ≠ 3) → Q (h, some (0, (gCr P q)))) :
    vP D T N 212 0 h [some (2, 121), some (0, (-1)), some (0, ((gJ P q : Nat) : Int)), none] [] Q := by
  refine v_load (v := (0, (-1))) (hz_X12_costOf hT _ _ rfl) rfl rfl ?_
  refine v_if (hz_X12_costOf hT _ _ rfl) (fun _ => ?_) (fun hc1 => absurd (show ((-1) : Int) < 0 from (by omega)) hc1)
  refine v_push (0) (hz_X12_costOf hT _ _ rfl) rfl ?_
  refine v_goto (hz_X12_costOf hT _ _ rfl) ?_
  refine v_store1 [some (2, 121), some (0, (-1)), some (0, ((gJ P q : Nat) : Int)), some (0, 0)] (hz_X12_costOf hT _ _ rfl) ⟨rfl, Nat.ne_of_beq_eq_false rfl⟩ (Nat.le_of_ble_eq_true rfl) rfl ?_
  refine v_load (v := (0, 0)) (hz_X12_costOf hT _ _ rfl) rfl rfl ?_
  refine v_push (2) (hz_X12_costOf hT _ _ rfl) rfl ?_
  refine v_ic (hz_X12_costOf hT _ _ rfl) (fun hc2 => absurd (show (0 : Int) = 2 from hc2) (by decide)) (fun _ => ?_)
  refine v_load (v := (0, 0)) (hz_X12_costOf hT _ _ rfl) rfl rfl ?_
  refine v_if (hz_X12_costOf hT _ _ rfl) (fun hc3 => absurd (show 0 < (0 : Int) from hc3) (by decide)) (fun _ => ?_)
  refine v_load (v := (2, 121)) (hz_X12_costOf hT _ _ rfl) rfl rfl ?_
  refine v_getR (c := 126) (r := 121) (hz_X12_costOf hT _ _ rfl) rfl rfl rfl ?_
  refine v_push (5) (hz_X12_costOf hT _ _ rfl) rfl ?_
  refine v_load (v := (0, ((gJ P q : Nat) : Int))) (hz_X12_costOf hT _ _ rfl) rfl rfl ?_
  refine v_bin (w := (5 + ((gJ P q : Nat) : Int))) (hz_X12_costOf hT _ _ rfl) (hq_add (by omega) (by omega)) ?_
  refine v_aldB (t := 0) (r := 126) (w := (P 1 q)) (hz_X12_costOf hT _ _ rfl) rfl rfl rfl (fun _ _ => (congrArg Prod.snd (hR.l gq))) (fun ha4 hb5 => ?_)
  refine v_push (3) (hz_X12_costOf hT _ _ rfl) rfl ?_
  refine v_ic (hz_X12_costOf hT _ _ rfl) (fun hc6 => ?_) (fun hc6 => ?_)
  · have hc6 : (P 1 q) = 3 := hc6
    refine v_push (1000000) (hi_X12_costOf_48 hT) rfl ?_
    refine v_goto (hi_X12_costOf_51 hT) ?_
    refine v_ret (hi_X12_costOf_59 hT) (Or.inl rfl) ?_
    exact k0 ha4 hb5 hc6
  · have hc6 : (P 1 q) ≠ 3 := hc6
    refine v_load (v := (2, 121)) (hz_X12_costOf hT _ _ rfl) rfl rfl ?_
    refine v_load (v := (0, ((gJ P q : Nat) : Int))) (hz_X12_costOf hT _ _ rfl) rfl rfl ?_
    refine v_call (w := 2) [some (2, 121), some (0, ((gJ P q : Nat) : Int))] hO (hz_X12_costOf hT _ _ rfl) rfl rfl (rb_cr hT hO q gq hR hb ?_)
    show vP D T N 212 59 h [some (2, 121), some (0, (-1)), some (0, ((gJ P q : Nat) : Int)), some (0, 0)] [(0, (gCr P q))] _
    refine v_ret (hi_X12_costOf_59 hT) (Or.inl rfl) ?_
    exact k1 ha4 hb5 hc6
theorem rb_co {D : zD} {T : zT} (hT : hTab T) (hO : vOK T) {N : Nat} {h : zH} {Q : zR → Prop} {P : PT} (cp : Int) (q : Nat) (h1 : -1 ≤ cp) (h3 : cp < 3) (gq : gIn P q) (hR : rBk 0 P h) (hb : fB P) (k : Q (h, some (0, rCF P cp q))) : vP D T N 212 0 h [some (2, 121), some (0, cp), some (0, ((gJ P q : Nat) : Int)), none] [] Q := by
  obtain ⟨b1, b2⟩ := hb.2.1 q gq.1
  have cb := crw_b (L := P 1 q)
  by_cases c : cp < 0
  · have e : cp = -1 := by omega
    subst e
    refine vP_hv (fun hv => qr_cog hT hO hv hR gq (gJ_lt hb.1 gq) hb b2 ?_ ?_) <;> (intros; exact cb_eq k (by unfold rCF rC gGr gCr; omega))
  · obtain ⟨j, rfl⟩ : ∃ j : Nat, cp = (j : Int) := ⟨cp.toNat, by omega⟩
    have q48 := gq.1
    have bs := hb.2.2.1 (48 * j + q) (by omega)
    refine vP_hv (fun hv => qr_co hT hO hv hR gq (by omega) (gJ_lt hb.1 gq) hb b2 ?_ ?_ ?_ ?_ ?_ ?_) <;> (intros; exact cb_eq k (by unfold rCF rC gSh gGr gCr; rw [Int.toNat_natCast]; omega))
theorem qr_go {D : zD} {T : zT} (hT : hTab T) (hO : vOK T) {N : Nat} {h : zH} {Q : zR → Prop} {P : PT} {q e : Nat} {d : Nat → Int} (cp : Int) (hv0 : zHv h) (hR : rBk 0 P h) (gq : gIn P q) (he : e < 4) (h1 : -1 ≤ cp) (h3 : cp < 3) (hb : fB P) (bd : ∀ r, gIn P r → gJ P r < 48 ∧ h 130 (gJ P r) = (0, d r) ∧ (0 ≤ d r ∧ d r ≤ 1000000) ∧ (0 ≤ rCF P cp r ∧ (rCF P cp r = 1000000 ∨ rCF P cp r ≤ 14)))
    (k0 : (gNb P q e = -1) → Q (h, some (0, 1000000)))
    (k1 : ∀ (q1 : Nat), (gNb P q e = (q1 : Int)) → (gIn P q1) → (((gJ P q1 : Nat) : Int) < 0) → Q (h, some (0, 1000000)))
    (k2 : ∀ (q1 : Nat), (gNb P q e = (q1 : Int)) → (gIn P q1) → (0 ≤ ((gJ P q1 : Nat) : Int)) → ((rCF P cp q1) = 1000000) → Q (h, some (0, 1000000)))
    (k3 : ∀ (q1 : Nat), (gNb P q e = (q1 : Int)) → (gIn P q1) → (0 ≤ ((gJ P q1 : Nat) : Int)) → ((rCF P cp q1) ≠ 1000000) → (((gJ P q1 : Nat) : Int) < 48) → ((d q1) = 1000000) → Q (h, some (0, 1000000)))
    (k4 : ∀ (q1 : Nat), (gNb P q e = (q1 : Int)) → (gIn P q1) → (0 ≤ ((gJ P q1 : Nat) : Int)) → ((rCF P cp q1) ≠ 1000000) → (((gJ P q1 : Nat) : Int) < 48) → ((d q1) ≠ 1000000) → Q (h, some (0, (((100 * (rCF P cp q1)) + 1) + (d q1))))) :
    vP D T N 232 0 h [some (2, 121), some (0, cp), some (0, ((gJ P q : Nat) : Int)), some (0, (e : Int)), none] [] Q := by
  refine v_load (v := (2, 121)) (hz_X12_goesBy hT _ _ rfl) rfl rfl ?_
  refine v_load (v := (0, ((gJ P q : Nat) : Int))) (hz_X12_goesBy hT _ _ rfl) rfl rfl ?_
  refine v_load (v := (0, (e : Int))) (hz_X12_goesBy hT _ _ rfl) rfl rfl ?_
  refine v_call (w := 5) [some (2, 121), some (0, ((gJ P q : Nat) : Int)), some (0, (e : Int)), none, none] hO (hz_X12_goesBy hT _ _ rfl) rfl rfl (rb_bes hT hO ((e : Int)) q e rfl gq (by omega) hR.w hR.r hb.1 (fun en1 => ?_) (fun q1 en1 hg1 => ?_))
  · show vP D T N 232 6 h [some (2, 121), some (0, cp), some (0, ((gJ P q : Nat) : Int)), some (0, (e : Int)), none] [(0, -1)] _
    refine v_store1 [some (2, 121), some (0, cp), some (0, ((gJ P q : Nat) : Int)), some (0, (e : Int)), some (0, -1)] (hz_X12_goesBy hT _ _ rfl) ⟨rfl, Nat.ne_of_beq_eq_false rfl⟩ (Nat.le_of_ble_eq_true rfl) rfl ?_
    refine v_load (v := (0, -1)) (hz_X12_goesBy hT _ _ rfl) rfl rfl ?_
    refine v_if (hz_X12_goesBy hT _ _ rfl) (fun _ => ?_) (fun hc3 => absurd (show (-1 : Int) < 0 from (by decide)) hc3)
    refine v_push (1000000) (hi_X12_goesBy_39 hT) rfl ?_
    refine v_ret (hi_X12_goesBy_42 hT) (Or.inl rfl) ?_
    exact k0 en1
  · show vP D T N 232 6 h [some (2, 121), some (0, cp), some (0, ((gJ P q : Nat) : Int)), some (0, (e : Int)), none] [(0, ((gJ P q1 : Nat) : Int))] _
    obtain ⟨bq2a, bq2e, bq2b, bq2c⟩ := bd q1 hg1
    refine v_store1 [some (2, 121), some (0, cp), some (0, ((gJ P q : Nat) : Int)), some (0, (e : Int)), some (0, ((gJ P q1 : Nat) : Int))] (hz_X12_goesBy hT _ _ rfl) ⟨rfl, Nat.ne_of_beq_eq_false rfl⟩ (Nat.le_of_ble_eq_true rfl) rfl ?_
    refine v_load (v := (0, ((gJ P q1 : Nat) : Int))) (hz_X12_goesBy hT _ _ rfl) rfl rfl ?_
    refine v_if (hz_X12_goesBy hT _ _ rfl) (fun hc4 => ?_) (fun hc4 => ?_)
    · have hc4 : ((gJ P q1 : Nat) : Int) < 0 := hc4
      refine v_push (1000000) (hi_X12_goesBy_39 hT) rfl ?_
      refine v_ret (hi_X12_goesBy_42 hT) (Or.inl rfl) ?_
      exact k1 q1 en1 hg1 hc4
    · have hc4 : 0 ≤ ((gJ P q1 : Nat) : Int) := Int.not_lt.mp hc4
      refine v_load (v := (2, 121)) (hz_X12_goesBy hT _ _ rfl) rfl rfl ?_
      refine v_load (v := (0, cp)) (hz_X12_goesBy hT _ _ rfl) rfl rfl ?_
      refine v_load (v := (0, ((gJ P q1 : Nat) : Int))) (hz_X12_goesBy hT _ _ rfl) rfl rfl ?_
      refine v_call (w := 4) [some (2, 121), some (0, cp), some (0, ((gJ P q1 : Nat) : Int)), none] hO (hz_X12_goesBy hT _ _ rfl) rfl rfl (rb_co hT hO cp q1 (by omega) (by omega) hg1 hR hb ?_)
      show vP D T N 232 20 h [some (2, 121), some (0, cp), some (0, ((gJ P q : Nat) : Int)), some (0, (e : Int)), some (0, ((gJ P q1 : Nat) : Int))] [(0, (rCF P cp q1))] _
      refine v_push (1000000) (hz_X12_goesBy hT _ _ rfl) rfl ?_
      refine v_ic (hz_X12_goesBy hT _ _ rfl) (fun hc5 => ?_) (fun hc5 => ?_)
      · have hc5 : (rCF P cp q1) = 1000000 := hc5
        refine v_push (1000000) (hi_X12_goesBy_39 hT) rfl ?_
        refine v_ret (hi_X12_goesBy_42 hT) (Or.inl rfl) ?_
        exact k2 q1 en1 hg1 hc4 hc5
      · have hc5 : (rCF P cp q1) ≠ 1000000 := hc5
        refine v_load (v := (2, 121)) (hz_X12_goesBy hT _ _ rfl) rfl rfl ?_
        refine v_getR (c := 130) (r := 121) (hz_X12_goesBy hT _ _ rfl) rfl rfl rfl ?_
        refine v_load (v := (0, ((gJ P q1 : Nat) : Int))) (hz_X12_goesBy hT _ _ rfl) rfl rfl ?_
        refine v_aldB (t := 0) (r := 130) (w := (d q1)) (hz_X12_goesBy hT _ _ rfl) rfl rfl rfl (fun _ _ => (congrArg Prod.snd bq2e)) (fun ha6 hb7 => ?_)
        refine v_push (1000000) (hz_X12_goesBy hT _ _ rfl) rfl ?_
        refine v_ic (hz_X12_goesBy hT _ _ rfl) (fun hc8 => ?_) (fun hc8 => ?_)
        · have hc8 : (d q1) = 1000000 := hc8
          refine v_push (1000000) (hi_X12_goesBy_39 hT) rfl ?_
          refine v_ret (hi_X12_goesBy_42 hT) (Or.inl rfl) ?_
          exact k3 q1 en1 hg1 hc4 hc5 hb7 hc8
        · have hc8 : (d q1) ≠ 1000000 := hc8
          refine v_push (100) (hz_X12_goesBy hT _ _ rfl) rfl ?_
          refine v_load (v := (2, 121)) (hz_X12_goesBy hT _ _ rfl) rfl rfl ?_
          refine v_load (v := (0, cp)) (hz_X12_goesBy hT _ _ rfl) rfl rfl ?_
          refine v_load (v := (0, ((gJ P q1 : Nat) : Int))) (hz_X12_goesBy hT _ _ rfl) rfl rfl ?_
          refine v_call (w := 4) [some (2, 121), some (0, cp), some (0, ((gJ P q1 : Nat) : Int)), none] hO (hz_X12_goesBy hT _ _ rfl) rfl rfl (rb_co hT hO cp q1 (by omega) (by omega) hg1 hR hb ?_)
          show vP D T N 232 52 h [some (2, 121), some (0, cp), some (0, ((gJ P q : Nat) : Int)), some (0, (e : Int)), some (0, ((gJ P q1 : Nat) : Int))] [(0, (rCF P cp q1)), (0, 100)] _
          refine v_bin (w := (100 * (rCF P cp q1))) (hz_X12_goesBy hT _ _ rfl) (hq_mul (by omega) (by omega)) ?_
          refine v_push (1) (hz_X12_goesBy hT _ _ rfl) rfl ?_
          refine v_bin (w := ((100 * (rCF P cp q1)) + 1)) (hz_X12_goesBy hT _ _ rfl) (hq_add (by omega) (by omega)) ?_
          refine v_load (v := (2, 121)) (hz_X12_goesBy hT _ _ rfl) rfl rfl ?_
          refine v_getR (c := 130) (r := 121) (hz_X12_goesBy hT _ _ rfl) rfl rfl rfl ?_
          refine v_load (v := (0, ((gJ P q1 : Nat) : Int))) (hz_X12_goesBy hT _ _ rfl) rfl rfl ?_
          refine v_aldB (t := 0) (r := 130) (w := (d q1)) (hz_X12_goesBy hT _ _ rfl) rfl rfl rfl (fun _ _ => (congrArg Prod.snd bq2e)) (fun ha9 hb10 => ?_)
          refine v_bin (w := (((100 * (rCF P cp q1)) + 1) + (d q1))) (hz_X12_goesBy hT _ _ rfl) (hq_add (by omega) (by omega)) ?_
          refine v_ret (hz_X12_goesBy hT _ _ rfl) (Or.inl rfl) ?_
          exact k4 q1 en1 hg1 hc4 hc5 hb7 hc8
theorem rb_go {D : zD} {T : zT} (hT : hTab T) (hO : vOK T) {N : Nat} {h : zH} {Q : zR → Prop} {P : PT} {d : Nat → Int} (cp x : Int) (q e : Nat) (ex : x = (e : Int)) (he : e < 4) (gq : gIn P q) (hR : rBk 0 P h) (hb : fB P) (h1 : -1 ≤ cp) (h3 : cp < 3) (hd : ∀ r, gIn P r → h 130 (gJ P r) = (0, d r) ∧ 0 ≤ d r ∧ d r ≤ 1000000) (k : Q (h, some (0, gGo P cp d q e))) : vP D T N 232 0 h [some (2, 121), some (0, cp), some (0, ((gJ P q : Nat) : Int)), some (0, x), none] [] Q := by
  subst ex
  have F : ∀ r, rCF P cp r = 1000000 ∨ (rCF P cp r = rC P cp r ∧ rC P cp r ≠ 0) := fun r => by
    unfold rCF
    by_cases c : rC P cp r = 0
    · rw [if_pos c]; exact Or.inl rfl
    · rw [if_neg c]; exact Or.inr ⟨rfl, c⟩
  have bd : ∀ r, gIn P r → gJ P r < 48 ∧ h 130 (gJ P r) = (0, d r) ∧ (0 ≤ d r ∧ d r ≤ 1000000) ∧ (0 ≤ rCF P cp r ∧ (rCF P cp r = 1000000 ∨ rCF P cp r ≤ 14)) := fun r g => by
    have b := rC_b hb (cp := cp) g.1
    refine ⟨gJ_lt hb.1 g, (hd r g).1, (hd r g).2, ?_⟩
    rcases F r with f | f <;> omega
  have G : ∀ r, rCF P cp r = 1000000 → gIn P r → rC P cp r = 0 := fun r f g => by
    have b := rC_b hb (cp := cp) g.1
    rcases F r with f2 | f2
    · unfold rCF at f
      by_cases c : rC P cp r = 0
      · exact c
      · rw [if_neg c] at f; omega
    · omega
  refine vP_hv (fun hv => qr_go hT hO cp hv hR gq he h1 h3 hb bd ?_ ?_ ?_ ?_ ?_)
  · intro c
    exact cb_eq k (if_pos c)
  · intro q1 _ _ c
    omega
  · intro q1 en g _ f
    exact cb_eq k ((gGo_r en).trans (if_pos (G q1 f g)))
  · intro q1 en g _ f _ f2
    refine cb_eq k ((gGo_r en).trans ?_)
    rw [if_pos f2]
    exact ite_self _
  · intro q1 en g _ f _ f2
    rcases F q1 with f3 | f3
    · exact absurd f3 f
    · refine cb_eq k ((gGo_r en).trans ?_)
      rw [if_neg f3.2, if_neg f2, f3.1]
end
section
theorem qr_wo0 {D : zD} {T : zT} (hT : hTab T) (hO : vOK T) {N : Nat} {h : zH} {Q : zR → Prop} (cp x y : Int) (hv0 : zHv h)
    (k0 : vP D T N 336 3 h [some (2, 121), some (0, cp), some (0, x), some (0, y), some (0, 0), none, none, none] [] Q) :
    vP D T N 336 0 h [some (2, 121), some (0, cp), some (0, x), some (0, y), none, none, none, none] [] Q := by
  refine v_push (0) (hz_X12_wayOf hT _ _ rfl) rfl ?_
  refine v_store1 [some (2, 121), some (0, cp), some (0, x), some (0, y), some (0, 0), none, none, none] (hz_X12_wayOf hT _ _ rfl) ⟨rfl, Nat.ne_of_beq_eq_false rfl⟩ (Nat.le_of_ble_eq_true rfl) rfl ?_
  exact k0 
theorem qr_wo3 {D : zD} {T : zT} (hT : hTab T) (hO : vOK T) {N : Nat} {h : zH} {Q : zR → Prop} {P : PT} {q i : Nat} (cp x : Int) (o5 o6 o7 : Option zV) (hv0 : zHv h) (hR : rBk 0 P h) (hb : fB P) (hq : gJ P q < 48) (hi : i ≤ 64)
    (k0 : ((i : Int) < ((P 0 0) * (P 0 1))) → (0 ≤ (i : Int)) → ((i : Int) < 48) → vP D T N 336 3 (zset h 130 (((i : Int)).toNat) (0, 1000000)) [some (2, 121), some (0, cp), some (0, x), some (0, ((gJ P q : Nat) : Int)), some (0, ((i : Int) + 1)), o5, o6, o7] [] Q)
    (k1 : (((P 0 0) * (P 0 1)) ≤ (i : Int)) → (0 ≤ ((gJ P q : Nat) : Int)) → (((gJ P q : Nat) : Int) < 48) → vP D T N 336 38 (zset h 130 ((((gJ P q : Nat) : Int)).toNat) (0, 0)) [some (2, 121), some (0, cp), some (0, x), some (0, ((gJ P q : Nat) : Int)), some (0, 1), o5, o6, o7] [] Q) :
    vP D T (N + 1) 336 3 h [some (2, 121), some (0, cp), some (0, x), some (0, ((gJ P q : Nat) : Int)), some (0, (i : Int)), o5, o6, o7] [] Q := by
  refine v_loadS (v := (0, (i : Int))) (hz_X12_wayOf hT _ _ rfl) rfl rfl ?_
  refine v_load (v := (2, 121)) (hz_X12_wayOf hT _ _ rfl) rfl rfl ?_
  refine v_call (w := 1) [some (2, 121)] hO (hz_X12_wayOf hT _ _ rfl) rfl rfl (rb_cells hT hO hR.w hR.r hb.1 ?_)
  show vP D T N 336 9 h [some (2, 121), some (0, cp), some (0, x), some (0, ((gJ P q : Nat) : Int)), some (0, (i : Int)), o5, o6, o7] [(0, ((P 0 0) * (P 0 1))), (0, (i : Int))] _
  refine v_ic (hz_X12_wayOf hT _ _ rfl) (fun hc1 => ?_) (fun hc1 => ?_)
  · have hc1 : (i : Int) < ((P 0 0) * (P 0 1)) := hc1
    refine v_load (v := (2, 121)) (hz_X12_wayOf hT _ _ rfl) rfl rfl ?_
    refine v_getR (c := 130) (r := 121) (hz_X12_wayOf hT _ _ rfl) rfl rfl rfl ?_
    refine v_load (v := (0, (i : Int))) (hz_X12_wayOf hT _ _ rfl) rfl rfl ?_
    refine v_push (1000000) (hz_X12_wayOf hT _ _ rfl) rfl ?_
    refine v_ast (r := 130) (hz_X12_wayOf hT _ _ rfl) rfl rfl (fun ha2 hb3 hf4 => ?_)
    refine v_iinc (x := (i : Int)) (u := 1) (w := ((i : Int) + 1)) [some (2, 121), some (0, cp), some (0, x), some (0, ((gJ P q : Nat) : Int)), some (0, ((i : Int) + 1)), o5, o6, o7] (hz_X12_wayOf hT _ _ rfl) rfl rfl (Nat.le_of_ble_eq_true rfl) (vz_inc (by omega) (by omega)) rfl ?_
    refine v_goto (hz_X12_wayOf hT _ _ rfl) ?_
    exact k0 hc1 ha2 hb3
  · have hc1 : ((P 0 0) * (P 0 1)) ≤ (i : Int) := Int.not_lt.mp hc1
    refine v_load (v := (2, 121)) (hz_X12_wayOf hT _ _ rfl) rfl rfl ?_
    refine v_getR (c := 130) (r := 121) (hz_X12_wayOf hT _ _ rfl) rfl rfl rfl ?_
    refine v_load (v := (0, ((gJ P q : Nat) : Int))) (hz_X12_wayOf hT _ _ rfl) rfl rfl ?_
    refine v_push (0) (hz_X12_wayOf hT _ _ rfl) rfl ?_
    refine v_ast (r := 130) (hz_X12_wayOf hT _ _ rfl) rfl rfl (fun ha5 hb6 hf7 => ?_)
    refine v_push (1) (hz_X12_wayOf hT _ _ rfl) rfl ?_
    refine v_store1 [some (2, 121), some (0, cp), some (0, x), some (0, ((gJ P q : Nat) : Int)), some (0, 1), o5, o6, o7] (hz_X12_wayOf hT _ _ rfl) ⟨rfl, Nat.ne_of_beq_eq_false rfl⟩ (Nat.le_of_ble_eq_true rfl) rfl ?_
    exact k1 hc1 ha5 hb6
theorem qr_wo38 {D : zD} {T : zT} (hT : hTab T) (hO : vOK T) {N : Nat} {h : zH} {Q : zR → Prop} (cp x y m : Int) (o5 o6 o7 : Option zV) (hv0 : zHv h)
    (k0 : (m = 0) → vP D T N 336 120 h [some (2, 121), some (0, cp), some (0, x), some (0, y), some (0, m), o5, o6, o7] [] Q)
    (k1 : (m ≠ 0) → vP D T N 336 49 h [some (2, 121), some (0, cp), some (0, x), some (0, y), some (0, 0), some (0, 0), o6, o7] [] Q) :
    vP D T (N + 1) 336 38 h [some (2, 121), some (0, cp), some (0, x), some (0, y), some (0, m), o5, o6, o7] [] Q := by
  refine v_loadS (v := (0, m)) (hz_X12_wayOf hT _ _ rfl) rfl rfl ?_
  refine v_if (hz_X12_wayOf hT _ _ rfl) (fun hc1 => ?_) (fun hc1 => ?_)
  · have hc1 : m = 0 := hc1
    exact k0 hc1
  · have hc1 : m ≠ 0 := hc1
    refine v_push (0) (hz_X12_wayOf hT _ _ rfl) rfl ?_
    refine v_store1 [some (2, 121), some (0, cp), some (0, x), some (0, y), some (0, 0), o5, o6, o7] (hz_X12_wayOf hT _ _ rfl) ⟨rfl, Nat.ne_of_beq_eq_false rfl⟩ (Nat.le_of_ble_eq_true rfl) rfl ?_
    refine v_push (0) (hz_X12_wayOf hT _ _ rfl) rfl ?_
    refine v_store1 [some (2, 121), some (0, cp), some (0, x), some (0, y), some (0, 0), some (0, 0), o6, o7] (hz_X12_wayOf hT _ _ rfl) ⟨rfl, Nat.ne_of_beq_eq_false rfl⟩ (Nat.le_of_ble_eq_true rfl) rfl ?_
    exact k1 hc1
theorem qr_wo49 {D : zD} {T : zT} (hT : hTab T) (hO : vOK T) {N : Nat} {h : zH} {Q : zR → Prop} {P : PT} {n : Nat} (cp x y m : Int) (o6 o7 : Option zV) (hv0 : zHv h) (hR : rBk 0 P h) (hb : fB P)
    (k0 : ((n : Int) < ((P 0 0) * (P 0 1))) → vP D T N 336 61 h [some (2, 121), some (0, cp), some (0, x), some (0, y), some (0, m), some (0, (n : Int)), some (0, 0), o7] [] Q)
    (k1 : (((P 0 0) * (P 0 1)) ≤ (n : Int)) → vP D T N 336 38 h [some (2, 121), some (0, cp), some (0, x), some (0, y), some (0, m), some (0, (n : Int)), o6, o7] [] Q) :
    vP D T (N + 1) 336 49 h [some (2, 121), some (0, cp), some (0, x), some (0, y), some (0, m), some (0, (n : Int)), o6, o7] [] Q := by
  refine v_loadS (v := (0, (n : Int))) (hz_X12_wayOf hT _ _ rfl) rfl rfl ?_
  refine v_load (v := (2, 121)) (hz_X12_wayOf hT _ _ rfl) rfl rfl ?_
  refine v_call (w := 1) [some (2, 121)] hO (hz_X12_wayOf hT _ _ rfl) rfl rfl (rb_cells hT hO hR.w hR.r hb.1 ?_)
  show vP D T N 336 55 h [some (2, 121), some (0, cp), some (0, x), some (0, y), some (0, m), some (0, (n : Int)), o6, o7] [(0, ((P 0 0) * (P 0 1))), (0, (n : Int))] _
  refine v_ic (hz_X12_wayOf hT _ _ rfl) (fun hc1 => ?_) (fun hc1 => ?_)
  · have hc1 : (n : Int) < ((P 0 0) * (P 0 1)) := hc1
    refine v_push (0) (hz_X12_wayOf hT _ _ rfl) rfl ?_
    refine v_store1 [some (2, 121), some (0, cp), some (0, x), some (0, y), some (0, m), some (0, (n : Int)), some (0, 0), o7] (hz_X12_wayOf hT _ _ rfl) ⟨rfl, Nat.ne_of_beq_eq_false rfl⟩ (Nat.le_of_ble_eq_true rfl) rfl ?_
    exact k0 hc1
  · have hc1 : ((P 0 0) * (P 0 1)) ≤ (n : Int) := Int.not_lt.mp hc1
    refine v_goto (hz_X12_wayOf hT _ _ rfl) ?_
    exact k1 hc1
theorem qr_wo61 {D : zD} {T : zT} (hT : hTab T) (hO : vOK T) {N : Nat} {h : zH} {Q : zR → Prop} {P : PT} {q e : Nat} {d : Nat → Int} (cp x y m : Int) (o7 : Option zV) (hv0 : zHv h) (hR : rBk 0 P h) (hb : fB P) (gq : gIn P q) (hq : gJ P q < 48) (he : e ≤ 4) (h1 : -1 ≤ cp) (h3 : cp < 3) (hd : ∀ r, gIn P r → h 130 (gJ P r) = (0, d r) ∧ 0 ≤ d r ∧ d r ≤ 1000000) (eq : h 130 (gJ P q) = (0, d q))
    (k0 : ((e : Int) < 4) → (0 ≤ ((gJ P q : Nat) : Int)) → (((gJ P q : Nat) : Int) < 48) → ((gGo P cp d q e) < (d q)) → vP D T N 336 61 (zset h 130 ((((gJ P q : Nat) : Int)).toNat) (0, (gGo P cp d q e))) [some (2, 121), some (0, cp), some (0, x), some (0, y), some (0, 1), some (0, ((gJ P q : Nat) : Int)), some (0, ((e : Int) + 1)), some (0, (gGo P cp d q e))] [] Q)
    (k1 : ((e : Int) < 4) → (0 ≤ ((gJ P q : Nat) : Int)) → (((gJ P q : Nat) : Int) < 48) → ((d q) ≤ (gGo P cp d q e)) → vP D T N 336 61 h [some (2, 121), some (0, cp), some (0, x), some (0, y), some (0, m), some (0, ((gJ P q : Nat) : Int)), some (0, ((e : Int) + 1)), some (0, (gGo P cp d q e))] [] Q)
    (k2 : (4 ≤ (e : Int)) → vP D T N 336 49 h [some (2, 121), some (0, cp), some (0, x), some (0, y), some (0, m), some (0, (((gJ P q : Nat) : Int) + 1)), some (0, (e : Int)), o7] [] Q) :
    vP D T (N + 1) 336 61 h [some (2, 121), some (0, cp), some (0, x), some (0, y), some (0, m), some (0, ((gJ P q : Nat) : Int)), some (0, (e : Int)), o7] [] Q := by
  refine v_loadS (v := (0, (e : Int))) (hz_X12_wayOf hT _ _ rfl) rfl rfl ?_
  refine v_push (4) (hz_X12_wayOf hT _ _ rfl) rfl ?_
  refine v_ic (hz_X12_wayOf hT _ _ rfl) (fun hc1 => ?_) (fun hc1 => ?_)
  · have hc1 : (e : Int) < 4 := hc1
    refine v_load (v := (2, 121)) (hz_X12_wayOf hT _ _ rfl) rfl rfl ?_
    refine v_load (v := (0, cp)) (hz_X12_wayOf hT _ _ rfl) rfl rfl ?_
    refine v_load (v := (0, ((gJ P q : Nat) : Int))) (hz_X12_wayOf hT _ _ rfl) rfl rfl ?_
    refine v_load (v := (0, (e : Int))) (hz_X12_wayOf hT _ _ rfl) rfl rfl ?_
    refine v_call (w := 5) [some (2, 121), some (0, cp), some (0, ((gJ P q : Nat) : Int)), some (0, (e : Int)), none] hO (hz_X12_wayOf hT _ _ rfl) rfl rfl (rb_go hT hO cp ((e : Int)) q e rfl (by omega) gq hR hb (by omega) (by omega) hd ?_)
    show vP D T N 336 76 h [some (2, 121), some (0, cp), some (0, x), some (0, y), some (0, m), some (0, ((gJ P q : Nat) : Int)), some (0, (e : Int)), o7] [(0, (gGo P cp d q e))] _
    refine v_store1 [some (2, 121), some (0, cp), some (0, x), some (0, y), some (0, m), some (0, ((gJ P q : Nat) : Int)), some (0, (e : Int)), some (0, (gGo P cp d q e))] (hz_X12_wayOf hT _ _ rfl) ⟨rfl, Nat.ne_of_beq_eq_false rfl⟩ (Nat.le_of_ble_eq_true rfl) rfl ?_
    refine v_load (v := (0, (gGo P cp d q e))) (hz_X12_wayOf hT _ _ rfl) rfl rfl ?_
    refine v_load (v := (2, 121)) (hz_X12_wayOf hT _ _ rfl) rfl rfl ?_
    refine v_getR (c := 130) (r := 121) (hz_X12_wayOf hT _ _ rfl) rfl rfl rfl ?_
    refine v_load (v := (0, ((gJ P q : Nat) : Int))) (hz_X12_wayOf hT _ _ rfl) rfl rfl ?_
    refine v_aldB (t := 0) (r := 130) (w := (d q)) (hz_X12_wayOf hT _ _ rfl) rfl rfl rfl (fun _ _ => (congrArg Prod.snd eq)) (fun ha2 hb3 => ?_)
    refine v_ic (hz_X12_wayOf hT _ _ rfl) (fun hc4 => ?_) (fun hc4 => ?_)
    · have hc4 : (gGo P cp d q e) < (d q) := hc4
      refine v_load (v := (2, 121)) (hz_X12_wayOf hT _ _ rfl) rfl rfl ?_
      refine v_getR (c := 130) (r := 121) (hz_X12_wayOf hT _ _ rfl) rfl rfl rfl ?_
      refine v_load (v := (0, ((gJ P q : Nat) : Int))) (hz_X12_wayOf hT _ _ rfl) rfl rfl ?_
      refine v_load (v := (0, (gGo P cp d q e))) (hz_X12_wayOf hT _ _ rfl) rfl rfl ?_
      refine v_ast (r := 130) (hz_X12_wayOf hT _ _ rfl) rfl rfl (fun ha5 hb6 hf7 => ?_)
      refine v_push (1) (hz_X12_wayOf hT _ _ rfl) rfl ?_
      refine v_store1 [some (2, 121), some (0, cp), some (0, x), some (0, y), some (0, 1), some (0, ((gJ P q : Nat) : Int)), some (0, (e : Int)), some (0, (gGo P cp d q e))] (hz_X12_wayOf hT _ _ rfl) ⟨rfl, Nat.ne_of_beq_eq_false rfl⟩ (Nat.le_of_ble_eq_true rfl) rfl ?_
      refine v_iinc (x := (e : Int)) (u := 1) (w := ((e : Int) + 1)) [some (2, 121), some (0, cp), some (0, x), some (0, y), some (0, 1), some (0, ((gJ P q : Nat) : Int)), some (0, ((e : Int) + 1)), some (0, (gGo P cp d q e))] (hz_X12_wayOf hT _ _ rfl) rfl rfl (Nat.le_of_ble_eq_true rfl) (vz_inc (by omega) (by omega)) rfl ?_
      refine v_goto (hz_X12_wayOf hT _ _ rfl) ?_
      exact k0 hc1 ha2 hb3 hc4
    · have hc4 : (d q) ≤ (gGo P cp d q e) := Int.not_lt.mp hc4
      refine v_goto (hz_X12_wayOf hT _ _ rfl) ?_
      refine v_iinc (x := (e : Int)) (u := 1) (w := ((e : Int) + 1)) [some (2, 121), some (0, cp), some (0, x), some (0, y), some (0, m), some (0, ((gJ P q : Nat) : Int)), some (0, ((e : Int) + 1)), some (0, (gGo P cp d q e))] (hz_X12_wayOf hT _ _ rfl) rfl rfl (Nat.le_of_ble_eq_true rfl) (vz_inc (by omega) (by omega)) rfl ?_
      refine v_goto (hz_X12_wayOf hT _ _ rfl) ?_
      exact k1 hc1 ha2 hb3 hc4
  · have hc1 : 4 ≤ (e : Int) := Int.not_lt.mp hc1
    refine v_iinc (x := ((gJ P q : Nat) : Int)) (u := 1) (w := (((gJ P q : Nat) : Int) + 1)) [some (2, 121), some (0, cp), some (0, x), some (0, y), some (0, m), some (0, (((gJ P q : Nat) : Int) + 1)), some (0, (e : Int)), o7] (hz_X12_wayOf hT _ _ rfl) rfl rfl (Nat.le_of_ble_eq_true rfl) (vz_inc (by omega) (by omega)) rfl ?_
    refine v_goto (hz_X12_wayOf hT _ _ rfl) ?_
    exact k2 hc1
theorem qr_wo120 {D : zD} {T : zT} (hT : hTab T) (hO : vOK T) {N : Nat} {h : zH} {Q : zR → Prop} {P : PT} {q : Nat} {d : Nat → Int} (cp y m : Int) (o5 o6 o7 : Option zV) (hv0 : zHv h) (eq : h 130 (gJ P q) = (0, d q)) (hq : gJ P q < 48) (bd : 0 ≤ d q ∧ d q ≤ 1000000)
    (k0 : (0 ≤ ((gJ P q : Nat) : Int)) → (((gJ P q : Nat) : Int) < 48) → ((d q) = 1000000) → Q (h, some (0, 1000000)))
    (k1 : (0 ≤ ((gJ P q : Nat) : Int)) → (((gJ P q : Nat) : Int) < 48) → ((d q) ≠ 1000000) → Q (h, some (0, ((d q) / 100)))) :
    vP D T N 336 120 h [some (2, 121), some (0, cp), some (0, ((gJ P q : Nat) : Int)), some (0, y), some (0, m), o5, o6, o7] [] Q := by
  refine v_load (v := (2, 121)) (hz_X12_wayOf hT _ _ rfl) rfl rfl ?_
  refine v_getR (c := 130) (r := 121) (hz_X12_wayOf hT _ _ rfl) rfl rfl rfl ?_
  refine v_load (v := (0, ((gJ P q : Nat) : Int))) (hz_X12_wayOf hT _ _ rfl) rfl rfl ?_
  refine v_aldB (t := 0) (r := 130) (w := (d q)) (hz_X12_wayOf hT _ _ rfl) rfl rfl rfl (fun _ _ => (congrArg Prod.snd eq)) (fun ha1 hb2 => ?_)
  refine v_push (1000000) (hz_X12_wayOf hT _ _ rfl) rfl ?_
  refine v_ic (hz_X12_wayOf hT _ _ rfl) (fun hc3 => ?_) (fun hc3 => ?_)
  · have hc3 : (d q) = 1000000 := hc3
    refine v_push (1000000) (hz_X12_wayOf hT _ _ rfl) rfl ?_
    refine v_goto (hz_X12_wayOf hT _ _ rfl) ?_
    refine v_ret (hz_X12_wayOf hT _ _ rfl) (Or.inl rfl) ?_
    exact k0 ha1 hb2 hc3
  · have hc3 : (d q) ≠ 1000000 := hc3
    refine v_load (v := (2, 121)) (hz_X12_wayOf hT _ _ rfl) rfl rfl ?_
    refine v_getR (c := 130) (r := 121) (hz_X12_wayOf hT _ _ rfl) rfl rfl rfl ?_
    refine v_load (v := (0, ((gJ P q : Nat) : Int))) (hz_X12_wayOf hT _ _ rfl) rfl rfl ?_
    refine v_aldB (t := 0) (r := 130) (w := (d q)) (hz_X12_wayOf hT _ _ rfl) rfl rfl rfl (fun _ _ => (congrArg Prod.snd eq)) (fun ha4 hb5 => ?_)
    refine v_push (100) (hz_X12_wayOf hT _ _ rfl) rfl ?_
    refine v_div (w := ((d q) / 100)) (hz_X12_wayOf hT _ _ rfl) (fun _ => hq_quo (by omega) (by omega) (by omega) (by omega)) (fun hc6 => ?_)
    refine v_ret (hz_X12_wayOf hT _ _ rfl) (Or.inl rfl) ?_
    exact k1 ha1 hb2 hc3
theorem qr_tw0 {D : zD} {T : zT} (hT : hTab T) (hO : vOK T) {N : Nat} {h : zH} {Q : zR → Prop} (cp x y : Int) (hv0 : zHv h)
    (k0 : vP D T N 336 0 h [some (2, 121), some (0, cp), some (0, x), some (0, y), none, none, none, none] [] (fun r1 => vP D T N 324 7 r1.1 [some (2, 121), some (0, cp), some (0, x), some (0, y), none, none, none] (zpush r1.2 []) Q)) :
    vP D T N 324 0 h [some (2, 121), some (0, cp), some (0, x), some (0, y), none, none, none] [] Q := by
  refine v_load (v := (2, 121)) (hz_X12_tellWay hT _ _ rfl) rfl rfl ?_
  refine v_load (v := (0, cp)) (hz_X12_tellWay hT _ _ rfl) rfl rfl ?_
  refine v_load (v := (0, x)) (hz_X12_tellWay hT _ _ rfl) rfl rfl ?_
  refine v_load (v := (0, y)) (hz_X12_tellWay hT _ _ rfl) rfl rfl ?_
  refine v_call (w := 8) [some (2, 121), some (0, cp), some (0, x), some (0, y), none, none, none, none] hO (hz_X12_tellWay hT _ _ rfl) rfl rfl ?_
  exact k0 
theorem qr_tw7 {D : zD} {T : zT} (hT : hTab T) (hO : vOK T) {N : Nat} {h : zH} {Q : zR → Prop} (cp x y p : Int) (hv0 : zHv h)
    (k0 : (p = 1000000) → Q (zset h 121 31 (0, 0), some (0, 1000000)))
    (k1 : (p ≠ 1000000) → vP D T N 324 41 (zset (zset (zset h 121 31 (0, 0)) 132 0 (0, x)) 121 31 (0, 1)) [some (2, 121), some (0, cp), some (0, x), some (0, y), some (0, p), some (0, x), none] [] Q) :
    vP D T N 324 7 h [some (2, 121), some (0, cp), some (0, x), some (0, y), none, none, none] [(0, p)] Q := by
  refine v_store1 [some (2, 121), some (0, cp), some (0, x), some (0, y), some (0, p), none, none] (hz_X12_tellWay hT _ _ rfl) ⟨rfl, Nat.ne_of_beq_eq_false rfl⟩ (Nat.le_of_ble_eq_true rfl) rfl ?_
  refine v_load (v := (2, 121)) (hz_X12_tellWay hT _ _ rfl) rfl rfl ?_
  refine v_push (0) (hz_X12_tellWay hT _ _ rfl) rfl ?_
  refine v_putf (r := 121) hO (hz_X12_tellWay hT _ _ rfl) rfl (fun hf1 => ?_)
  refine v_load (v := (0, p)) (hz_X12_tellWay hT _ _ rfl) rfl rfl ?_
  refine v_push (1000000) (hz_X12_tellWay hT _ _ rfl) rfl ?_
  refine v_ic (hz_X12_tellWay hT _ _ rfl) (fun hc2 => ?_) (fun hc2 => ?_)
  · have hc2 : p = 1000000 := hc2
    refine v_push (1000000) (hz_X12_tellWay hT _ _ rfl) rfl ?_
    refine v_ret (hz_X12_tellWay hT _ _ rfl) (Or.inl rfl) ?_
    exact k0 hc2
  · have hc2 : p ≠ 1000000 := hc2
    refine v_load (v := (0, x)) (hz_X12_tellWay hT _ _ rfl) rfl rfl ?_
    refine v_store1 [some (2, 121), some (0, cp), some (0, x), some (0, y), some (0, p), some (0, x), none] (hz_X12_tellWay hT _ _ rfl) ⟨rfl, Nat.ne_of_beq_eq_false rfl⟩ (Nat.le_of_ble_eq_true rfl) rfl ?_
    refine v_load (v := (2, 121)) (hz_X12_tellWay hT _ _ rfl) rfl rfl ?_
    refine v_getR (c := 132) (r := 121) (hz_X12_tellWay hT _ _ rfl) rfl rfl rfl ?_
    refine v_push (0) (hz_X12_tellWay hT _ _ rfl) rfl ?_
    refine v_load (v := (0, x)) (hz_X12_tellWay hT _ _ rfl) rfl rfl ?_
    refine v_ast (r := 132) (hz_X12_tellWay hT _ _ rfl) rfl rfl (fun ha3 hb4 hf5 => ?_)
    refine v_load (v := (2, 121)) (hz_X12_tellWay hT _ _ rfl) rfl rfl ?_
    refine v_push (1) (hz_X12_tellWay hT _ _ rfl) rfl ?_
    refine v_putf (r := 121) hO (hz_X12_tellWay hT _ _ rfl) rfl (fun hf6 => ?_)
    exact k1 hc2
theorem qr_tw41_ {D : zD} {T : zT} (hT : hTab T) (hO : vOK T) {N : Nat} {h : zH} {Q : zR → Prop} {P : PT} (cp x y p a : Int) (o6 : Option zV) (hv0 : zHv h)
    (k0 : (a = y) → Q (h, some (0, p)))
    (k1 : (a ≠ y) → vP D T N 324 50 h [some (2, 121), some (0, cp), some (0, x), some (0, y), some (0, p), some (0, a), some (0, 0)] [] Q) :
    vP D T (N + 1) 324 41 h [some (2, 121), some (0, cp), some (0, x), some (0, y), some (0, p), some (0, a), o6] [] Q := by
  refine v_loadS (v := (0, a)) (hz_X12_tellWay hT _ _ rfl) rfl rfl ?_
  refine v_load (v := (0, y)) (hz_X12_tellWay hT _ _ rfl) rfl rfl ?_
  refine v_ic (hz_X12_tellWay hT _ _ rfl) (fun hc1 => ?_) (fun hc1 => ?_)
  · have hc1 : a = y := hc1
    refine v_load (v := (0, p)) (hz_X12_tellWay hT _ _ rfl) rfl rfl ?_
    refine v_ret (hz_X12_tellWay hT _ _ rfl) (Or.inl rfl) ?_
    exact k0 hc1
  · have hc1 : a ≠ y := hc1
    refine v_push (0) (hz_X12_tellWay hT _ _ rfl) rfl ?_
    refine v_store1 [some (2, 121), some (0, cp), some (0, x), some (0, y), some (0, p), some (0, a), some (0, 0)] (hz_X12_tellWay hT _ _ rfl) ⟨rfl, Nat.ne_of_beq_eq_false rfl⟩ (Nat.le_of_ble_eq_true rfl) rfl ?_
    exact k1 hc1
theorem qr_tw50 {D : zD} {T : zT} (hT : hTab T) (hO : vOK T) {N : Nat} {h : zH} {Q : zR → Prop} {P : PT} {q e : Nat} {d : Nat → Int} (cp x y p : Int) (hv0 : zHv h) (hR : rBk 0 P h) (hb : fB P) (gq : gIn P q) (hq : gJ P q < 48) (he : e < 4) (h1 : -1 ≤ cp) (h3 : cp < 3) (hd : ∀ r, gIn P r → h 130 (gJ P r) = (0, d r) ∧ 0 ≤ d r ∧ d r ≤ 1000000) (eq : h 130 (gJ P q) = (0, d q))
    (k0 : (0 ≤ ((gJ P q : Nat) : Int)) → (((gJ P q : Nat) : Int) < 48) → ((gGo P cp d q e) = (d q)) → vP D T N 324 75 h [some (2, 121), some (0, cp), some (0, x), some (0, y), some (0, p), some (0, ((gJ P q : Nat) : Int)), some (0, (e : Int))] [] Q)
    (k1 : (0 ≤ ((gJ P q : Nat) : Int)) → (((gJ P q : Nat) : Int) < 48) → ((gGo P cp d q e) ≠ (d q)) → vP D T N 324 50 h [some (2, 121), some (0, cp), some (0, x), some (0, y), some (0, p), some (0, ((gJ P q : Nat) : Int)), some (0, ((e : Int) + 1))] [] Q) :
    vP D T (N + 1) 324 50 h [some (2, 121), some (0, cp), some (0, x), some (0, y), some (0, p), some (0, ((gJ P q : Nat) : Int)), some (0, (e : Int))] [] Q := by
  refine v_loadS (v := (2, 121)) (hz_X12_tellWay hT _ _ rfl) rfl rfl ?_
  refine v_load (v := (0, cp)) (hz_X12_tellWay hT _ _ rfl) rfl rfl ?_
  refine v_load (v := (0, ((gJ P q : Nat) : Int))) (hz_X12_tellWay hT _ _ rfl) rfl rfl ?_
  refine v_load (v := (0, (e : Int))) (hz_X12_tellWay hT _ _ rfl) rfl rfl ?_
  refine v_call (w := 5) [some (2, 121), some (0, cp), some (0, ((gJ P q : Nat) : Int)), some (0, (e : Int)), none] hO (hz_X12_tellWay hT _ _ rfl) rfl rfl (rb_go hT hO cp ((e : Int)) q e rfl (by omega) gq hR hb (by omega) (by omega) hd ?_)
  show vP D T N 324 59 h [some (2, 121), some (0, cp), some (0, x), some (0, y), some (0, p), some (0, ((gJ P q : Nat) : Int)), some (0, (e : Int))] [(0, (gGo P cp d q e))] _
  refine v_load (v := (2, 121)) (hz_X12_tellWay hT _ _ rfl) rfl rfl ?_
  refine v_getR (c := 130) (r := 121) (hz_X12_tellWay hT _ _ rfl) rfl rfl rfl ?_
  refine v_load (v := (0, ((gJ P q : Nat) : Int))) (hz_X12_tellWay hT _ _ rfl) rfl rfl ?_
  refine v_aldB (t := 0) (r := 130) (w := (d q)) (hz_X12_tellWay hT _ _ rfl) rfl rfl rfl (fun _ _ => (congrArg Prod.snd eq)) (fun ha1 hb2 => ?_)
  refine v_ic (hz_X12_tellWay hT _ _ rfl) (fun hc3 => ?_) (fun hc3 => ?_)
  · have hc3 : (gGo P cp d q e) = (d q) := hc3
    exact k0 ha1 hb2 hc3
  · have hc3 : (gGo P cp d q e) ≠ (d q) := hc3
    refine v_iinc (x := (e : Int)) (u := 1) (w := ((e : Int) + 1)) [some (2, 121), some (0, cp), some (0, x), some (0, y), some (0, p), some (0, ((gJ P q : Nat) : Int)), some (0, ((e : Int) + 1))] (hz_X12_tellWay hT _ _ rfl) rfl rfl (Nat.le_of_ble_eq_true rfl) (vz_inc (by omega) (by omega)) rfl ?_
    refine v_goto (hz_X12_tellWay hT _ _ rfl) ?_
    exact k1 ha1 hb2 hc3
theorem qr_tw75 {D : zD} {T : zT} (hT : hTab T) (hO : vOK T) {N : Nat} {h : zH} {Q : zR → Prop} {P : PT} {q e n : Nat} (cp x y p : Int) (hv0 : zHv h) (hR : rBk 0 P h) (hb : fB P) (gq : gIn P q) (he : e < 4) (en : h 121 31 = (0, (n : Int))) (bn : n < 49)
    (k0 : (gNb P q e = -1) → (0 ≤ (n : Int)) → ((n : Int) < 49) → vP D T N 324 41 (zset (zset h 132 (((n : Int)).toNat) (0, -1)) 121 31 (0, ((n : Int) + 1))) [some (2, 121), some (0, cp), some (0, x), some (0, y), some (0, p), some (0, -1), some (0, (e : Int))] [] Q)
    (k1 : ∀ (q1 : Nat), (gNb P q e = (q1 : Int)) → (gIn P q1) → (0 ≤ (n : Int)) → ((n : Int) < 49) → vP D T N 324 41 (zset (zset h 132 (((n : Int)).toNat) (0, ((gJ P q1 : Nat) : Int))) 121 31 (0, ((n : Int) + 1))) [some (2, 121), some (0, cp), some (0, x), some (0, y), some (0, p), some (0, ((gJ P q1 : Nat) : Int)), some (0, (e : Int))] [] Q) :
    vP D T N 324 75 h [some (2, 121), some (0, cp), some (0, x), some (0, y), some (0, p), some (0, ((gJ P q : Nat) : Int)), some (0, (e : Int))] [] Q := by
  refine v_load (v := (2, 121)) (hz_X12_tellWay hT _ _ rfl) rfl rfl ?_
  refine v_load (v := (0, ((gJ P q : Nat) : Int))) (hz_X12_tellWay hT _ _ rfl) rfl rfl ?_
  refine v_load (v := (0, (e : Int))) (hz_X12_tellWay hT _ _ rfl) rfl rfl ?_
  refine v_call (w := 5) [some (2, 121), some (0, ((gJ P q : Nat) : Int)), some (0, (e : Int)), none, none] hO (hz_X12_tellWay hT _ _ rfl) rfl rfl (rb_bes hT hO ((e : Int)) q e rfl gq (by omega) hR.w hR.r hb.1 (fun en1 => ?_) (fun q1 en1 hg1 => ?_))
  · show vP D T N 324 83 h [some (2, 121), some (0, cp), some (0, x), some (0, y), some (0, p), some (0, ((gJ P q : Nat) : Int)), some (0, (e : Int))] [(0, -1)] _
    refine v_store1 [some (2, 121), some (0, cp), some (0, x), some (0, y), some (0, p), some (0, -1), some (0, (e : Int))] (hz_X12_tellWay hT _ _ rfl) ⟨rfl, Nat.ne_of_beq_eq_false rfl⟩ (Nat.le_of_ble_eq_true rfl) rfl ?_
    refine v_load (v := (2, 121)) (hz_X12_tellWay hT _ _ rfl) rfl rfl ?_
    refine v_getR (c := 132) (r := 121) (hz_X12_tellWay hT _ _ rfl) rfl rfl rfl ?_
    refine v_load (v := (2, 121)) (hz_X12_tellWay hT _ _ rfl) rfl rfl ?_
    refine v_getf (v := (0, (n : Int))) (r := 121) (hz_X12_tellWay hT _ _ rfl) rfl rfl (fun _ => en) ?_
    refine v_load (v := (0, -1)) (hz_X12_tellWay hT _ _ rfl) rfl rfl ?_
    refine v_ast (r := 132) (hz_X12_tellWay hT _ _ rfl) rfl rfl (fun ha2 hb3 hf4 => ?_)
    refine v_load (v := (2, 121)) (hz_X12_tellWay hT _ _ rfl) rfl rfl ?_
    refine v_dup (hz_X12_tellWay hT _ _ rfl) (Nat.ne_of_beq_eq_false rfl) ?_
    refine v_getf (v := (0, (n : Int))) (r := 121) (hz_X12_tellWay hT _ _ rfl) rfl rfl (fun _ => Eq.trans (zset_ne (fun c => absurd c.1 (by decide))) (en)) ?_
    refine v_push (1) (hz_X12_tellWay hT _ _ rfl) rfl ?_
    refine v_bin (w := ((n : Int) + 1)) (hz_X12_tellWay hT _ _ rfl) (hq_add (by omega) (by omega)) ?_
    refine v_putf (r := 121) hO (hz_X12_tellWay hT _ _ rfl) rfl (fun hf5 => ?_)
    refine v_goto (hz_X12_tellWay hT _ _ rfl) ?_
    exact k0 en1 ha2 hb3
  · show vP D T N 324 83 h [some (2, 121), some (0, cp), some (0, x), some (0, y), some (0, p), some (0, ((gJ P q : Nat) : Int)), some (0, (e : Int))] [(0, ((gJ P q1 : Nat) : Int))] _
    refine v_store1 [some (2, 121), some (0, cp), some (0, x), some (0, y), some (0, p), some (0, ((gJ P q1 : Nat) : Int)), some (0, (e : Int))] (hz_X12_tellWay hT _ _ rfl) ⟨rfl, Nat.ne_of_beq_eq_false rfl⟩ (Nat.le_of_ble_eq_true rfl) rfl ?_
    refine v_load (v := (2, 121)) (hz_X12_tellWay hT _ _ rfl) rfl rfl ?_
    refine v_getR (c := 132) (r := 121) (hz_X12_tellWay hT _ _ rfl) rfl rfl rfl ?_
    refine v_load (v := (2, 121)) (hz_X12_tellWay hT _ _ rfl) rfl rfl ?_
    refine v_getf (v := (0, (n : Int))) (r := 121) (hz_X12_tellWay hT _ _ rfl) rfl rfl (fun _ => en) ?_
    refine v_load (v := (0, ((gJ P q1 : Nat) : Int))) (hz_X12_tellWay hT _ _ rfl) rfl rfl ?_
    refine v_ast (r := 132) (hz_X12_tellWay hT _ _ rfl) rfl rfl (fun ha6 hb7 hf8 => ?_)
    refine v_load (v := (2, 121)) (hz_X12_tellWay hT _ _ rfl) rfl rfl ?_
    refine v_dup (hz_X12_tellWay hT _ _ rfl) (Nat.ne_of_beq_eq_false rfl) ?_
    refine v_getf (v := (0, (n : Int))) (r := 121) (hz_X12_tellWay hT _ _ rfl) rfl rfl (fun _ => Eq.trans (zset_ne (fun c => absurd c.1 (by decide))) (en)) ?_
    refine v_push (1) (hz_X12_tellWay hT _ _ rfl) rfl ?_
    refine v_bin (w := ((n : Int) + 1)) (hz_X12_tellWay hT _ _ rfl) (hq_add (by omega) (by omega)) ?_
    refine v_putf (r := 121) hO (hz_X12_tellWay hT _ _ rfl) rfl (fun hf9 => ?_)
    refine v_goto (hz_X12_tellWay hT _ _ rfl) ?_
    exact k1 q1 en1 hg1 ha6 hb7
/-- wayOf(): all weights, round by round -/
theorem rx_woL {D : zD} {T : zT} (hT : hTab T) (hO : vOK T) {h : zH} {Q : zR → Prop} {P : PT} {co : Nat → Int} {cp : Int} {fr to : Nat} (hR : rBk 0 P h) (hb : fB P) (h1 : -1 ≤ cp) (h3 : cp < 3) (gf : gIn P fr) (hco : ∀ q, gIn P q → rC P cp q = co q) (k : ∀ (g : zH) (d : Nat → Int), (∀ a b, a ≠ 130 → g a b = h a b) → wD (gIn P) (gNb P) co g100 to d → oHp P d g → Q (g, some (0, if d fr = 1000000 then 1000000 else d fr / 100))) : ∀ N, (∀ (h' : zH) (d : Nat → Int) (m : Int) (o5 o6 o7 : Option zV), (m = 0 → ∀ q : Nat, gIn P q → ∀ e : Nat, e < 4 → d q ≤ gGo P cp d q e) → oU P cp to d → oHp P d h' → (∀ a b, a ≠ 130 → h' a b = h a b) → vP D T N 336 38 h' [some (2, 121), some (0, cp), some (0, ((gJ P fr : Nat) : Int)), some (0, ((gJ P to : Nat) : Int)), some (0, m), o5, o6, o7] [] Q) ∧ (∀ (h' : zH) (d : Nat → Int) (m : Int) (n : Nat) (o6 o7 : Option zV), n ≤ (P 0 0).toNat * (P 0 1).toNat → oRL P cp d m n 0 → oU P cp to d → oHp P d h' → (∀ a b, a ≠ 130 → h' a b = h a b) → vP D T N 336 49 h' [some (2, 121), some (0, cp), some (0, ((gJ P fr : Nat) : Int)), some (0, ((gJ P to : Nat) : Int)), some (0, m), some (0, (n : Int)), o6, o7] [] Q) ∧ (∀ (h' : zH) (d : Nat → Int) (m : Int) (q e : Nat) (o7 : Option zV), gIn P q → e ≤ 4 → oRL P cp d m (gJ P q) e → oU P cp to d → oHp P d h' → (∀ a b, a ≠ 130 → h' a b = h a b) → vP D T N 336 61 h' [some (2, 121), some (0, cp), some (0, ((gJ P fr : Nat) : Int)), some (0, ((gJ P to : Nat) : Int)), some (0, m), some (0, ((gJ P q : Nat) : Int)), some (0, (e : Int)), o7] [] Q) := by
  have lb := hb.1
  have w6 : wFar = 1000000 := rfl
  have wr : (((P 0 0).toNat * (P 0 1).toNat : Nat) : Int) = P 0 0 * P 0 1 := by rw [Int.natCast_mul, Int.toNat_of_nonneg lb.1.1, Int.toNat_of_nonneg lb.2.1.1]
  have c0 : ∀ q, gIn P q → 0 ≤ rC P cp q := fun q g => (rC_b hb g.1).1
  have fR : ∀ h' : zH, (∀ a b, a ≠ 130 → h' a b = h a b) → rBk 0 P h' := fun h' f => hR.eq lb (fun b _ _ => f 126 b (by decide))
  intro N
  induction N with
  | zero => exact ⟨fun _ _ _ _ _ _ _ _ _ _ _ n r hn => absurd hn (Nat.not_lt_zero _), fun _ _ _ _ _ _ _ _ _ _ _ _ n r hn => absurd hn (Nat.not_lt_zero _), fun _ _ _ _ _ _ _ _ _ _ _ _ _ n r hn => absurd hn (Nat.not_lt_zero _)⟩
  | succ N ih =>
    obtain ⟨ihA, ihB, ihC⟩ := ih
    refine ⟨?_, ?_, ?_⟩
    · intro h' d m o5 o6 o7 hm hu hp hf
      refine vP_hv (fun hv => qr_wo38 hT hO cp ((gJ P fr : Nat) : Int) ((gJ P to : Nat) : Int) m o5 o6 o7 hv ?_ ?_)
      · intro c
        have hd := oU_D hu hco (hm c)
        have kk := k h' d hf hd hp
        refine vP_hv (fun hv => qr_wo120 hT hO (P := P) (q := fr) (d := d) cp ((gJ P to : Nat) : Int) m o5 o6 o7 hv (hp fr gf) (gJ_lt lb gf) (hu.2.1 fr gf) ?_ ?_)
        · intro _ _ c
          exact cb_eq kk (if_pos c)
        · intro _ _ c
          exact cb_eq kk (if_neg c)
      · intro c
        exact ihB h' d 0 0 _ _ (Nat.zero_le _) (fun _ q' _ e' _ c => by omega) hu hp hf
    · intro h' d m n o6 o7 hn hr hu hp hf
      have hR' := fR h' hf
      refine vP_hv (fun hv => qr_wo49 hT hO (P := P) (n := n) cp ((gJ P fr : Nat) : Int) ((gJ P to : Nat) : Int) m o6 o7 hv hR' hb ?_ ?_)
      · intro c
        obtain ⟨g1, g2⟩ := gQ_ok lb (n := n) (by omega)
        have := ihC h' d m (gQ P n) 0 o7 g1 (by decide) (by rw [g2]; exact hr) hu hp hf
        rw [g2] at this
        exact this
      · intro c
        refine ihA h' d m _ _ _ (fun em q gq e he => hr em q gq e he (Or.inl ?_)) hu hp hf
        have := gJ_all lb gq
        omega
    · intro h' d m q e o7 gq he hr hu hp hf
      have hR' := fR h' hf
      refine vP_hv (fun hv => qr_wo61 hT hO (P := P) (q := q) (e := e) (d := d) cp ((gJ P fr : Nat) : Int) ((gJ P to : Nat) : Int) m o7 hv hR' hb gq (gJ_lt lb gq) he h1 h3 (oU_b hu hp) (hp q gq) ?_ ?_ ?_)
      · intro c1 _ _ c2
        have hu2 := oU_set lb hu c0 gq (by omega) c2
        refine ihC _ (fun x => if x = q then gGo P cp d q e else d x) 1 q (e + 1) _ gq (by omega) (fun em => by omega) hu2 (fun r gr => ?_) (fun a b ha => (zset_ne (fun c => ha c.1)).trans (hf a b ha))
        show zset h' 130 (((gJ P q : Nat) : Int)).toNat (0, gGo P cp d q e) 130 (gJ P r) = (0, if r = q then gGo P cp d q e else d r)
        rw [Int.toNat_natCast]
        by_cases c : r = q
        · rw [c, if_pos rfl]; exact zset_same
        · rw [if_neg c]
          exact (zset_ne (fun f => c (gJ_inj lb gr gq f.2))).trans (hp r gr)
      · intro c1 _ _ c2
        refine ihC h' d m q (e + 1) _ gq (by omega) (fun em q' g' e' he' c => ?_) hu hp hf
        by_cases cc : gJ P q' = gJ P q ∧ e' = e
        · have := gJ_inj lb g' gq cc.1
          rw [this, cc.2]
          exact c2
        · exact hr em q' g' e' he' (by omega)
      · intro c1
        have hn := gJ_all lb gq
        exact ihB h' d m (gJ P q + 1) _ _ (by omega) (fun em q' g' e' he' c => hr em q' g' e' he' (by omega)) hu hp hf
theorem rx_wo {D : zD} {T : zT} (hT : hTab T) (hO : vOK T) {N : Nat} {h : zH} {Q : zR → Prop} {P : PT} {co : Nat → Int} (cp : Int) (fr to : Nat) (hR : rBk 0 P h) (hb : fB P) (h1 : -1 ≤ cp) (h3 : cp < 3) (gf : gIn P fr) (gt : gIn P to) (hco : ∀ q, gIn P q → rC P cp q = co q) (k : ∀ (g : zH) (d : Nat → Int), (∀ a b, a ≠ 130 → g a b = h a b) → wD (gIn P) (gNb P) co g100 to d → oHp P d g → Q (g, some (0, if d fr = 1000000 then 1000000 else d fr / 100))) : vP D T N 336 0 h [some (2, 121), some (0, cp), some (0, ((gJ P fr : Nat) : Int)), some (0, ((gJ P to : Nat) : Int)), none, none, none, none] [] Q := by
  have lb := hb.1
  have wr : (((P 0 0).toNat * (P 0 1).toNat : Nat) : Int) = P 0 0 * P 0 1 := by rw [Int.natCast_mul, Int.toNat_of_nonneg lb.1.1, Int.toNat_of_nonneg lb.2.1.1]
  refine vP_hv (fun hv => qr_wo0 hT hO cp ((gJ P fr : Nat) : Int) ((gJ P to : Nat) : Int) hv ?_)
  refine vP_loop (fun h' l => ∃ (i : Nat) (o5 o6 o7 : Option zV), l = [some (2, 121), some (0, cp), some (0, ((gJ P fr : Nat) : Int)), some (0, ((gJ P to : Nat) : Int)), some (0, (i : Int)), o5, o6, o7] ∧ i ≤ (P 0 0).toNat * (P 0 1).toNat ∧ (∀ j, j < i → h' 130 j = (0, 1000000)) ∧ (∀ a b, a ≠ 130 → h' a b = h a b)) ?_ N h _ ⟨0, none, none, none, rfl, Nat.zero_le _, fun j hj => absurd hj (Nat.not_lt_zero _), fun _ _ _ => rfl⟩
  rintro N h' l ⟨i, o5, o6, o7, rfl, hi, hj, hf⟩ ih
  have hR' : rBk 0 P h' := hR.eq lb (fun b _ _ => hf 126 b (by decide))
  have l64 := wy_b lb.1 (y := P 0 1) ⟨lb.2.1.1, by have := lb.2.1.2; omega⟩
  refine vP_hv (fun hv => qr_wo3 hT hO (P := P) (q := to) (i := i) cp ((gJ P fr : Nat) : Int) o5 o6 o7 hv hR' hb (gJ_lt lb gt) (by omega) ?_ ?_)
  · intro c1 _ _
    refine ih _ _ ⟨i + 1, o5, o6, o7, rfl, by omega, fun j hj' => ?_, fun a b ha => (zset_ne (fun c => ha c.1)).trans (hf a b ha)⟩
    rw [Int.toNat_natCast]
    by_cases c : j = i
    · rw [c]; exact zset_same
    · exact (zset_ne (fun f => c f.2)).trans (hj j (by omega))
  · intro c1 _ _
    refine (rx_woL hT hO hR hb h1 h3 gf hco k N).1 _ (fun x => if x = to then 0 else 1000000) 1 _ _ _ (fun c => by omega) oU_ini (fun r gr => ?_) (fun a b ha => (zset_ne (fun c => ha c.1)).trans (hf a b ha))
    show zset h' 130 (((gJ P to : Nat) : Int)).toNat (0, 0) 130 (gJ P r) = (0, if r = to then (0 : Int) else 1000000)
    rw [Int.toNat_natCast]
    by_cases c : r = to
    · rw [c, if_pos rfl]; exact zset_same
    · rw [if_neg c]
      have := gJ_all lb gr
      exact (zset_ne (fun f => c (gJ_inj lb gr gt f.2))).trans (hj _ (by omega))
/-- tellWay(): the row itself -/
theorem rx_twL {D : zD} {T : zT} (hT : hTab T) (hO : vOK T) {h : zH} {Q : zR → Prop} {P : PT} {co d : Nat → Int} {cp p : Int} {fr to : Nat} (hR : rBk 0 P h) (hb : fB P) (h1 : -1 ≤ cp) (h3 : cp < 3) (gf : gIn P fr) (ff : d fr < wFar) (hco : ∀ q, gIn P q → rC P cp q = co q) (hD : wD (gIn P) (gNb P) co g100 to d) (hp : oHp P d h) (gt : gIn P to) (k : ∀ g : zH, rwF h g → rHp P (wPt (gNb P) co d fr) (d fr % 100).toNat g → Q (g, some (0, p))) : ∀ N, (∀ (h' : zH) (n : Nat) (o6 : Option zV), (n : Int) ≤ d fr % 100 → rwF h h' → (∀ r, gIn P r → h' 130 (gJ P r) = h 130 (gJ P r)) → rHp P (wPt (gNb P) co d fr) n h' → vP D T N 324 41 h' [some (2, 121), some (0, cp), some (0, ((gJ P fr : Nat) : Int)), some (0, ((gJ P to : Nat) : Int)), some (0, p), some (0, ((gJ P (wPt (gNb P) co d fr n) : Nat) : Int)), o6] [] Q) ∧ (∀ (h' : zH) (n m : Nat), (n : Int) < d fr % 100 → m ≤ wDr (gNb P) co d (wPt (gNb P) co d fr n) → rwF h h' → (∀ r, gIn P r → h' 130 (gJ P r) = h 130 (gJ P r)) → rHp P (wPt (gNb P) co d fr) n h' → vP D T N 324 50 h' [some (2, 121), some (0, cp), some (0, ((gJ P fr : Nat) : Int)), some (0, ((gJ P to : Nat) : Int)), some (0, p), some (0, ((gJ P (wPt (gNb P) co d fr n) : Nat) : Int)), some (0, (m : Int))] [] Q) := by
  have lb := hb.1
  have hok := gOk lb
  have hcol : ∀ a, gIn P a → co a ≤ 14 := fun a ga => by rw [← hco a ga]; exact (rC_b hb ga.1).2
  have c0 : ∀ q, gIn P q → 0 ≤ rC P cp q := fun q g => (rC_b hb g.1).1
  have r47 := wrank2 hok.1 hcol hD gf ff
  have pt : ∀ n : Nat, (n : Int) ≤ d fr % 100 → gIn P (wPt (gNb P) co d fr n) ∧ d (wPt (gNb P) co d fr n) < wFar := fun n hn => ⟨(wPt_ok hok hcol hD gf ff n hn).1, (wPt_ok hok hcol hD gf ff n hn).2.1⟩
  have fR : ∀ h' : zH, rwF h h' → rBk 0 P h' := fun h' f => hR.eq lb (fun b _ _ => f 126 b (by omega))
  intro N
  induction N with
  | zero => exact ⟨fun _ _ _ _ _ _ _ _ n r hn => absurd hn (Nat.not_lt_zero _), fun _ _ _ _ _ _ _ _ _ n r hn => absurd hn (Nat.not_lt_zero _)⟩
  | succ N ih =>
    constructor
    · intro h' n o6 hn hm he hh
      have wt := wPt_to hok hcol hD gf ff (i := n) hn
      refine vP_hv (fun hv => qr_tw41_ hT hO (P := P) cp ((gJ P fr : Nat) : Int) ((gJ P to : Nat) : Int) p ((gJ P (wPt (gNb P) co d fr n) : Nat) : Int) o6 hv ?_ ?_)
      · intro c
        have e := wt.mp (gJ_inj lb (pt n hn).1 gt (by omega))
        refine k h' hm ?_
        rw [show (d fr % 100).toNat = n by omega]
        exact hh
      · intro c
        have : (n : Int) ≠ d fr % 100 := fun e => c (by rw [wt.mpr e])
        exact ih.2 h' n 0 (by omega) (Nat.zero_le _) hm he hh
    · intro h' n m hn hm4 hm he hh
      obtain ⟨c1, f1⟩ := pt n (by omega)
      have nt : wPt (gNb P) co d fr n ≠ to := fun c => by
        have := (wPt_to hok hcol hD gf ff (i := n) (by omega)).mp c
        omega
      obtain ⟨k1, k2, k3, k4, k5, k6, k7, k8⟩ := wNx_ok hok hD c1 nt f1
      have hd' : ∀ r, gIn P r → h' 130 (gJ P r) = (0, d r) ∧ 0 ≤ d r ∧ d r ≤ 1000000 := fun r g => ⟨(he r g).trans (hp r g), hD.2.1.1 r g⟩
      have hR' := fR h' hm
      have hit := gGo_hit (P := P) (cp := cp) (co := co) lb hco c0 (fun q g => hD.2.1.1 q g) c1 f1 (k := m) (by omega)
      refine vP_hv (fun hv => qr_tw50 hT hO (P := P) (q := wPt (gNb P) co d fr n) (e := m) (d := d) cp ((gJ P fr : Nat) : Int) ((gJ P to : Nat) : Int) p hv hR' hb c1 (gJ_lt lb c1) (by omega) h1 h3 hd' (hd' _ c1).1 ?_ ?_)
      · intro _ _ c
        have em : m = wDr (gNb P) co d (wPt (gNb P) co d fr n) := by
          by_cases cc : m = wDr (gNb P) co d (wPt (gNb P) co d fr n)
          · exact cc
          · exact absurd (hit.mp c) (k3 m (by omega))
        refine vP_hv (fun hv => qr_tw75 hT hO (P := P) (q := wPt (gNb P) co d fr n) (e := m) (n := n + 1) cp ((gJ P fr : Nat) : Int) ((gJ P to : Nat) : Int) p hv hR' hb c1 (by omega) hh.2 (by omega) ?_ ?_)
        · intro f _ _
          rw [← em, f] at k5
          omega
        · intro q5 f g5 _ _
          have e5 : q5 = wPt (gNb P) co d fr (n + 1) := by
            rw [← em, f] at k5
            show q5 = wNx (gNb P) co d (wPt (gNb P) co d fr n)
            omega
          subst e5
          refine ih.1 _ (n + 1) _ (by omega) ((hm.z (by omega)).z (by omega)) (fun r g => (zset_ne (by omega)).trans ((zset_ne (by omega)).trans (he r g))) (rHp_s hh)
      · intro _ _ c
        refine ih.2 h' n (m + 1) hn ?_ hm he hh
        by_cases cc : m = wDr (gNb P) co d (wPt (gNb P) co d fr n)
        · exact absurd (hit.mpr (by rw [cc]; exact k2)) c
        · omega
theorem rx_tw {D : zD} {T : zT} (hT : hTab T) (hO : vOK T) {N : Nat} {h : zH} {Q : zR → Prop} {P : PT} {co : Nat → Int} (cp : Int) (fr to : Nat) (hR : rBk 0 P h) (hb : fB P) (h1 : -1 ≤ cp) (h3 : cp < 3) (gf : gIn P fr) (gt : gIn P to) (hco : ∀ q, gIn P q → rC P cp q = co q) (k1 : ∀ g : zH, rwF h g → yCost P co fr to = -1 → Q (g, some (0, 1000000))) (k2 : ∀ g : zH, rwF h g → 0 ≤ yCost P co fr to → yCost P co fr to < 1000000 → rHp P (yPt P co fr to) (yN P co fr to) g → Q (g, some (0, yCost P co fr to))) : vP D T N 324 0 h [some (2, 121), some (0, cp), some (0, ((gJ P fr : Nat) : Int)), some (0, ((gJ P to : Nat) : Int)), none, none, none] [] Q := by
  have lb := hb.1
  have w6 : wFar = 1000000 := rfl
  refine vP_hv (fun hv => qr_tw0 hT hO cp ((gJ P fr : Nat) : Int) ((gJ P to : Nat) : Int) hv ?_)
  refine rx_wo hT hO cp fr to hR hb h1 h3 gf gt hco ?_
  intro g d u1 hD hp
  have hDW := dW_ok (P := P) (co := co) (to := to)
  have ed : ∀ q, gIn P q → d q = dW P co to q := fun q gq => wD_uni g100_p hD hDW gq
  have hp' : oHp P (dW P co to) g := fun r gr => (hp r gr).trans (by rw [ed r gr])
  have bd := hDW.2.1.1 fr gf
  rw [ed fr gf]
  show vP D T N 324 7 g [some (2, 121), some (0, cp), some (0, ((gJ P fr : Nat) : Int)), some (0, ((gJ P to : Nat) : Int)), none, none, none] [(0, if dW P co to fr = 1000000 then 1000000 else dW P co to fr / 100)] Q
  refine vP_hv (fun hv1 => qr_tw7 hT hO cp ((gJ P fr : Nat) : Int) ((gJ P to : Nat) : Int) (if dW P co to fr = 1000000 then 1000000 else dW P co to fr / 100) hv1 ?_ ?_)
  · intro c
    have ff : ¬ dW P co to fr < wFar := fun c2 => by
      rw [if_neg (by omega)] at c
      omega
    exact k1 _ (fun a b hn => (zset_ne (by omega)).trans (u1 a b (by omega))) (if_neg ff)
  · intro c
    have ff : dW P co to fr < wFar := by
      by_cases c2 : dW P co to fr = 1000000
      · rw [if_pos c2] at c
        exact absurd rfl c
      · omega
    have ec : yCost P co fr to = dW P co to fr / 100 := if_pos ff
    have e2 : (if dW P co to fr = 1000000 then (1000000 : Int) else dW P co to fr / 100) = yCost P co fr to := by rw [if_neg (by omega), ec]
    rw [e2]
    have hr : rBk 0 P (zset (zset (zset g 121 31 (0, 0)) 132 0 (0, ((gJ P fr : Nat) : Int))) 121 31 (0, 1)) := hR.eq lb (fun b _ _ => (zset_ne (by omega)).trans ((zset_ne (by omega)).trans ((zset_ne (by omega)).trans (u1 126 b (by omega)))))
    refine (rx_twL hT hO (p := yCost P co fr to) hr hb h1 h3 gf ff hco hDW (fun r gr => (zset_ne (by omega)).trans ((zset_ne (by omega)).trans ((zset_ne (by omega)).trans (hp' r gr)))) gt (fun g2 v1 v2 => k2 g2 (fun a b hn => (v1 a b hn).trans ((zset_ne (by omega)).trans ((zset_ne (by omega)).trans ((zset_ne (by omega)).trans (u1 a b (by omega)))))) (by omega) (by omega) v2) N).1 _ 0 _ (by omega) (fun _ _ _ => rfl) (fun _ _ => rfl) ⟨fun i hi => ?_, zset_same⟩
    have : i = 0 := by omega
    subst this
    exact (zset_ne (by omega)).trans zset_same
end
