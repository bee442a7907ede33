theorem qk_dc0_39 {D : zD} {T : zT} (hT : hTab T) (hO : vOK T) {N : Nat} {h : zH} {Q : zR → Prop} {P : PT} (hv0 : zHv h) (e2 : h 117 2 = (2, 39)) (p0 : h 39 0 = (0, P 0 0))
    (k0 : vP D T N 93 0 h [some (2, 117), some (0, (P 0 0))] [] (fun r1 => vP D T N 94 11 r1.1 [some (2, 117), none, none] (zpush r1.2 []) Q)) :
    vP D T N 94 0 h [some (2, 117), none, none] [] Q := by
  refine v_load (v := (2, 117)) (hz_X7_drawCell hT _ _ rfl) rfl rfl ?_
  refine v_load (v := (2, 117)) (hz_X7_drawCell hT _ _ rfl) rfl rfl ?_
  refine v_getf (v := (2, 39)) (r := 117) (hz_X7_drawCell hT _ _ rfl) rfl rfl (fun _ => e2) ?_
  refine v_getf (v := (0, (P 0 0))) (r := 39) (hz_X7_drawCell hT _ _ rfl) rfl rfl (fun _ => p0) ?_
  refine v_call (w := 2) [some (2, 117), some (0, (P 0 0))] hO (hz_X7_drawCell hT _ _ rfl) rfl rfl ?_
  exact k0 
theorem qk_dc11_39 {D : zD} {T : zT} (hT : hTab T) (hO : vOK T) {N : Nat} {h : zH} {Q : zR → Prop} {P : PT} (x : Int) (hv0 : zHv h) (e2 : h 117 2 = (2, 39)) (p1 : h 39 1 = (0, P 0 1))
    (k0 : vP D T N 93 0 h [some (2, 117), some (0, (P 0 1))] [] (fun r1 => vP D T N 94 23 r1.1 [some (2, 117), some (0, x), none] (zpush r1.2 []) Q)) :
    vP D T N 94 11 h [some (2, 117), none, none] [(0, x)] Q := by
  refine v_store1 [some (2, 117), some (0, x), none] (hz_X7_drawCell hT _ _ rfl) ⟨rfl, Nat.ne_of_beq_eq_false rfl⟩ (Nat.le_of_ble_eq_true rfl) rfl ?_
  refine v_load (v := (2, 117)) (hz_X7_drawCell hT _ _ rfl) rfl rfl ?_
  refine v_load (v := (2, 117)) (hz_X7_drawCell hT _ _ rfl) rfl rfl ?_
  refine v_getf (v := (2, 39)) (r := 117) (hz_X7_drawCell hT _ _ rfl) rfl rfl (fun _ => e2) ?_
  refine v_getf (v := (0, (P 0 1))) (r := 39) (hz_X7_drawCell hT _ _ rfl) rfl rfl (fun _ => p1) ?_
  refine v_call (w := 2) [some (2, 117), some (0, (P 0 1))] hO (hz_X7_drawCell hT _ _ rfl) rfl rfl ?_
  exact k0 
theorem qk_ec0_39 {D : zD} {T : zT} (hT : hTab T) (hO : vOK T) {N : Nat} {h : zH} {Q : zR → Prop} {j q : Nat} (hv0 : zHv h) (e2 : h 117 2 = (2, 39))
    (k0 : vP D T N 35 0 h [some (2, 39), some (0, (j : Int)), some (0, (q : Int))] [] (fun r1 => vP D T N 95 9 r1.1 [some (2, 117), some (0, (j : Int)), some (0, (q : Int))] (zpush r1.2 []) Q)) :
    vP D T N 95 0 h [some (2, 117), some (0, (j : Int)), some (0, (q : Int))] [] Q := by
  refine v_load (v := (2, 117)) (hz_X7_eatCell hT _ _ rfl) rfl rfl ?_
  refine v_getf (v := (2, 39)) (r := 117) (hz_X7_eatCell hT _ _ rfl) rfl rfl (fun _ => e2) ?_
  refine v_load (v := (0, (j : Int))) (hz_X7_eatCell hT _ _ rfl) rfl rfl ?_
  refine v_load (v := (0, (q : Int))) (hz_X7_eatCell hT _ _ rfl) rfl rfl ?_
  refine v_call (w := 3) [some (2, 39), some (0, (j : Int)), some (0, (q : Int))] hO (hz_X7_eatCell hT _ _ rfl) rfl rfl ?_
  exact k0 
theorem qk_mw15_39 {D : zD} {T : zT} (hT : hTab T) (hO : vOK T) {N : Nat} {h : zH} {Q : zR → Prop} {j b q i : Nat} (o : Option zV) (hv0 : zHv h) (e2 : h 117 2 = (2, 39)) (hib : (i : Int) < (b : Int))
    (k0 : vP D T N 93 0 h [some (2, 117), some (0, 4)] [] (fun r1 => vP D T N 98 31 r1.1 [some (2, 117), some (0, (j : Int)), some (0, (b : Int)), some (0, (q : Int)), some (0, (i : Int)), o] (zpush r1.2 [(0, (q : Int)), (2, 39)]) Q)) :
    vP D T N 98 15 h [some (2, 117), some (0, (j : Int)), some (0, (b : Int)), some (0, (q : Int)), some (0, (i : Int)), o] [] Q := by
  refine v_load (v := (0, (i : Int))) (hz_X7_letMouseWalk hT _ _ rfl) rfl rfl ?_
  refine v_load (v := (0, (b : Int))) (hz_X7_letMouseWalk hT _ _ rfl) rfl rfl ?_
  refine v_ic (hz_X7_letMouseWalk hT _ _ rfl) (fun _ => ?_) (fun hc1 => absurd (show (i : Int) < (b : Int) from hib) hc1)
  refine v_load (v := (2, 117)) (hz_X7_letMouseWalk hT _ _ rfl) rfl rfl ?_
  refine v_getf (v := (2, 39)) (r := 117) (hz_X7_letMouseWalk hT _ _ rfl) rfl rfl (fun _ => e2) ?_
  refine v_load (v := (0, (q : Int))) (hz_X7_letMouseWalk hT _ _ rfl) rfl rfl ?_
  refine v_load (v := (2, 117)) (hz_X7_letMouseWalk hT _ _ rfl) rfl rfl ?_
  refine v_push (4) (hz_X7_letMouseWalk hT _ _ rfl) rfl ?_
  refine v_call (w := 2) [some (2, 117), some (0, 4)] hO (hz_X7_letMouseWalk hT _ _ rfl) rfl rfl ?_
  exact k0 
theorem qk_mw31_39 {D : zD} {T : zT} (hT : hTab T) (hO : vOK T) {N : Nat} {h : zH} {Q : zR → Prop} {P : PT} {j b q i d : Nat} (o : Option zV) (hv0 : zHv h) (p0 : h 39 0 = (0, P 0 0)) (p1 : h 39 1 = (0, P 0 1)) (lb : lB P) (gq : gIn P q) (hd : d < 4)
    (k0 : (gNb P q d = -1) → vP D T N 95 0 h [some (2, 117), some (0, (j : Int)), some (0, (q : Int))] [] (fun r1 => vP D T N 98 55 r1.1 [some (2, 117), some (0, (j : Int)), some (0, (b : Int)), some (0, (q : Int)), some (0, (i : Int)), some (0, -1)] (zpush r1.2 []) Q))
    (k1 : ∀ (q1 : Nat), (gNb P q d = (q1 : Int)) → (gIn P q1) → ((q1 : Int) = -1) → vP D T N 95 0 h [some (2, 117), some (0, (j : Int)), some (0, (q : Int))] [] (fun r1 => vP D T N 98 55 r1.1 [some (2, 117), some (0, (j : Int)), some (0, (b : Int)), some (0, (q : Int)), some (0, (i : Int)), some (0, (q1 : Int))] (zpush r1.2 []) Q))
    (k2 : ∀ (q1 : Nat), (gNb P q d = (q1 : Int)) → (gIn P q1) → ((q1 : Int) ≠ -1) → vP D T N 95 0 h [some (2, 117), some (0, (j : Int)), some (0, (q1 : Int))] [] (fun r1 => vP D T N 98 55 r1.1 [some (2, 117), some (0, (j : Int)), some (0, (b : Int)), some (0, (q1 : Int)), some (0, (i : Int)), some (0, (q1 : Int))] (zpush r1.2 []) Q)) :
    vP D T N 98 31 h [some (2, 117), some (0, (j : Int)), some (0, (b : Int)), some (0, (q : Int)), some (0, (i : Int)), o] [(0, (d : Int)), (0, (q : Int)), (2, 39)] Q := by
  refine v_call (w := 4) [some (2, 39), some (0, (q : Int)), some (0, (d : Int)), none] hO (hz_X7_letMouseWalk hT _ _ rfl) rfl rfl (cb_bes_39 hT hO ((q : Int)) ((d : Int)) q d rfl rfl gq (by omega) p0 p1 lb (fun en1 => ?_) (fun q1 en1 hg1 => ?_))
  · show vP D T N 98 34 h [some (2, 117), some (0, (j : Int)), some (0, (b : Int)), some (0, (q : Int)), some (0, (i : Int)), o] [(0, -1)] _
    refine v_store1 [some (2, 117), some (0, (j : Int)), some (0, (b : Int)), some (0, (q : Int)), some (0, (i : Int)), some (0, -1)] (hi_X7_letMouseWalk_34 hT) ⟨rfl, Nat.ne_of_beq_eq_false rfl⟩ (Nat.le_of_ble_eq_true rfl) rfl ?_
    refine v_load (v := (0, -1)) (hi_X7_letMouseWalk_36 hT) rfl rfl ?_
    refine v_push (-1) (hi_X7_letMouseWalk_38 hT) rfl ?_
    refine v_ic (hi_X7_letMouseWalk_39 hT) (fun _ => ?_) (fun hc2 => absurd (show (-1 : Int) = -1 from (by decide)) hc2)
    refine v_load (v := (0, (q : Int))) (hi_X7_letMouseWalk_42 hT) rfl rfl ?_
    refine v_goto (hi_X7_letMouseWalk_43 hT) ?_
    refine v_store1 [some (2, 117), some (0, (j : Int)), some (0, (b : Int)), some (0, (q : Int)), some (0, (i : Int)), some (0, -1)] (hi_X7_letMouseWalk_48 hT) ⟨rfl, Nat.ne_of_beq_eq_false rfl⟩ (Nat.le_of_ble_eq_true rfl) rfl ?_
    refine v_load (v := (2, 117)) (hi_X7_letMouseWalk_49 hT) rfl rfl ?_
    refine v_load (v := (0, (j : Int))) (hi_X7_letMouseWalk_50 hT) rfl rfl ?_
    refine v_load (v := (0, (q : Int))) (hi_X7_letMouseWalk_51 hT) rfl rfl ?_
    refine v_call (w := 3) [some (2, 117), some (0, (j : Int)), some (0, (q : Int))] hO (hi_X7_letMouseWalk_52 hT) rfl rfl ?_
    exact k0 en1
  · show vP D T N 98 34 h [some (2, 117), some (0, (j : Int)), some (0, (b : Int)), some (0, (q : Int)), some (0, (i : Int)), o] [(0, (q1 : Int))] _
    refine v_store1 [some (2, 117), some (0, (j : Int)), some (0, (b : Int)), some (0, (q : Int)), some (0, (i : Int)), some (0, (q1 : Int))] (hi_X7_letMouseWalk_34 hT) ⟨rfl, Nat.ne_of_beq_eq_false rfl⟩ (Nat.le_of_ble_eq_true rfl) rfl ?_
    refine v_load (v := (0, (q1 : Int))) (hi_X7_letMouseWalk_36 hT) rfl rfl ?_
    refine v_push (-1) (hi_X7_letMouseWalk_38 hT) rfl ?_
    refine v_ic (hi_X7_letMouseWalk_39 hT) (fun hc3 => ?_) (fun hc3 => ?_)
    · have hc3 : (q1 : Int) = -1 := hc3
      refine v_load (v := (0, (q : Int))) (hi_X7_letMouseWalk_42 hT) rfl rfl ?_
      refine v_goto (hi_X7_letMouseWalk_43 hT) ?_
      refine v_store1 [some (2, 117), some (0, (j : Int)), some (0, (b : Int)), some (0, (q : Int)), some (0, (i : Int)), some (0, (q1 : Int))] (hi_X7_letMouseWalk_48 hT) ⟨rfl, Nat.ne_of_beq_eq_false rfl⟩ (Nat.le_of_ble_eq_true rfl) rfl ?_
      refine v_load (v := (2, 117)) (hi_X7_letMouseWalk_49 hT) rfl rfl ?_
      refine v_load (v := (0, (j : Int))) (hi_X7_letMouseWalk_50 hT) rfl rfl ?_
      refine v_load (v := (0, (q : Int))) (hi_X7_letMouseWalk_51 hT) rfl rfl ?_
      refine v_call (w := 3) [some (2, 117), some (0, (j : Int)), some (0, (q : Int))] hO (hi_X7_letMouseWalk_52 hT) rfl rfl ?_
      exact k1 q1 en1 hg1 hc3
    · have hc3 : (q1 : Int) ≠ -1 := hc3
      refine v_load (v := (0, (q1 : Int))) (hz_X7_letMouseWalk hT _ _ rfl) rfl rfl ?_
      refine v_store1 [some (2, 117), some (0, (j : Int)), some (0, (b : Int)), some (0, (q1 : Int)), some (0, (i : Int)), some (0, (q1 : Int))] (hi_X7_letMouseWalk_48 hT) ⟨rfl, Nat.ne_of_beq_eq_false rfl⟩ (Nat.le_of_ble_eq_true rfl) rfl ?_
      refine v_load (v := (2, 117)) (hi_X7_letMouseWalk_49 hT) rfl rfl ?_
      refine v_load (v := (0, (j : Int))) (hi_X7_letMouseWalk_50 hT) rfl rfl ?_
      refine v_load (v := (0, (q1 : Int))) (hi_X7_letMouseWalk_51 hT) rfl rfl ?_
      refine v_call (w := 3) [some (2, 117), some (0, (j : Int)), some (0, (q1 : Int))] hO (hi_X7_letMouseWalk_52 hT) rfl rfl ?_
      exact k2 q1 en1 hg1 hc3
theorem qk_gm0_39 {D : zD} {T : zT} (hT : hTab T) (hO : vOK T) {N : Nat} {h : zH} {Q : zR → Prop} {a : Nat} (hv0 : zHv h) (e2 : h 117 2 = (2, 39))
    (k0 : vP D T N 132 0 h [some (2, 100), some (2, 39), some (0, (a : Int))] [] (fun r1 => vP D T N 96 12 r1.1 [some (2, 117), some (0, (a : Int))] (zpush r1.2 []) Q)) :
    vP D T N 96 0 h [some (2, 117), some (0, (a : Int))] [] Q := by
  refine v_load (v := (2, 117)) (hz_X7_goMarching hT _ _ rfl) rfl rfl ?_
  refine v_getR (c := 100) (r := 117) (hz_X7_goMarching hT _ _ rfl) rfl rfl rfl ?_
  refine v_load (v := (2, 117)) (hz_X7_goMarching hT _ _ rfl) rfl rfl ?_
  refine v_getf (v := (2, 39)) (r := 117) (hz_X7_goMarching hT _ _ rfl) rfl rfl (fun _ => e2) ?_
  refine v_load (v := (0, (a : Int))) (hz_X7_goMarching hT _ _ rfl) rfl rfl ?_
  refine v_call (w := 3) [some (2, 100), some (2, 39), some (0, (a : Int))] hO (hz_X7_goMarching hT _ _ rfl) rfl rfl ?_
  exact k0 
theorem qk_gm12n_39 {D : zD} {T : zT} (hT : hTab T) (hO : vOK T) {N : Nat} {h : zH} {Q : zR → Prop} {a : Nat} (hv0 : zHv h)
    (k0 : Q (h, some (0, 0))) :
    vP D T N 96 12 h [some (2, 117), some (0, (a : Int))] [(0, -1)] Q := by
  refine v_push (-1) (hi_X7_goMarching_12 hT) rfl ?_
  refine v_ic (hi_X7_goMarching_13 hT) (fun _ => ?_) (fun hc1 => absurd (show (-1 : Int) = -1 from (by decide)) hc1)
  refine v_push (0) (hz_X7_goMarching hT _ _ rfl) rfl ?_
  refine v_ret (hz_X7_goMarching hT _ _ rfl) (Or.inl rfl) ?_
  exact k0 
theorem qk_gm12_39 {D : zD} {T : zT} (hT : hTab T) (hO : vOK T) {N : Nat} {h : zH} {Q : zR → Prop} {a : Nat} (v : Int) (hv0 : zHv h) (e2 : h 117 2 = (2, 39)) (hv : v ≠ -1)
    (k0 : vP D T N 133 0 h [some (2, 100), some (2, 39), some (0, (a : Int)), none] [] (fun r1 => vP D T N 96 30 r1.1 [some (2, 117), some (0, (a : Int))] (zpush r1.2 []) Q)) :
    vP D T N 96 12 h [some (2, 117), some (0, (a : Int))] [(0, v)] Q := by
  refine v_push (-1) (hi_X7_goMarching_12 hT) rfl ?_
  refine v_ic (hi_X7_goMarching_13 hT) (fun hc1 => absurd (show v = -1 from hc1) hv) (fun _ => ?_)
  refine v_load (v := (2, 117)) (hz_X7_goMarching hT _ _ rfl) rfl rfl ?_
  refine v_getR (c := 100) (r := 117) (hz_X7_goMarching hT _ _ rfl) rfl rfl rfl ?_
  refine v_load (v := (2, 117)) (hz_X7_goMarching hT _ _ rfl) rfl rfl ?_
  refine v_getf (v := (2, 39)) (r := 117) (hz_X7_goMarching hT _ _ rfl) rfl rfl (fun _ => e2) ?_
  refine v_load (v := (0, (a : Int))) (hz_X7_goMarching hT _ _ rfl) rfl rfl ?_
  refine v_call (w := 4) [some (2, 100), some (2, 39), some (0, (a : Int)), none] hO (hz_X7_goMarching hT _ _ rfl) rfl rfl ?_
  exact k0 
theorem qk_so16_39 {D : zD} {T : zT} (hT : hTab T) (hO : vOK T) {N : Nat} {h : zH} {Q : zR → Prop} {P : PT} {p a b : Nat} (hv0 : zHv h) (e2 : h 117 2 = (2, 39)) (e3 : h 117 3 = (2, 49)) (hP : cP 39 P h) (hb : fB P) (w1 : h 50 p = (0, 16)) (w2 : h 51 p = (0, (a : Int))) (w3 : h 52 p = (0, (b : Int))) (hp : p < 60) (ha : a < 3) (hb8 : b < 48)
    (k0 : (0 ≤ (p : Int)) → ((p : Int) < 60) → ((P 3 (48 * a + b)) = 1) → Q (h, some (0, 1)))
    (k1 : (0 ≤ (p : Int)) → ((p : Int) < 60) → ((P 3 (48 * a + b)) ≠ 1) → Q (h, some (0, 0))) :
    vP D T N 97 0 h [some (2, 117), some (0, (p : Int)), none, none] [] Q := by
  refine v_load (v := (2, 117)) (hi_X7_isSo_0 hT) rfl rfl ?_
  refine v_getf (v := (2, 49)) (r := 117) (hi_X7_isSo_1 hT) rfl rfl (fun _ => e3) ?_
  refine v_getR (c := 51) (r := 49) (hi_X7_isSo_4 hT) rfl rfl rfl ?_
  refine v_load (v := (0, (p : Int))) (hi_X7_isSo_7 hT) rfl rfl ?_
  refine v_aldB (t := 0) (r := 51) (w := (a : Int)) (hi_X7_isSo_8 hT) rfl rfl rfl (fun _ _ => (congrArg Prod.snd w2)) (fun ha1 hb2 => ?_)
  refine v_store1 [some (2, 117), some (0, (p : Int)), some (0, (a : Int)), none] (hi_X7_isSo_9 hT) ⟨rfl, Nat.ne_of_beq_eq_false rfl⟩ (Nat.le_of_ble_eq_true rfl) rfl ?_
  refine v_load (v := (2, 117)) (hi_X7_isSo_10 hT) rfl rfl ?_
  refine v_getf (v := (2, 49)) (r := 117) (hi_X7_isSo_11 hT) rfl rfl (fun _ => e3) ?_
  refine v_getR (c := 52) (r := 49) (hi_X7_isSo_14 hT) rfl rfl rfl ?_
  refine v_load (v := (0, (p : Int))) (hi_X7_isSo_17 hT) rfl rfl ?_
  refine v_aldB (t := 0) (r := 52) (w := (b : Int)) (hi_X7_isSo_18 hT) rfl rfl rfl (fun _ _ => (congrArg Prod.snd w3)) (fun ha3 hb4 => ?_)
  refine v_store1 [some (2, 117), some (0, (p : Int)), some (0, (a : Int)), some (0, (b : Int))] (hi_X7_isSo_19 hT) ⟨rfl, Nat.ne_of_beq_eq_false rfl⟩ (Nat.le_of_ble_eq_true rfl) rfl ?_
  refine v_load (v := (2, 117)) (hi_X7_isSo_20 hT) rfl rfl ?_
  refine v_getf (v := (2, 49)) (r := 117) (hi_X7_isSo_21 hT) rfl rfl (fun _ => e3) ?_
  refine v_getR (c := 50) (r := 49) (hi_X7_isSo_24 hT) rfl rfl rfl ?_
  refine v_load (v := (0, (p : Int))) (hi_X7_isSo_27 hT) rfl rfl ?_
  refine v_aldB (t := 0) (r := 50) (w := 16) (hi_X7_isSo_28 hT) rfl rfl rfl (fun _ _ => (congrArg Prod.snd w1)) (fun ha5 hb6 => ?_)
  refine v_sw (hi_X7_isSo_29 hT) ?_
  refine ⟨fun _ => ?_, fun c => absurd rfl c⟩
  refine v_load (v := (2, 117)) (hz_X7_isSo hT _ _ rfl) rfl rfl ?_
  refine v_getf (v := (2, 39)) (r := 117) (hz_X7_isSo hT _ _ rfl) rfl rfl (fun _ => e2) ?_
  refine v_load (v := (0, (a : Int))) (hz_X7_isSo hT _ _ rfl) rfl rfl ?_
  refine v_load (v := (0, (b : Int))) (hz_X7_isSo hT _ _ rfl) rfl rfl ?_
  refine v_call (w := 3) [some (2, 39), some (0, (a : Int)), some (0, (b : Int))] hO (hz_X7_isSo hT _ _ rfl) rfl rfl (cb_st_39 hT hO ((a : Int)) ((b : Int)) a b rfl rfl (by omega) (by omega) hP.2.2.2.1 ?_)
  show vP D T N 97 65 h [some (2, 117), some (0, (p : Int)), some (0, (a : Int)), some (0, (b : Int))] [(0, (P 3 (48 * a + b)))] _
  refine v_push (1) (hz_X7_isSo hT _ _ rfl) rfl ?_
  refine v_ic (hz_X7_isSo hT _ _ rfl) (fun hc7 => ?_) (fun hc7 => ?_)
  · have hc7 : (P 3 (48 * a + b)) = 1 := hc7
    refine v_push (1) (hz_X7_isSo hT _ _ rfl) rfl ?_
    refine v_goto (hz_X7_isSo hT _ _ rfl) ?_
    refine v_ret (hi_X7_isSo_74 hT) (Or.inl rfl) ?_
    exact k0 ha1 hb2 hc7
  · have hc7 : (P 3 (48 * a + b)) ≠ 1 := hc7
    refine v_push (0) (hz_X7_isSo hT _ _ rfl) rfl ?_
    refine v_ret (hi_X7_isSo_74 hT) (Or.inl rfl) ?_
    exact k1 ha1 hb2 hc7
theorem qk_so17_39 {D : zD} {T : zT} (hT : hTab T) (hO : vOK T) {N : Nat} {h : zH} {Q : zR → Prop} {P : PT} {p a b : Nat} (hv0 : zHv h) (e2 : h 117 2 = (2, 39)) (e3 : h 117 3 = (2, 49)) (hP : cP 39 P h) (hb : fB P) (w1 : h 50 p = (0, 17)) (w2 : h 51 p = (0, (a : Int))) (w3 : h 52 p = (0, (b : Int))) (hp : p < 60) (ha : a < 6) (s6 : h 45 a = (0, P 6 a)) (s7 : h 46 a = (0, P 7 a)) (c6 : 0 ≤ P 6 a ∧ P 6 a < 48) (c7 : 0 ≤ P 7 a ∧ P 7 a < 48) (hm : (a : Int) < P 0 3)
    (k0 : (0 ≤ (p : Int)) → ((p : Int) < 60) → (0 ≤ (a : Int)) → ((a : Int) < 6) → ((P 6 a) = (P 7 a)) → Q (h, some (0, 1)))
    (k1 : (0 ≤ (p : Int)) → ((p : Int) < 60) → (0 ≤ (a : Int)) → ((a : Int) < 6) → ((P 6 a) ≠ (P 7 a)) → Q (h, some (0, 0))) :
    vP D T N 97 0 h [some (2, 117), some (0, (p : Int)), none, none] [] Q := by
  refine v_load (v := (2, 117)) (hi_X7_isSo_0 hT) rfl rfl ?_
  refine v_getf (v := (2, 49)) (r := 117) (hi_X7_isSo_1 hT) rfl rfl (fun _ => e3) ?_
  refine v_getR (c := 51) (r := 49) (hi_X7_isSo_4 hT) rfl rfl rfl ?_
  refine v_load (v := (0, (p : Int))) (hi_X7_isSo_7 hT) rfl rfl ?_
  refine v_aldB (t := 0) (r := 51) (w := (a : Int)) (hi_X7_isSo_8 hT) rfl rfl rfl (fun _ _ => (congrArg Prod.snd w2)) (fun ha1 hb2 => ?_)
  refine v_store1 [some (2, 117), some (0, (p : Int)), some (0, (a : Int)), none] (hi_X7_isSo_9 hT) ⟨rfl, Nat.ne_of_beq_eq_false rfl⟩ (Nat.le_of_ble_eq_true rfl) rfl ?_
  refine v_load (v := (2, 117)) (hi_X7_isSo_10 hT) rfl rfl ?_
  refine v_getf (v := (2, 49)) (r := 117) (hi_X7_isSo_11 hT) rfl rfl (fun _ => e3) ?_
  refine v_getR (c := 52) (r := 49) (hi_X7_isSo_14 hT) rfl rfl rfl ?_
  refine v_load (v := (0, (p : Int))) (hi_X7_isSo_17 hT) rfl rfl ?_
  refine v_aldB (t := 0) (r := 52) (w := (b : Int)) (hi_X7_isSo_18 hT) rfl rfl rfl (fun _ _ => (congrArg Prod.snd w3)) (fun ha3 hb4 => ?_)
  refine v_store1 [some (2, 117), some (0, (p : Int)), some (0, (a : Int)), some (0, (b : Int))] (hi_X7_isSo_19 hT) ⟨rfl, Nat.ne_of_beq_eq_false rfl⟩ (Nat.le_of_ble_eq_true rfl) rfl ?_
  refine v_load (v := (2, 117)) (hi_X7_isSo_20 hT) rfl rfl ?_
  refine v_getf (v := (2, 49)) (r := 117) (hi_X7_isSo_21 hT) rfl rfl (fun _ => e3) ?_
  refine v_getR (c := 50) (r := 49) (hi_X7_isSo_24 hT) rfl rfl rfl ?_
  refine v_load (v := (0, (p : Int))) (hi_X7_isSo_27 hT) rfl rfl ?_
  refine v_aldB (t := 0) (r := 50) (w := 17) (hi_X7_isSo_28 hT) rfl rfl rfl (fun _ _ => (congrArg Prod.snd w1)) (fun ha5 hb6 => ?_)
  refine v_sw (hi_X7_isSo_29 hT) ?_
  refine ⟨fun c => absurd c (by decide), fun _ => ?_⟩
  refine ⟨fun _ => ?_, fun c => absurd rfl c⟩
  refine v_load (v := (2, 117)) (hz_X7_isSo hT _ _ rfl) rfl rfl ?_
  refine v_getf (v := (2, 39)) (r := 117) (hz_X7_isSo hT _ _ rfl) rfl rfl (fun _ => e2) ?_
  refine v_load (v := (0, (a : Int))) (hz_X7_isSo hT _ _ rfl) rfl rfl ?_
  refine v_call (w := 2) [some (2, 39), some (0, (a : Int))] hO (hz_X7_isSo hT _ _ rfl) rfl rfl ?_
  refine v_load (v := (2, 39)) (hz_X2_hasArrived hT _ _ rfl) rfl rfl ?_
  refine v_getR (c := 45) (r := 39) (hz_X2_hasArrived hT _ _ rfl) rfl rfl rfl ?_
  refine v_load (v := (0, (a : Int))) (hz_X2_hasArrived hT _ _ rfl) rfl rfl ?_
  refine v_aldB (t := 0) (r := 45) (w := (P 6 a)) (hz_X2_hasArrived hT _ _ rfl) rfl rfl rfl (fun _ _ => (congrArg Prod.snd s6)) (fun ha7 hb8 => ?_)
  refine v_load (v := (2, 39)) (hz_X2_hasArrived hT _ _ rfl) rfl rfl ?_
  refine v_getR (c := 46) (r := 39) (hz_X2_hasArrived hT _ _ rfl) rfl rfl rfl ?_
  refine v_load (v := (0, (a : Int))) (hz_X2_hasArrived hT _ _ rfl) rfl rfl ?_
  refine v_aldB (t := 0) (r := 46) (w := (P 7 a)) (hz_X2_hasArrived hT _ _ rfl) rfl rfl rfl (fun _ _ => (congrArg Prod.snd s7)) (fun ha9 hb10 => ?_)
  refine v_ic (hz_X2_hasArrived hT _ _ rfl) (fun hc11 => ?_) (fun hc11 => ?_)
  · have hc11 : (P 6 a) = (P 7 a) := hc11
    refine v_push (1) (hz_X2_hasArrived hT _ _ rfl) rfl ?_
    refine v_goto (hz_X2_hasArrived hT _ _ rfl) ?_
    refine v_ret (hi_X2_hasArrived_20 hT) (Or.inl rfl) ?_
    show vP D T N 97 83 h [some (2, 117), some (0, (p : Int)), some (0, (a : Int)), some (0, (b : Int))] [(0, 1)] _
    refine v_ret (hi_X7_isSo_83 hT) (Or.inl rfl) ?_
    exact k0 ha1 hb2 ha7 hb8 hc11
  · have hc11 : (P 6 a) ≠ (P 7 a) := hc11
    refine v_push (0) (hz_X2_hasArrived hT _ _ rfl) rfl ?_
    refine v_ret (hi_X2_hasArrived_20 hT) (Or.inl rfl) ?_
    show vP D T N 97 83 h [some (2, 117), some (0, (p : Int)), some (0, (a : Int)), some (0, (b : Int))] [(0, 0)] _
    refine v_ret (hi_X7_isSo_83 hT) (Or.inl rfl) ?_
    exact k1 ha1 hb2 ha7 hb8 hc11
theorem qk_so18_60_39 {D : zD} {T : zT} (hT : hTab T) (hO : vOK T) {N : Nat} {h : zH} {Q : zR → Prop} {P : PT} {p b : Nat} (hv0 : zHv h) (e2 : h 117 2 = (2, 39)) (e3 : h 117 3 = (2, 49)) (hP : cP 39 P h) (hb : fB P) (w1 : h 50 p = (0, 18)) (w2 : h 51 p = (0, 60)) (w3 : h 52 p = (0, (b : Int))) (hp : p < 60)
    (k0 : (0 ≤ (p : Int)) → ((p : Int) < 60) → ((P 0 4) < (b : Int)) → Q (h, some (0, 1)))
    (k1 : (0 ≤ (p : Int)) → ((p : Int) < 60) → ((b : Int) ≤ (P 0 4)) → Q (h, some (0, 0))) :
    vP D T N 97 0 h [some (2, 117), some (0, (p : Int)), none, none] [] Q := by
  refine v_load (v := (2, 117)) (hi_X7_isSo_0 hT) rfl rfl ?_
  refine v_getf (v := (2, 49)) (r := 117) (hi_X7_isSo_1 hT) rfl rfl (fun _ => e3) ?_
  refine v_getR (c := 51) (r := 49) (hi_X7_isSo_4 hT) rfl rfl rfl ?_
  refine v_load (v := (0, (p : Int))) (hi_X7_isSo_7 hT) rfl rfl ?_
  refine v_aldB (t := 0) (r := 51) (w := 60) (hi_X7_isSo_8 hT) rfl rfl rfl (fun _ _ => (congrArg Prod.snd w2)) (fun ha1 hb2 => ?_)
  refine v_store1 [some (2, 117), some (0, (p : Int)), some (0, 60), none] (hi_X7_isSo_9 hT) ⟨rfl, Nat.ne_of_beq_eq_false rfl⟩ (Nat.le_of_ble_eq_true rfl) rfl ?_
  refine v_load (v := (2, 117)) (hi_X7_isSo_10 hT) rfl rfl ?_
  refine v_getf (v := (2, 49)) (r := 117) (hi_X7_isSo_11 hT) rfl rfl (fun _ => e3) ?_
  refine v_getR (c := 52) (r := 49) (hi_X7_isSo_14 hT) rfl rfl rfl ?_
  refine v_load (v := (0, (p : Int))) (hi_X7_isSo_17 hT) rfl rfl ?_
  refine v_aldB (t := 0) (r := 52) (w := (b : Int)) (hi_X7_isSo_18 hT) rfl rfl rfl (fun _ _ => (congrArg Prod.snd w3)) (fun ha3 hb4 => ?_)
  refine v_store1 [some (2, 117), some (0, (p : Int)), some (0, 60), some (0, (b : Int))] (hi_X7_isSo_19 hT) ⟨rfl, Nat.ne_of_beq_eq_false rfl⟩ (Nat.le_of_ble_eq_true rfl) rfl ?_
  refine v_load (v := (2, 117)) (hi_X7_isSo_20 hT) rfl rfl ?_
  refine v_getf (v := (2, 49)) (r := 117) (hi_X7_isSo_21 hT) rfl rfl (fun _ => e3) ?_
  refine v_getR (c := 50) (r := 49) (hi_X7_isSo_24 hT) rfl rfl rfl ?_
  refine v_load (v := (0, (p : Int))) (hi_X7_isSo_27 hT) rfl rfl ?_
  refine v_aldB (t := 0) (r := 50) (w := 18) (hi_X7_isSo_28 hT) rfl rfl rfl (fun _ _ => (congrArg Prod.snd w1)) (fun ha5 hb6 => ?_)
  refine v_sw (hi_X7_isSo_29 hT) ?_
  refine ⟨fun c => absurd c (by decide), fun _ => ?_⟩
  refine ⟨fun c => absurd c (by decide), fun _ => ?_⟩
  show vP _ _ _ _ _ _ _ _ _
  refine v_load (v := (0, 60)) (hi_X7_isSo_84 hT) rfl rfl ?_
  refine v_push (60) (hi_X7_isSo_85 hT) rfl ?_
  refine v_ic (hi_X7_isSo_87 hT) (fun _ => ?_) (fun hc7 => absurd (show (60 : Int) = 60 from (by decide)) hc7)
  refine v_load (v := (2, 117)) (hz_X7_isSo hT _ _ rfl) rfl rfl ?_
  refine v_getf (v := (2, 39)) (r := 117) (hz_X7_isSo hT _ _ rfl) rfl rfl (fun _ => e2) ?_
  refine v_getf (v := (0, (P 0 4))) (r := 39) (hz_X7_isSo hT _ _ rfl) rfl rfl (fun _ => hP.1.2.2.2.2) ?_
  refine v_load (v := (0, (b : Int))) (hz_X7_isSo hT _ _ rfl) rfl rfl ?_
  refine v_ic (hz_X7_isSo hT _ _ rfl) (fun hc8 => ?_) (fun hc8 => ?_)
  · have hc8 : (P 0 4) < (b : Int) := hc8
    refine v_push (1) (hi_X7_isSo_135 hT) rfl ?_
    refine v_goto (hi_X7_isSo_136 hT) ?_
    refine v_ret (hi_X7_isSo_140 hT) (Or.inl rfl) ?_
    exact k0 ha1 hb2 hc8
  · have hc8 : (b : Int) ≤ (P 0 4) := Int.not_lt.mp hc8
    refine v_load (v := (0, 60)) (hi_X7_isSo_101 hT) rfl rfl ?_
    refine v_push (62) (hi_X7_isSo_102 hT) rfl ?_
    refine v_ic (hi_X7_isSo_104 hT) (fun hc9 => absurd (show (60 : Int) = 62 from hc9) (by decide)) (fun _ => ?_)
    refine v_load (v := (0, 60)) (hi_X7_isSo_118 hT) rfl rfl ?_
    refine v_push (61) (hi_X7_isSo_119 hT) rfl ?_
    refine v_ic (hi_X7_isSo_121 hT) (fun hc10 => absurd (show (60 : Int) = 61 from hc10) (by decide)) (fun _ => ?_)
    refine v_push (0) (hi_X7_isSo_139 hT) rfl ?_
    refine v_ret (hi_X7_isSo_140 hT) (Or.inl rfl) ?_
    exact k1 ha1 hb2 hc8
theorem qk_so18_61_39 {D : zD} {T : zT} (hT : hTab T) (hO : vOK T) {N : Nat} {h : zH} {Q : zR → Prop} {P : PT} {p b : Nat} (hv0 : zHv h) (e2 : h 117 2 = (2, 39)) (e3 : h 117 3 = (2, 49)) (hP : cP 39 P h) (hb : fB P) (w1 : h 50 p = (0, 18)) (w2 : h 51 p = (0, 61)) (w3 : h 52 p = (0, (b : Int))) (hp : p < 60)
    (k0 : (0 ≤ (p : Int)) → ((p : Int) < 60) → ((P 0 4) = (b : Int)) → Q (h, some (0, 1)))
    (k1 : (0 ≤ (p : Int)) → ((p : Int) < 60) → ((P 0 4) ≠ (b : Int)) → Q (h, some (0, 0))) :
    vP D T N 97 0 h [some (2, 117), some (0, (p : Int)), none, none] [] Q := by
  refine v_load (v := (2, 117)) (hi_X7_isSo_0 hT) rfl rfl ?_
  refine v_getf (v := (2, 49)) (r := 117) (hi_X7_isSo_1 hT) rfl rfl (fun _ => e3) ?_
  refine v_getR (c := 51) (r := 49) (hi_X7_isSo_4 hT) rfl rfl rfl ?_
  refine v_load (v := (0, (p : Int))) (hi_X7_isSo_7 hT) rfl rfl ?_
  refine v_aldB (t := 0) (r := 51) (w := 61) (hi_X7_isSo_8 hT) rfl rfl rfl (fun _ _ => (congrArg Prod.snd w2)) (fun ha1 hb2 => ?_)
  refine v_store1 [some (2, 117), some (0, (p : Int)), some (0, 61), none] (hi_X7_isSo_9 hT) ⟨rfl, Nat.ne_of_beq_eq_false rfl⟩ (Nat.le_of_ble_eq_true rfl) rfl ?_
  refine v_load (v := (2, 117)) (hi_X7_isSo_10 hT) rfl rfl ?_
  refine v_getf (v := (2, 49)) (r := 117) (hi_X7_isSo_11 hT) rfl rfl (fun _ => e3) ?_
  refine v_getR (c := 52) (r := 49) (hi_X7_isSo_14 hT) rfl rfl rfl ?_
  refine v_load (v := (0, (p : Int))) (hi_X7_isSo_17 hT) rfl rfl ?_
  refine v_aldB (t := 0) (r := 52) (w := (b : Int)) (hi_X7_isSo_18 hT) rfl rfl rfl (fun _ _ => (congrArg Prod.snd w3)) (fun ha3 hb4 => ?_)
  refine v_store1 [some (2, 117), some (0, (p : Int)), some (0, 61), some (0, (b : Int))] (hi_X7_isSo_19 hT) ⟨rfl, Nat.ne_of_beq_eq_false rfl⟩ (Nat.le_of_ble_eq_true rfl) rfl ?_
  refine v_load (v := (2, 117)) (hi_X7_isSo_20 hT) rfl rfl ?_
  refine v_getf (v := (2, 49)) (r := 117) (hi_X7_isSo_21 hT) rfl rfl (fun _ => e3) ?_
  refine v_getR (c := 50) (r := 49) (hi_X7_isSo_24 hT) rfl rfl rfl ?_
  refine v_load (v := (0, (p : Int))) (hi_X7_isSo_27 hT) rfl rfl ?_
  refine v_aldB (t := 0) (r := 50) (w := 18) (hi_X7_isSo_28 hT) rfl rfl rfl (fun _ _ => (congrArg Prod.snd w1)) (fun ha5 hb6 => ?_)
  refine v_sw (hi_X7_isSo_29 hT) ?_
  refine ⟨fun c => absurd c (by decide), fun _ => ?_⟩
  refine ⟨fun c => absurd c (by decide), fun _ => ?_⟩
  show vP _ _ _ _ _ _ _ _ _
  refine v_load (v := (0, 61)) (hi_X7_isSo_84 hT) rfl rfl ?_
  refine v_push (60) (hi_X7_isSo_85 hT) rfl ?_
  refine v_ic (hi_X7_isSo_87 hT) (fun hc7 => absurd (show (61 : Int) = 60 from hc7) (by decide)) (fun _ => ?_)
  refine v_load (v := (0, 61)) (hi_X7_isSo_101 hT) rfl rfl ?_
  refine v_push (62) (hi_X7_isSo_102 hT) rfl ?_
  refine v_ic (hi_X7_isSo_104 hT) (fun hc8 => absurd (show (61 : Int) = 62 from hc8) (by decide)) (fun _ => ?_)
  refine v_load (v := (0, 61)) (hi_X7_isSo_118 hT) rfl rfl ?_
  refine v_push (61) (hi_X7_isSo_119 hT) rfl ?_
  refine v_ic (hi_X7_isSo_121 hT) (fun _ => ?_) (fun hc9 => absurd (show (61 : Int) = 61 from (by decide)) hc9)
  refine v_load (v := (2, 117)) (hz_X7_isSo hT _ _ rfl) rfl rfl ?_
  refine v_getf (v := (2, 39)) (r := 117) (hz_X7_isSo hT _ _ rfl) rfl rfl (fun _ => e2) ?_
  refine v_getf (v := (0, (P 0 4))) (r := 39) (hz_X7_isSo hT _ _ rfl) rfl rfl (fun _ => hP.1.2.2.2.2) ?_
  refine v_load (v := (0, (b : Int))) (hz_X7_isSo hT _ _ rfl) rfl rfl ?_
  refine v_ic (hz_X7_isSo hT _ _ rfl) (fun hc10 => ?_) (fun hc10 => ?_)
  · have hc10 : (P 0 4) = (b : Int) := hc10
    refine v_push (1) (hi_X7_isSo_135 hT) rfl ?_
    refine v_goto (hi_X7_isSo_136 hT) ?_
    refine v_ret (hi_X7_isSo_140 hT) (Or.inl rfl) ?_
    exact k0 ha1 hb2 hc10
  · have hc10 : (P 0 4) ≠ (b : Int) := hc10
    refine v_push (0) (hi_X7_isSo_139 hT) rfl ?_
    refine v_ret (hi_X7_isSo_140 hT) (Or.inl rfl) ?_
    exact k1 ha1 hb2 hc10
theorem qk_so18_62_39 {D : zD} {T : zT} (hT : hTab T) (hO : vOK T) {N : Nat} {h : zH} {Q : zR → Prop} {P : PT} {p b : Nat} (hv0 : zHv h) (e2 : h 117 2 = (2, 39)) (e3 : h 117 3 = (2, 49)) (hP : cP 39 P h) (hb : fB P) (w1 : h 50 p = (0, 18)) (w2 : h 51 p = (0, 62)) (w3 : h 52 p = (0, (b : Int))) (hp : p < 60)
    (k0 : (0 ≤ (p : Int)) → ((p : Int) < 60) → ((b : Int) < (P 0 4)) → Q (h, some (0, 1)))
    (k1 : (0 ≤ (p : Int)) → ((p : Int) < 60) → ((P 0 4) ≤ (b : Int)) → Q (h, some (0, 0))) :
    vP D T N 97 0 h [some (2, 117), some (0, (p : Int)), none, none] [] Q := by
  refine v_load (v := (2, 117)) (hi_X7_isSo_0 hT) rfl rfl ?_
  refine v_getf (v := (2, 49)) (r := 117) (hi_X7_isSo_1 hT) rfl rfl (fun _ => e3) ?_
  refine v_getR (c := 51) (r := 49) (hi_X7_isSo_4 hT) rfl rfl rfl ?_
  refine v_load (v := (0, (p : Int))) (hi_X7_isSo_7 hT) rfl rfl ?_
  refine v_aldB (t := 0) (r := 51) (w := 62) (hi_X7_isSo_8 hT) rfl rfl rfl (fun _ _ => (congrArg Prod.snd w2)) (fun ha1 hb2 => ?_)
  refine v_store1 [some (2, 117), some (0, (p : Int)), some (0, 62), none] (hi_X7_isSo_9 hT) ⟨rfl, Nat.ne_of_beq_eq_false rfl⟩ (Nat.le_of_ble_eq_true rfl) rfl ?_
  refine v_load (v := (2, 117)) (hi_X7_isSo_10 hT) rfl rfl ?_
  refine v_getf (v := (2, 49)) (r := 117) (hi_X7_isSo_11 hT) rfl rfl (fun _ => e3) ?_
  refine v_getR (c := 52) (r := 49) (hi_X7_isSo_14 hT) rfl rfl rfl ?_
  refine v_load (v := (0, (p : Int))) (hi_X7_isSo_17 hT) rfl rfl ?_
  refine v_aldB (t := 0) (r := 52) (w := (b : Int)) (hi_X7_isSo_18 hT) rfl rfl rfl (fun _ _ => (congrArg Prod.snd w3)) (fun ha3 hb4 => ?_)
  refine v_store1 [some (2, 117), some (0, (p : Int)), some (0, 62), some (0, (b : Int))] (hi_X7_isSo_19 hT) ⟨rfl, Nat.ne_of_beq_eq_false rfl⟩ (Nat.le_of_ble_eq_true rfl) rfl ?_
  refine v_load (v := (2, 117)) (hi_X7_isSo_20 hT) rfl rfl ?_
  refine v_getf (v := (2, 49)) (r := 117) (hi_X7_isSo_21 hT) rfl rfl (fun _ => e3) ?_
  refine v_getR (c := 50) (r := 49) (hi_X7_isSo_24 hT) rfl rfl rfl ?_
  refine v_load (v := (0, (p : Int))) (hi_X7_isSo_27 hT) rfl rfl ?_
  refine v_aldB (t := 0) (r := 50) (w := 18) (hi_X7_isSo_28 hT) rfl rfl rfl (fun _ _ => (congrArg Prod.snd w1)) (fun ha5 hb6 => ?_)
  refine v_sw (hi_X7_isSo_29 hT) ?_
  refine ⟨fun c => absurd c (by decide), fun _ => ?_⟩
  refine ⟨fun c => absurd c (by decide), fun _ => ?_⟩
  show vP _ _ _ _ _ _ _ _ _
  refine v_load (v := (0, 62)) (hi_X7_isSo_84 hT) rfl rfl ?_
  refine v_push (60) (hi_X7_isSo_85 hT) rfl ?_
  refine v_ic (hi_X7_isSo_87 hT) (fun hc7 => absurd (show (62 : Int) = 60 from hc7) (by decide)) (fun _ => ?_)
  refine v_load (v := (0, 62)) (hi_X7_isSo_101 hT) rfl rfl ?_
  refine v_push (62) (hi_X7_isSo_102 hT) rfl ?_
  refine v_ic (hi_X7_isSo_104 hT) (fun _ => ?_) (fun hc8 => absurd (show (62 : Int) = 62 from (by decide)) hc8)
  refine v_load (v := (2, 117)) (hz_X7_isSo hT _ _ rfl) rfl rfl ?_
  refine v_getf (v := (2, 39)) (r := 117) (hz_X7_isSo hT _ _ rfl) rfl rfl (fun _ => e2) ?_
  refine v_getf (v := (0, (P 0 4))) (r := 39) (hz_X7_isSo hT _ _ rfl) rfl rfl (fun _ => hP.1.2.2.2.2) ?_
  refine v_load (v := (0, (b : Int))) (hz_X7_isSo hT _ _ rfl) rfl rfl ?_
  refine v_ic (hz_X7_isSo hT _ _ rfl) (fun hc9 => ?_) (fun hc9 => ?_)
  · have hc9 : (b : Int) < (P 0 4) := hc9
    refine v_push (1) (hi_X7_isSo_135 hT) rfl ?_
    refine v_goto (hi_X7_isSo_136 hT) ?_
    refine v_ret (hi_X7_isSo_140 hT) (Or.inl rfl) ?_
    exact k0 ha1 hb2 hc9
  · have hc9 : (P 0 4) ≤ (b : Int) := Int.not_lt.mp hc9
    refine v_load (v := (0, 62)) (hi_X7_isSo_118 hT) rfl rfl ?_
    refine v_push (61) (hi_X7_isSo_119 hT) rfl ?_
    refine v_ic (hi_X7_isSo_121 hT) (fun hc10 => absurd (show (62 : Int) = 61 from hc10) (by decide)) (fun _ => ?_)
    refine v_push (0) (hi_X7_isSo_139 hT) rfl ?_
    refine v_ret (hi_X7_isSo_140 hT) (Or.inl rfl) ?_
    exact k1 ha1 hb2 hc9
theorem qk_ds8_39 {D : zD} {T : zT} (hT : hTab T) (hO : vOK T) {N : Nat} {h : zH} {Q : zR → Prop} {p a b : Nat} (hv0 : zHv h) (e2 : h 117 2 = (2, 39)) (e3 : h 117 3 = (2, 49)) (e5 : h 117 5 = (0, (p : Int))) (w1 : h 50 p = (0, 8)) (w2 : h 51 p = (0, (a : Int))) (w3 : h 52 p = (0, (b : Int))) (hp : p < 60)
    (k0 : (0 ≤ (p : Int)) → ((p : Int) < 60) → vP D T N 95 0 (zset h 117 5 (0, ((p : Int) + 1))) [some (2, 117), some (0, (a : Int)), some (0, (b : Int))] [] (fun r1 => vP D T N 92 123 r1.1 [some (2, 117), some (0, (p : Int)), some (0, (a : Int)), some (0, (b : Int))] (zpush r1.2 [(2, 117)]) Q)) :
    vP D T N 92 0 h [some (2, 117), none, none, none] [] Q := by
  refine v_load (v := (2, 117)) (hi_X7_doStep_0 hT) rfl rfl ?_
  refine v_getf (v := (0, (p : Int))) (r := 117) (hi_X7_doStep_1 hT) rfl rfl (fun _ => e5) ?_
  refine v_store1 [some (2, 117), some (0, (p : Int)), none, none] (hi_X7_doStep_4 hT) ⟨rfl, Nat.ne_of_beq_eq_false rfl⟩ (Nat.le_of_ble_eq_true rfl) rfl ?_
  refine v_load (v := (2, 117)) (hi_X7_doStep_5 hT) rfl rfl ?_
  refine v_getf (v := (2, 49)) (r := 117) (hi_X7_doStep_6 hT) rfl rfl (fun _ => e3) ?_
  refine v_getR (c := 51) (r := 49) (hi_X7_doStep_9 hT) rfl rfl rfl ?_
  refine v_load (v := (0, (p : Int))) (hi_X7_doStep_12 hT) rfl rfl ?_
  refine v_aldB (t := 0) (r := 51) (w := (a : Int)) (hi_X7_doStep_13 hT) rfl rfl rfl (fun _ _ => (congrArg Prod.snd w2)) (fun ha1 hb2 => ?_)
  refine v_store1 [some (2, 117), some (0, (p : Int)), some (0, (a : Int)), none] (hi_X7_doStep_14 hT) ⟨rfl, Nat.ne_of_beq_eq_false rfl⟩ (Nat.le_of_ble_eq_true rfl) rfl ?_
  refine v_load (v := (2, 117)) (hi_X7_doStep_15 hT) rfl rfl ?_
  refine v_getf (v := (2, 49)) (r := 117) (hi_X7_doStep_16 hT) rfl rfl (fun _ => e3) ?_
  refine v_getR (c := 52) (r := 49) (hi_X7_doStep_19 hT) rfl rfl rfl ?_
  refine v_load (v := (0, (p : Int))) (hi_X7_doStep_22 hT) rfl rfl ?_
  refine v_aldB (t := 0) (r := 52) (w := (b : Int)) (hi_X7_doStep_23 hT) rfl rfl rfl (fun _ _ => (congrArg Prod.snd w3)) (fun ha3 hb4 => ?_)
  refine v_store1 [some (2, 117), some (0, (p : Int)), some (0, (a : Int)), some (0, (b : Int))] (hi_X7_doStep_24 hT) ⟨rfl, Nat.ne_of_beq_eq_false rfl⟩ (Nat.le_of_ble_eq_true rfl) rfl ?_
  refine v_load (v := (2, 117)) (hi_X7_doStep_25 hT) rfl rfl ?_
  refine v_dup (hi_X7_doStep_26 hT) (Nat.ne_of_beq_eq_false rfl) ?_
  refine v_getf (v := (0, (p : Int))) (r := 117) (hi_X7_doStep_27 hT) rfl rfl (fun _ => e5) ?_
  refine v_push (1) (hi_X7_doStep_30 hT) rfl ?_
  refine v_bin (w := ((p : Int) + 1)) (hi_X7_doStep_31 hT) (hq_add (by omega) (by omega)) ?_
  refine v_putf (r := 117) hO (hi_X7_doStep_32 hT) rfl (fun hf5 => ?_)
  refine v_load (v := (2, 117)) (hi_X7_doStep_35 hT) rfl rfl ?_
  refine v_getf (v := (2, 49)) (r := 117) (hi_X7_doStep_36 hT) rfl rfl (fun _ => Eq.trans (zset_ne (fun c => absurd c.2 (by decide))) (e3)) ?_
  refine v_getR (c := 50) (r := 49) (hi_X7_doStep_39 hT) rfl rfl rfl ?_
  refine v_load (v := (0, (p : Int))) (hi_X7_doStep_42 hT) rfl rfl ?_
  refine v_aldB (t := 0) (r := 50) (w := 8) (hi_X7_doStep_43 hT) rfl rfl rfl (fun _ _ => (congrArg Prod.snd ((zset_ne (fun c => absurd c.1 (by decide))).trans w1))) (fun ha6 hb7 => ?_)
  refine v_sw (hi_X7_doStep_44 hT) ?_
  refine ⟨fun _ => ?_, fun c => absurd rfl c⟩
  refine v_load (v := (2, 117)) (hz_X7_doStep hT _ _ rfl) rfl rfl ?_
  refine v_load (v := (2, 117)) (hz_X7_doStep hT _ _ rfl) rfl rfl ?_
  refine v_load (v := (0, (a : Int))) (hz_X7_doStep hT _ _ rfl) rfl rfl ?_
  refine v_load (v := (0, (b : Int))) (hz_X7_doStep hT _ _ rfl) rfl rfl ?_
  refine v_call (w := 3) [some (2, 117), some (0, (a : Int)), some (0, (b : Int))] hO (hz_X7_doStep hT _ _ rfl) rfl rfl ?_
  exact k0 ha1 hb2
theorem qk_ds9_39 {D : zD} {T : zT} (hT : hTab T) (hO : vOK T) {N : Nat} {h : zH} {Q : zR → Prop} {p a b : Nat} (hv0 : zHv h) (e2 : h 117 2 = (2, 39)) (e3 : h 117 3 = (2, 49)) (e5 : h 117 5 = (0, (p : Int))) (w1 : h 50 p = (0, 9)) (w2 : h 51 p = (0, (a : Int))) (w3 : h 52 p = (0, (b : Int))) (hp : p < 60)
    (k0 : (0 ≤ (p : Int)) → ((p : Int) < 60) → vP D T N 94 0 (zset h 117 5 (0, ((p : Int) + 1))) [some (2, 117), none, none] [] (fun r1 => vP D T N 92 139 r1.1 [some (2, 117), some (0, (p : Int)), some (0, (a : Int)), some (0, (b : Int))] (zpush r1.2 [(0, (a : Int)), (2, 39), (2, 117)]) Q)) :
    vP D T N 92 0 h [some (2, 117), none, none, none] [] Q := by
  refine v_load (v := (2, 117)) (hi_X7_doStep_0 hT) rfl rfl ?_
  refine v_getf (v := (0, (p : Int))) (r := 117) (hi_X7_doStep_1 hT) rfl rfl (fun _ => e5) ?_
  refine v_store1 [some (2, 117), some (0, (p : Int)), none, none] (hi_X7_doStep_4 hT) ⟨rfl, Nat.ne_of_beq_eq_false rfl⟩ (Nat.le_of_ble_eq_true rfl) rfl ?_
  refine v_load (v := (2, 117)) (hi_X7_doStep_5 hT) rfl rfl ?_
  refine v_getf (v := (2, 49)) (r := 117) (hi_X7_doStep_6 hT) rfl rfl (fun _ => e3) ?_
  refine v_getR (c := 51) (r := 49) (hi_X7_doStep_9 hT) rfl rfl rfl ?_
  refine v_load (v := (0, (p : Int))) (hi_X7_doStep_12 hT) rfl rfl ?_
  refine v_aldB (t := 0) (r := 51) (w := (a : Int)) (hi_X7_doStep_13 hT) rfl rfl rfl (fun _ _ => (congrArg Prod.snd w2)) (fun ha1 hb2 => ?_)
  refine v_store1 [some (2, 117), some (0, (p : Int)), some (0, (a : Int)), none] (hi_X7_doStep_14 hT) ⟨rfl, Nat.ne_of_beq_eq_false rfl⟩ (Nat.le_of_ble_eq_true rfl) rfl ?_
  refine v_load (v := (2, 117)) (hi_X7_doStep_15 hT) rfl rfl ?_
  refine v_getf (v := (2, 49)) (r := 117) (hi_X7_doStep_16 hT) rfl rfl (fun _ => e3) ?_
  refine v_getR (c := 52) (r := 49) (hi_X7_doStep_19 hT) rfl rfl rfl ?_
  refine v_load (v := (0, (p : Int))) (hi_X7_doStep_22 hT) rfl rfl ?_
  refine v_aldB (t := 0) (r := 52) (w := (b : Int)) (hi_X7_doStep_23 hT) rfl rfl rfl (fun _ _ => (congrArg Prod.snd w3)) (fun ha3 hb4 => ?_)
  refine v_store1 [some (2, 117), some (0, (p : Int)), some (0, (a : Int)), some (0, (b : Int))] (hi_X7_doStep_24 hT) ⟨rfl, Nat.ne_of_beq_eq_false rfl⟩ (Nat.le_of_ble_eq_true rfl) rfl ?_
  refine v_load (v := (2, 117)) (hi_X7_doStep_25 hT) rfl rfl ?_
  refine v_dup (hi_X7_doStep_26 hT) (Nat.ne_of_beq_eq_false rfl) ?_
  refine v_getf (v := (0, (p : Int))) (r := 117) (hi_X7_doStep_27 hT) rfl rfl (fun _ => e5) ?_
  refine v_push (1) (hi_X7_doStep_30 hT) rfl ?_
  refine v_bin (w := ((p : Int) + 1)) (hi_X7_doStep_31 hT) (hq_add (by omega) (by omega)) ?_
  refine v_putf (r := 117) hO (hi_X7_doStep_32 hT) rfl (fun hf5 => ?_)
  refine v_load (v := (2, 117)) (hi_X7_doStep_35 hT) rfl rfl ?_
  refine v_getf (v := (2, 49)) (r := 117) (hi_X7_doStep_36 hT) rfl rfl (fun _ => Eq.trans (zset_ne (fun c => absurd c.2 (by decide))) (e3)) ?_
  refine v_getR (c := 50) (r := 49) (hi_X7_doStep_39 hT) rfl rfl rfl ?_
  refine v_load (v := (0, (p : Int))) (hi_X7_doStep_42 hT) rfl rfl ?_
  refine v_aldB (t := 0) (r := 50) (w := 9) (hi_X7_doStep_43 hT) rfl rfl rfl (fun _ _ => (congrArg Prod.snd ((zset_ne (fun c => absurd c.1 (by decide))).trans w1))) (fun ha6 hb7 => ?_)
  refine v_sw (hi_X7_doStep_44 hT) ?_
  refine ⟨fun c => absurd c (by decide), fun _ => ?_⟩
  refine ⟨fun _ => ?_, fun c => absurd rfl c⟩
  refine v_load (v := (2, 117)) (hz_X7_doStep hT _ _ rfl) rfl rfl ?_
  refine v_load (v := (2, 117)) (hz_X7_doStep hT _ _ rfl) rfl rfl ?_
  refine v_getf (v := (2, 39)) (r := 117) (hz_X7_doStep hT _ _ rfl) rfl rfl (fun _ => Eq.trans (zset_ne (fun c => absurd c.2 (by decide))) (e2)) ?_
  refine v_load (v := (0, (a : Int))) (hz_X7_doStep hT _ _ rfl) rfl rfl ?_
  refine v_load (v := (2, 117)) (hz_X7_doStep hT _ _ rfl) rfl rfl ?_
  refine v_call (w := 3) [some (2, 117), none, none] hO (hz_X7_doStep hT _ _ rfl) rfl rfl ?_
  exact k0 ha1 hb2
theorem qk_ds10_39 {D : zD} {T : zT} (hT : hTab T) (hO : vOK T) {N : Nat} {h : zH} {Q : zR → Prop} {p a b : Nat} (hv0 : zHv h) (e2 : h 117 2 = (2, 39)) (e3 : h 117 3 = (2, 49)) (e5 : h 117 5 = (0, (p : Int))) (w1 : h 50 p = (0, 10)) (w2 : h 51 p = (0, (a : Int))) (w3 : h 52 p = (0, (b : Int))) (hp : p < 60)
    (k0 : (0 ≤ (p : Int)) → ((p : Int) < 60) → vP D T N 55 0 (zset h 117 5 (0, ((p : Int) + 1))) [some (2, 39), some (0, (a : Int)), some (0, (b : Int)), none] [] (fun r1 => vP D T N 92 158 r1.1 [some (2, 117), some (0, (p : Int)), some (0, (a : Int)), some (0, (b : Int))] (zpush r1.2 [(2, 117)]) Q)) :
    vP D T N 92 0 h [some (2, 117), none, none, none] [] Q := by
  refine v_load (v := (2, 117)) (hi_X7_doStep_0 hT) rfl rfl ?_
  refine v_getf (v := (0, (p : Int))) (r := 117) (hi_X7_doStep_1 hT) rfl rfl (fun _ => e5) ?_
  refine v_store1 [some (2, 117), some (0, (p : Int)), none, none] (hi_X7_doStep_4 hT) ⟨rfl, Nat.ne_of_beq_eq_false rfl⟩ (Nat.le_of_ble_eq_true rfl) rfl ?_
  refine v_load (v := (2, 117)) (hi_X7_doStep_5 hT) rfl rfl ?_
  refine v_getf (v := (2, 49)) (r := 117) (hi_X7_doStep_6 hT) rfl rfl (fun _ => e3) ?_
  refine v_getR (c := 51) (r := 49) (hi_X7_doStep_9 hT) rfl rfl rfl ?_
  refine v_load (v := (0, (p : Int))) (hi_X7_doStep_12 hT) rfl rfl ?_
  refine v_aldB (t := 0) (r := 51) (w := (a : Int)) (hi_X7_doStep_13 hT) rfl rfl rfl (fun _ _ => (congrArg Prod.snd w2)) (fun ha1 hb2 => ?_)
  refine v_store1 [some (2, 117), some (0, (p : Int)), some (0, (a : Int)), none] (hi_X7_doStep_14 hT) ⟨rfl, Nat.ne_of_beq_eq_false rfl⟩ (Nat.le_of_ble_eq_true rfl) rfl ?_
  refine v_load (v := (2, 117)) (hi_X7_doStep_15 hT) rfl rfl ?_
  refine v_getf (v := (2, 49)) (r := 117) (hi_X7_doStep_16 hT) rfl rfl (fun _ => e3) ?_
  refine v_getR (c := 52) (r := 49) (hi_X7_doStep_19 hT) rfl rfl rfl ?_
  refine v_load (v := (0, (p : Int))) (hi_X7_doStep_22 hT) rfl rfl ?_
  refine v_aldB (t := 0) (r := 52) (w := (b : Int)) (hi_X7_doStep_23 hT) rfl rfl rfl (fun _ _ => (congrArg Prod.snd w3)) (fun ha3 hb4 => ?_)
  refine v_store1 [some (2, 117), some (0, (p : Int)), some (0, (a : Int)), some (0, (b : Int))] (hi_X7_doStep_24 hT) ⟨rfl, Nat.ne_of_beq_eq_false rfl⟩ (Nat.le_of_ble_eq_true rfl) rfl ?_
  refine v_load (v := (2, 117)) (hi_X7_doStep_25 hT) rfl rfl ?_
  refine v_dup (hi_X7_doStep_26 hT) (Nat.ne_of_beq_eq_false rfl) ?_
  refine v_getf (v := (0, (p : Int))) (r := 117) (hi_X7_doStep_27 hT) rfl rfl (fun _ => e5) ?_
  refine v_push (1) (hi_X7_doStep_30 hT) rfl ?_
  refine v_bin (w := ((p : Int) + 1)) (hi_X7_doStep_31 hT) (hq_add (by omega) (by omega)) ?_
  refine v_putf (r := 117) hO (hi_X7_doStep_32 hT) rfl (fun hf5 => ?_)
  refine v_load (v := (2, 117)) (hi_X7_doStep_35 hT) rfl rfl ?_
  refine v_getf (v := (2, 49)) (r := 117) (hi_X7_doStep_36 hT) rfl rfl (fun _ => Eq.trans (zset_ne (fun c => absurd c.2 (by decide))) (e3)) ?_
  refine v_getR (c := 50) (r := 49) (hi_X7_doStep_39 hT) rfl rfl rfl ?_
  refine v_load (v := (0, (p : Int))) (hi_X7_doStep_42 hT) rfl rfl ?_
  refine v_aldB (t := 0) (r := 50) (w := 10) (hi_X7_doStep_43 hT) rfl rfl rfl (fun _ _ => (congrArg Prod.snd ((zset_ne (fun c => absurd c.1 (by decide))).trans w1))) (fun ha6 hb7 => ?_)
  refine v_sw (hi_X7_doStep_44 hT) ?_
  refine ⟨fun c => absurd c (by decide), fun _ => ?_⟩
  refine ⟨fun c => absurd c (by decide), fun _ => ?_⟩
  refine ⟨fun _ => ?_, fun c => absurd rfl c⟩
  refine v_load (v := (2, 117)) (hz_X7_doStep hT _ _ rfl) rfl rfl ?_
  refine v_load (v := (2, 117)) (hz_X7_doStep hT _ _ rfl) rfl rfl ?_
  refine v_getf (v := (2, 39)) (r := 117) (hz_X7_doStep hT _ _ rfl) rfl rfl (fun _ => Eq.trans (zset_ne (fun c => absurd c.2 (by decide))) (e2)) ?_
  refine v_load (v := (0, (a : Int))) (hz_X7_doStep hT _ _ rfl) rfl rfl ?_
  refine v_load (v := (0, (b : Int))) (hz_X7_doStep hT _ _ rfl) rfl rfl ?_
  refine v_call (w := 4) [some (2, 39), some (0, (a : Int)), some (0, (b : Int)), none] hO (hz_X7_doStep hT _ _ rfl) rfl rfl ?_
  exact k0 ha1 hb2
theorem qk_ds11_39 {D : zD} {T : zT} (hT : hTab T) (hO : vOK T) {N : Nat} {h : zH} {Q : zR → Prop} {p a b : Nat} (hv0 : zHv h) (e2 : h 117 2 = (2, 39)) (e3 : h 117 3 = (2, 49)) (e5 : h 117 5 = (0, (p : Int))) (w1 : h 50 p = (0, 11)) (w2 : h 51 p = (0, (a : Int))) (w3 : h 52 p = (0, (b : Int))) (hp : p < 60)
    (k0 : (0 ≤ (p : Int)) → ((p : Int) < 60) → vP D T N 57 0 (zset h 117 5 (0, ((p : Int) + 1))) [some (2, 39), some (0, (a : Int)), some (0, (b : Int))] [] (fun r1 => vP D T N 92 173 r1.1 [some (2, 117), some (0, (p : Int)), some (0, (a : Int)), some (0, (b : Int))] (zpush r1.2 []) Q)) :
    vP D T N 92 0 h [some (2, 117), none, none, none] [] Q := by
  refine v_load (v := (2, 117)) (hi_X7_doStep_0 hT) rfl rfl ?_
  refine v_getf (v := (0, (p : Int))) (r := 117) (hi_X7_doStep_1 hT) rfl rfl (fun _ => e5) ?_
  refine v_store1 [some (2, 117), some (0, (p : Int)), none, none] (hi_X7_doStep_4 hT) ⟨rfl, Nat.ne_of_beq_eq_false rfl⟩ (Nat.le_of_ble_eq_true rfl) rfl ?_
  refine v_load (v := (2, 117)) (hi_X7_doStep_5 hT) rfl rfl ?_
  refine v_getf (v := (2, 49)) (r := 117) (hi_X7_doStep_6 hT) rfl rfl (fun _ => e3) ?_
  refine v_getR (c := 51) (r := 49) (hi_X7_doStep_9 hT) rfl rfl rfl ?_
  refine v_load (v := (0, (p : Int))) (hi_X7_doStep_12 hT) rfl rfl ?_
  refine v_aldB (t := 0) (r := 51) (w := (a : Int)) (hi_X7_doStep_13 hT) rfl rfl rfl (fun _ _ => (congrArg Prod.snd w2)) (fun ha1 hb2 => ?_)
  refine v_store1 [some (2, 117), some (0, (p : Int)), some (0, (a : Int)), none] (hi_X7_doStep_14 hT) ⟨rfl, Nat.ne_of_beq_eq_false rfl⟩ (Nat.le_of_ble_eq_true rfl) rfl ?_
  refine v_load (v := (2, 117)) (hi_X7_doStep_15 hT) rfl rfl ?_
  refine v_getf (v := (2, 49)) (r := 117) (hi_X7_doStep_16 hT) rfl rfl (fun _ => e3) ?_
  refine v_getR (c := 52) (r := 49) (hi_X7_doStep_19 hT) rfl rfl rfl ?_
  refine v_load (v := (0, (p : Int))) (hi_X7_doStep_22 hT) rfl rfl ?_
  refine v_aldB (t := 0) (r := 52) (w := (b : Int)) (hi_X7_doStep_23 hT) rfl rfl rfl (fun _ _ => (congrArg Prod.snd w3)) (fun ha3 hb4 => ?_)
  refine v_store1 [some (2, 117), some (0, (p : Int)), some (0, (a : Int)), some (0, (b : Int))] (hi_X7_doStep_24 hT) ⟨rfl, Nat.ne_of_beq_eq_false rfl⟩ (Nat.le_of_ble_eq_true rfl) rfl ?_
  refine v_load (v := (2, 117)) (hi_X7_doStep_25 hT) rfl rfl ?_
  refine v_dup (hi_X7_doStep_26 hT) (Nat.ne_of_beq_eq_false rfl) ?_
  refine v_getf (v := (0, (p : Int))) (r := 117) (hi_X7_doStep_27 hT) rfl rfl (fun _ => e5) ?_
  refine v_push (1) (hi_X7_doStep_30 hT) rfl ?_
  refine v_bin (w := ((p : Int) + 1)) (hi_X7_doStep_31 hT) (hq_add (by omega) (by omega)) ?_
  refine v_putf (r := 117) hO (hi_X7_doStep_32 hT) rfl (fun hf5 => ?_)
  refine v_load (v := (2, 117)) (hi_X7_doStep_35 hT) rfl rfl ?_
  refine v_getf (v := (2, 49)) (r := 117) (hi_X7_doStep_36 hT) rfl rfl (fun _ => Eq.trans (zset_ne (fun c => absurd c.2 (by decide))) (e3)) ?_
  refine v_getR (c := 50) (r := 49) (hi_X7_doStep_39 hT) rfl rfl rfl ?_
  refine v_load (v := (0, (p : Int))) (hi_X7_doStep_42 hT) rfl rfl ?_
  refine v_aldB (t := 0) (r := 50) (w := 11) (hi_X7_doStep_43 hT) rfl rfl rfl (fun _ _ => (congrArg Prod.snd ((zset_ne (fun c => absurd c.1 (by decide))).trans w1))) (fun ha6 hb7 => ?_)
  refine v_sw (hi_X7_doStep_44 hT) ?_
  refine ⟨fun c => absurd c (by decide), fun _ => ?_⟩
  refine ⟨fun c => absurd c (by decide), fun _ => ?_⟩
  refine ⟨fun c => absurd c (by decide), fun _ => ?_⟩
  refine ⟨fun _ => ?_, fun c => absurd rfl c⟩
  refine v_load (v := (2, 117)) (hz_X7_doStep hT _ _ rfl) rfl rfl ?_
  refine v_getf (v := (2, 39)) (r := 117) (hz_X7_doStep hT _ _ rfl) rfl rfl (fun _ => Eq.trans (zset_ne (fun c => absurd c.2 (by decide))) (e2)) ?_
  refine v_load (v := (0, (a : Int))) (hz_X7_doStep hT _ _ rfl) rfl rfl ?_
  refine v_load (v := (0, (b : Int))) (hz_X7_doStep hT _ _ rfl) rfl rfl ?_
  refine v_call (w := 3) [some (2, 39), some (0, (a : Int)), some (0, (b : Int))] hO (hz_X7_doStep hT _ _ rfl) rfl rfl ?_
  exact k0 ha1 hb2
theorem qk_ds12_39 {D : zD} {T : zT} (hT : hTab T) (hO : vOK T) {N : Nat} {h : zH} {Q : zR → Prop} {p a b : Nat} (hv0 : zHv h) (e2 : h 117 2 = (2, 39)) (e3 : h 117 3 = (2, 49)) (e5 : h 117 5 = (0, (p : Int))) (w1 : h 50 p = (0, 12)) (w2 : h 51 p = (0, (a : Int))) (w3 : h 52 p = (0, (b : Int))) (hp : p < 60)
    (k0 : (0 ≤ (p : Int)) → ((p : Int) < 60) → vP D T N 98 0 (zset h 117 5 (0, ((p : Int) + 1))) [some (2, 117), some (0, (a : Int)), some (0, (b : Int)), none, none, none] [] (fun r1 => vP D T N 92 196 r1.1 [some (2, 117), some (0, (p : Int)), some (0, (a : Int)), some (0, (b : Int))] (zpush r1.2 []) Q)) :
    vP D T N 92 0 h [some (2, 117), none, none, none] [] Q := by
  refine v_load (v := (2, 117)) (hi_X7_doStep_0 hT) rfl rfl ?_
  refine v_getf (v := (0, (p : Int))) (r := 117) (hi_X7_doStep_1 hT) rfl rfl (fun _ => e5) ?_
  refine v_store1 [some (2, 117), some (0, (p : Int)), none, none] (hi_X7_doStep_4 hT) ⟨rfl, Nat.ne_of_beq_eq_false rfl⟩ (Nat.le_of_ble_eq_true rfl) rfl ?_
  refine v_load (v := (2, 117)) (hi_X7_doStep_5 hT) rfl rfl ?_
  refine v_getf (v := (2, 49)) (r := 117) (hi_X7_doStep_6 hT) rfl rfl (fun _ => e3) ?_
  refine v_getR (c := 51) (r := 49) (hi_X7_doStep_9 hT) rfl rfl rfl ?_
  refine v_load (v := (0, (p : Int))) (hi_X7_doStep_12 hT) rfl rfl ?_
  refine v_aldB (t := 0) (r := 51) (w := (a : Int)) (hi_X7_doStep_13 hT) rfl rfl rfl (fun _ _ => (congrArg Prod.snd w2)) (fun ha1 hb2 => ?_)
  refine v_store1 [some (2, 117), some (0, (p : Int)), some (0, (a : Int)), none] (hi_X7_doStep_14 hT) ⟨rfl, Nat.ne_of_beq_eq_false rfl⟩ (Nat.le_of_ble_eq_true rfl) rfl ?_
  refine v_load (v := (2, 117)) (hi_X7_doStep_15 hT) rfl rfl ?_
  refine v_getf (v := (2, 49)) (r := 117) (hi_X7_doStep_16 hT) rfl rfl (fun _ => e3) ?_
  refine v_getR (c := 52) (r := 49) (hi_X7_doStep_19 hT) rfl rfl rfl ?_
  refine v_load (v := (0, (p : Int))) (hi_X7_doStep_22 hT) rfl rfl ?_
  refine v_aldB (t := 0) (r := 52) (w := (b : Int)) (hi_X7_doStep_23 hT) rfl rfl rfl (fun _ _ => (congrArg Prod.snd w3)) (fun ha3 hb4 => ?_)
  refine v_store1 [some (2, 117), some (0, (p : Int)), some (0, (a : Int)), some (0, (b : Int))] (hi_X7_doStep_24 hT) ⟨rfl, Nat.ne_of_beq_eq_false rfl⟩ (Nat.le_of_ble_eq_true rfl) rfl ?_
  refine v_load (v := (2, 117)) (hi_X7_doStep_25 hT) rfl rfl ?_
  refine v_dup (hi_X7_doStep_26 hT) (Nat.ne_of_beq_eq_false rfl) ?_
  refine v_getf (v := (0, (p : Int))) (r := 117) (hi_X7_doStep_27 hT) rfl rfl (fun _ => e5) ?_
  refine v_push (1) (hi_X7_doStep_30 hT) rfl ?_
  refine v_bin (w := ((p : Int) + 1)) (hi_X7_doStep_31 hT) (hq_add (by omega) (by omega)) ?_
  refine v_putf (r := 117) hO (hi_X7_doStep_32 hT) rfl (fun hf5 => ?_)
  refine v_load (v := (2, 117)) (hi_X7_doStep_35 hT) rfl rfl ?_
  refine v_getf (v := (2, 49)) (r := 117) (hi_X7_doStep_36 hT) rfl rfl (fun _ => Eq.trans (zset_ne (fun c => absurd c.2 (by decide))) (e3)) ?_
  refine v_getR (c := 50) (r := 49) (hi_X7_doStep_39 hT) rfl rfl rfl ?_
  refine v_load (v := (0, (p : Int))) (hi_X7_doStep_42 hT) rfl rfl ?_
  refine v_aldB (t := 0) (r := 50) (w := 12) (hi_X7_doStep_43 hT) rfl rfl rfl (fun _ _ => (congrArg Prod.snd ((zset_ne (fun c => absurd c.1 (by decide))).trans w1))) (fun ha6 hb7 => ?_)
  refine v_sw (hi_X7_doStep_44 hT) ?_
  refine ⟨fun c => absurd c (by decide), fun _ => ?_⟩
  refine ⟨fun c => absurd c (by decide), fun _ => ?_⟩
  refine ⟨fun c => absurd c (by decide), fun _ => ?_⟩
  refine ⟨fun c => absurd c (by decide), fun _ => ?_⟩
  refine ⟨fun _ => ?_, fun c => absurd rfl c⟩
  refine v_load (v := (2, 117)) (hz_X7_doStep hT _ _ rfl) rfl rfl ?_
  refine v_load (v := (0, (a : Int))) (hz_X7_doStep hT _ _ rfl) rfl rfl ?_
  refine v_load (v := (0, (b : Int))) (hz_X7_doStep hT _ _ rfl) rfl rfl ?_
  refine v_call (w := 6) [some (2, 117), some (0, (a : Int)), some (0, (b : Int)), none, none, none] hO (hz_X7_doStep hT _ _ rfl) rfl rfl ?_
  exact k0 ha1 hb2
theorem qk_ds13_39 {D : zD} {T : zT} (hT : hTab T) (hO : vOK T) {N : Nat} {h : zH} {Q : zR → Prop} {p a b : Nat} (hv0 : zHv h) (e2 : h 117 2 = (2, 39)) (e3 : h 117 3 = (2, 49)) (e5 : h 117 5 = (0, (p : Int))) (w1 : h 50 p = (0, 13)) (w2 : h 51 p = (0, (a : Int))) (w3 : h 52 p = (0, (b : Int))) (hp : p < 60)
    (k0 : (0 ≤ (p : Int)) → ((p : Int) < 60) → vP D T N 96 0 (zset h 117 5 (0, ((p : Int) + 1))) [some (2, 117), some (0, (a : Int))] [] (fun r1 => vP D T N 92 205 r1.1 [some (2, 117), some (0, (p : Int)), some (0, (a : Int)), some (0, (b : Int))] (zpush r1.2 [(2, 117)]) Q)) :
    vP D T N 92 0 h [some (2, 117), none, none, none] [] Q := by
  refine v_load (v := (2, 117)) (hi_X7_doStep_0 hT) rfl rfl ?_
  refine v_getf (v := (0, (p : Int))) (r := 117) (hi_X7_doStep_1 hT) rfl rfl (fun _ => e5) ?_
  refine v_store1 [some (2, 117), some (0, (p : Int)), none, none] (hi_X7_doStep_4 hT) ⟨rfl, Nat.ne_of_beq_eq_false rfl⟩ (Nat.le_of_ble_eq_true rfl) rfl ?_
  refine v_load (v := (2, 117)) (hi_X7_doStep_5 hT) rfl rfl ?_
  refine v_getf (v := (2, 49)) (r := 117) (hi_X7_doStep_6 hT) rfl rfl (fun _ => e3) ?_
  refine v_getR (c := 51) (r := 49) (hi_X7_doStep_9 hT) rfl rfl rfl ?_
  refine v_load (v := (0, (p : Int))) (hi_X7_doStep_12 hT) rfl rfl ?_
  refine v_aldB (t := 0) (r := 51) (w := (a : Int)) (hi_X7_doStep_13 hT) rfl rfl rfl (fun _ _ => (congrArg Prod.snd w2)) (fun ha1 hb2 => ?_)
  refine v_store1 [some (2, 117), some (0, (p : Int)), some (0, (a : Int)), none] (hi_X7_doStep_14 hT) ⟨rfl, Nat.ne_of_beq_eq_false rfl⟩ (Nat.le_of_ble_eq_true rfl) rfl ?_
  refine v_load (v := (2, 117)) (hi_X7_doStep_15 hT) rfl rfl ?_
  refine v_getf (v := (2, 49)) (r := 117) (hi_X7_doStep_16 hT) rfl rfl (fun _ => e3) ?_
  refine v_getR (c := 52) (r := 49) (hi_X7_doStep_19 hT) rfl rfl rfl ?_
  refine v_load (v := (0, (p : Int))) (hi_X7_doStep_22 hT) rfl rfl ?_
  refine v_aldB (t := 0) (r := 52) (w := (b : Int)) (hi_X7_doStep_23 hT) rfl rfl rfl (fun _ _ => (congrArg Prod.snd w3)) (fun ha3 hb4 => ?_)
  refine v_store1 [some (2, 117), some (0, (p : Int)), some (0, (a : Int)), some (0, (b : Int))] (hi_X7_doStep_24 hT) ⟨rfl, Nat.ne_of_beq_eq_false rfl⟩ (Nat.le_of_ble_eq_true rfl) rfl ?_
  refine v_load (v := (2, 117)) (hi_X7_doStep_25 hT) rfl rfl ?_
  refine v_dup (hi_X7_doStep_26 hT) (Nat.ne_of_beq_eq_false rfl) ?_
  refine v_getf (v := (0, (p : Int))) (r := 117) (hi_X7_doStep_27 hT) rfl rfl (fun _ => e5) ?_
  refine v_push (1) (hi_X7_doStep_30 hT) rfl ?_
  refine v_bin (w := ((p : Int) + 1)) (hi_X7_doStep_31 hT) (hq_add (by omega) (by omega)) ?_
  refine v_putf (r := 117) hO (hi_X7_doStep_32 hT) rfl (fun hf5 => ?_)
  refine v_load (v := (2, 117)) (hi_X7_doStep_35 hT) rfl rfl ?_
  refine v_getf (v := (2, 49)) (r := 117) (hi_X7_doStep_36 hT) rfl rfl (fun _ => Eq.trans (zset_ne (fun c => absurd c.2 (by decide))) (e3)) ?_
  refine v_getR (c := 50) (r := 49) (hi_X7_doStep_39 hT) rfl rfl rfl ?_
  refine v_load (v := (0, (p : Int))) (hi_X7_doStep_42 hT) rfl rfl ?_
  refine v_aldB (t := 0) (r := 50) (w := 13) (hi_X7_doStep_43 hT) rfl rfl rfl (fun _ _ => (congrArg Prod.snd ((zset_ne (fun c => absurd c.1 (by decide))).trans w1))) (fun ha6 hb7 => ?_)
  refine v_sw (hi_X7_doStep_44 hT) ?_
  refine ⟨fun c => absurd c (by decide), fun _ => ?_⟩
  refine ⟨fun c => absurd c (by decide), fun _ => ?_⟩
  refine ⟨fun c => absurd c (by decide), fun _ => ?_⟩
  refine ⟨fun c => absurd c (by decide), fun _ => ?_⟩
  refine ⟨fun c => absurd c (by decide), fun _ => ?_⟩
  refine ⟨fun _ => ?_, fun c => absurd rfl c⟩
  refine v_load (v := (2, 117)) (hz_X7_doStep hT _ _ rfl) rfl rfl ?_
  refine v_load (v := (2, 117)) (hz_X7_doStep hT _ _ rfl) rfl rfl ?_
  refine v_load (v := (0, (a : Int))) (hz_X7_doStep hT _ _ rfl) rfl rfl ?_
  refine v_call (w := 2) [some (2, 117), some (0, (a : Int))] hO (hz_X7_doStep hT _ _ rfl) rfl rfl ?_
  exact k0 ha1 hb2
theorem qk_ds14_39 {D : zD} {T : zT} (hT : hTab T) (hO : vOK T) {N : Nat} {h : zH} {Q : zR → Prop} {p a b : Nat} (hv0 : zHv h) (e2 : h 117 2 = (2, 39)) (e3 : h 117 3 = (2, 49)) (e5 : h 117 5 = (0, (p : Int))) (w1 : h 50 p = (0, 14)) (w2 : h 51 p = (0, (a : Int))) (w3 : h 52 p = (0, (b : Int))) (hp : p < 60)
    (k0 : (0 ≤ (p : Int)) → ((p : Int) < 60) → vP D T N 52 0 (zset h 117 5 (0, ((p : Int) + 1))) [some (2, 39)] [] (fun r1 => vP D T N 92 218 r1.1 [some (2, 117), some (0, (p : Int)), some (0, (a : Int)), some (0, (b : Int))] (zpush r1.2 []) Q)) :
    vP D T N 92 0 h [some (2, 117), none, none, none] [] Q := by
  refine v_load (v := (2, 117)) (hi_X7_doStep_0 hT) rfl rfl ?_
  refine v_getf (v := (0, (p : Int))) (r := 117) (hi_X7_doStep_1 hT) rfl rfl (fun _ => e5) ?_
  refine v_store1 [some (2, 117), some (0, (p : Int)), none, none] (hi_X7_doStep_4 hT) ⟨rfl, Nat.ne_of_beq_eq_false rfl⟩ (Nat.le_of_ble_eq_true rfl) rfl ?_
  refine v_load (v := (2, 117)) (hi_X7_doStep_5 hT) rfl rfl ?_
  refine v_getf (v := (2, 49)) (r := 117) (hi_X7_doStep_6 hT) rfl rfl (fun _ => e3) ?_
  refine v_getR (c := 51) (r := 49) (hi_X7_doStep_9 hT) rfl rfl rfl ?_
  refine v_load (v := (0, (p : Int))) (hi_X7_doStep_12 hT) rfl rfl ?_
  refine v_aldB (t := 0) (r := 51) (w := (a : Int)) (hi_X7_doStep_13 hT) rfl rfl rfl (fun _ _ => (congrArg Prod.snd w2)) (fun ha1 hb2 => ?_)
  refine v_store1 [some (2, 117), some (0, (p : Int)), some (0, (a : Int)), none] (hi_X7_doStep_14 hT) ⟨rfl, Nat.ne_of_beq_eq_false rfl⟩ (Nat.le_of_ble_eq_true rfl) rfl ?_
  refine v_load (v := (2, 117)) (hi_X7_doStep_15 hT) rfl rfl ?_
  refine v_getf (v := (2, 49)) (r := 117) (hi_X7_doStep_16 hT) rfl rfl (fun _ => e3) ?_
  refine v_getR (c := 52) (r := 49) (hi_X7_doStep_19 hT) rfl rfl rfl ?_
  refine v_load (v := (0, (p : Int))) (hi_X7_doStep_22 hT) rfl rfl ?_
  refine v_aldB (t := 0) (r := 52) (w := (b : Int)) (hi_X7_doStep_23 hT) rfl rfl rfl (fun _ _ => (congrArg Prod.snd w3)) (fun ha3 hb4 => ?_)
  refine v_store1 [some (2, 117), some (0, (p : Int)), some (0, (a : Int)), some (0, (b : Int))] (hi_X7_doStep_24 hT) ⟨rfl, Nat.ne_of_beq_eq_false rfl⟩ (Nat.le_of_ble_eq_true rfl) rfl ?_
  refine v_load (v := (2, 117)) (hi_X7_doStep_25 hT) rfl rfl ?_
  refine v_dup (hi_X7_doStep_26 hT) (Nat.ne_of_beq_eq_false rfl) ?_
  refine v_getf (v := (0, (p : Int))) (r := 117) (hi_X7_doStep_27 hT) rfl rfl (fun _ => e5) ?_
  refine v_push (1) (hi_X7_doStep_30 hT) rfl ?_
  refine v_bin (w := ((p : Int) + 1)) (hi_X7_doStep_31 hT) (hq_add (by omega) (by omega)) ?_
  refine v_putf (r := 117) hO (hi_X7_doStep_32 hT) rfl (fun hf5 => ?_)
  refine v_load (v := (2, 117)) (hi_X7_doStep_35 hT) rfl rfl ?_
  refine v_getf (v := (2, 49)) (r := 117) (hi_X7_doStep_36 hT) rfl rfl (fun _ => Eq.trans (zset_ne (fun c => absurd c.2 (by decide))) (e3)) ?_
  refine v_getR (c := 50) (r := 49) (hi_X7_doStep_39 hT) rfl rfl rfl ?_
  refine v_load (v := (0, (p : Int))) (hi_X7_doStep_42 hT) rfl rfl ?_
  refine v_aldB (t := 0) (r := 50) (w := 14) (hi_X7_doStep_43 hT) rfl rfl rfl (fun _ _ => (congrArg Prod.snd ((zset_ne (fun c => absurd c.1 (by decide))).trans w1))) (fun ha6 hb7 => ?_)
  refine v_sw (hi_X7_doStep_44 hT) ?_
  refine ⟨fun c => absurd c (by decide), fun _ => ?_⟩
  refine ⟨fun c => absurd c (by decide), fun _ => ?_⟩
  refine ⟨fun c => absurd c (by decide), fun _ => ?_⟩
  refine ⟨fun c => absurd c (by decide), fun _ => ?_⟩
  refine ⟨fun c => absurd c (by decide), fun _ => ?_⟩
  refine ⟨fun c => absurd c (by decide), fun _ => ?_⟩
  refine ⟨fun _ => ?_, fun c => absurd rfl c⟩
  refine v_load (v := (2, 117)) (hz_X7_doStep hT _ _ rfl) rfl rfl ?_
  refine v_getf (v := (2, 39)) (r := 117) (hz_X7_doStep hT _ _ rfl) rfl rfl (fun _ => Eq.trans (zset_ne (fun c => absurd c.2 (by decide))) (e2)) ?_
  refine v_call (w := 1) [some (2, 39)] hO (hz_X7_doStep hT _ _ rfl) rfl rfl ?_
  exact k0 ha1 hb2
theorem qk_ds16_39 {D : zD} {T : zT} (hT : hTab T) (hO : vOK T) {N : Nat} {h : zH} {Q : zR → Prop} {p a b : Nat} (hv0 : zHv h) (e2 : h 117 2 = (2, 39)) (e3 : h 117 3 = (2, 49)) (e5 : h 117 5 = (0, (p : Int))) (w1 : h 50 p = (0, 16)) (w2 : h 51 p = (0, (a : Int))) (w3 : h 52 p = (0, (b : Int))) (hp : p < 60)
    (k0 : (0 ≤ (p : Int)) → ((p : Int) < 60) → vP D T N 97 0 (zset h 117 5 (0, ((p : Int) + 1))) [some (2, 117), some (0, (p : Int)), none, none] [] (fun r1 => vP D T N 92 244 r1.1 [some (2, 117), some (0, (p : Int)), some (0, (a : Int)), some (0, (b : Int))] (zpush r1.2 []) Q)) :
    vP D T N 92 0 h [some (2, 117), none, none, none] [] Q := by
  refine v_load (v := (2, 117)) (hi_X7_doStep_0 hT) rfl rfl ?_
  refine v_getf (v := (0, (p : Int))) (r := 117) (hi_X7_doStep_1 hT) rfl rfl (fun _ => e5) ?_
  refine v_store1 [some (2, 117), some (0, (p : Int)), none, none] (hi_X7_doStep_4 hT) ⟨rfl, Nat.ne_of_beq_eq_false rfl⟩ (Nat.le_of_ble_eq_true rfl) rfl ?_
  refine v_load (v := (2, 117)) (hi_X7_doStep_5 hT) rfl rfl ?_
  refine v_getf (v := (2, 49)) (r := 117) (hi_X7_doStep_6 hT) rfl rfl (fun _ => e3) ?_
  refine v_getR (c := 51) (r := 49) (hi_X7_doStep_9 hT) rfl rfl rfl ?_
  refine v_load (v := (0, (p : Int))) (hi_X7_doStep_12 hT) rfl rfl ?_
  refine v_aldB (t := 0) (r := 51) (w := (a : Int)) (hi_X7_doStep_13 hT) rfl rfl rfl (fun _ _ => (congrArg Prod.snd w2)) (fun ha1 hb2 => ?_)
  refine v_store1 [some (2, 117), some (0, (p : Int)), some (0, (a : Int)), none] (hi_X7_doStep_14 hT) ⟨rfl, Nat.ne_of_beq_eq_false rfl⟩ (Nat.le_of_ble_eq_true rfl) rfl ?_
  refine v_load (v := (2, 117)) (hi_X7_doStep_15 hT) rfl rfl ?_
  refine v_getf (v := (2, 49)) (r := 117) (hi_X7_doStep_16 hT) rfl rfl (fun _ => e3) ?_
  refine v_getR (c := 52) (r := 49) (hi_X7_doStep_19 hT) rfl rfl rfl ?_
  refine v_load (v := (0, (p : Int))) (hi_X7_doStep_22 hT) rfl rfl ?_
  refine v_aldB (t := 0) (r := 52) (w := (b : Int)) (hi_X7_doStep_23 hT) rfl rfl rfl (fun _ _ => (congrArg Prod.snd w3)) (fun ha3 hb4 => ?_)
  refine v_store1 [some (2, 117), some (0, (p : Int)), some (0, (a : Int)), some (0, (b : Int))] (hi_X7_doStep_24 hT) ⟨rfl, Nat.ne_of_beq_eq_false rfl⟩ (Nat.le_of_ble_eq_true rfl) rfl ?_
  refine v_load (v := (2, 117)) (hi_X7_doStep_25 hT) rfl rfl ?_
  refine v_dup (hi_X7_doStep_26 hT) (Nat.ne_of_beq_eq_false rfl) ?_
  refine v_getf (v := (0, (p : Int))) (r := 117) (hi_X7_doStep_27 hT) rfl rfl (fun _ => e5) ?_
  refine v_push (1) (hi_X7_doStep_30 hT) rfl ?_
  refine v_bin (w := ((p : Int) + 1)) (hi_X7_doStep_31 hT) (hq_add (by omega) (by omega)) ?_
  refine v_putf (r := 117) hO (hi_X7_doStep_32 hT) rfl (fun hf5 => ?_)
  refine v_load (v := (2, 117)) (hi_X7_doStep_35 hT) rfl rfl ?_
  refine v_getf (v := (2, 49)) (r := 117) (hi_X7_doStep_36 hT) rfl rfl (fun _ => Eq.trans (zset_ne (fun c => absurd c.2 (by decide))) (e3)) ?_
  refine v_getR (c := 50) (r := 49) (hi_X7_doStep_39 hT) rfl rfl rfl ?_
  refine v_load (v := (0, (p : Int))) (hi_X7_doStep_42 hT) rfl rfl ?_
  refine v_aldB (t := 0) (r := 50) (w := 16) (hi_X7_doStep_43 hT) rfl rfl rfl (fun _ _ => (congrArg Prod.snd ((zset_ne (fun c => absurd c.1 (by decide))).trans w1))) (fun ha6 hb7 => ?_)
  refine v_sw (hi_X7_doStep_44 hT) ?_
  refine ⟨fun c => absurd c (by decide), fun _ => ?_⟩
  refine ⟨fun c => absurd c (by decide), fun _ => ?_⟩
  refine ⟨fun c => absurd c (by decide), fun _ => ?_⟩
  refine ⟨fun c => absurd c (by decide), fun _ => ?_⟩
  refine ⟨fun c => absurd c (by decide), fun _ => ?_⟩
  refine ⟨fun c => absurd c (by decide), fun _ => ?_⟩
  refine ⟨fun c => absurd c (by decide), fun _ => ?_⟩
  refine ⟨fun c => absurd c (by decide), fun _ => ?_⟩
  refine ⟨fun _ => ?_, fun c => absurd rfl c⟩
  refine v_load (v := (2, 117)) (hi_X7_doStep_239 hT) rfl rfl ?_
  refine v_load (v := (0, (p : Int))) (hi_X7_doStep_240 hT) rfl rfl ?_
  refine v_call (w := 4) [some (2, 117), some (0, (p : Int)), none, none] hO (hi_X7_doStep_241 hT) rfl rfl ?_
  exact k0 ha1 hb2
theorem qk_ds17_39 {D : zD} {T : zT} (hT : hTab T) (hO : vOK T) {N : Nat} {h : zH} {Q : zR → Prop} {p a b : Nat} (hv0 : zHv h) (e2 : h 117 2 = (2, 39)) (e3 : h 117 3 = (2, 49)) (e5 : h 117 5 = (0, (p : Int))) (w1 : h 50 p = (0, 17)) (w2 : h 51 p = (0, (a : Int))) (w3 : h 52 p = (0, (b : Int))) (hp : p < 60)
    (k0 : (0 ≤ (p : Int)) → ((p : Int) < 60) → vP D T N 97 0 (zset h 117 5 (0, ((p : Int) + 1))) [some (2, 117), some (0, (p : Int)), none, none] [] (fun r1 => vP D T N 92 244 r1.1 [some (2, 117), some (0, (p : Int)), some (0, (a : Int)), some (0, (b : Int))] (zpush r1.2 []) Q)) :
    vP D T N 92 0 h [some (2, 117), none, none, none] [] Q := by
  refine v_load (v := (2, 117)) (hi_X7_doStep_0 hT) rfl rfl ?_
  refine v_getf (v := (0, (p : Int))) (r := 117) (hi_X7_doStep_1 hT) rfl rfl (fun _ => e5) ?_
  refine v_store1 [some (2, 117), some (0, (p : Int)), none, none] (hi_X7_doStep_4 hT) ⟨rfl, Nat.ne_of_beq_eq_false rfl⟩ (Nat.le_of_ble_eq_true rfl) rfl ?_
  refine v_load (v := (2, 117)) (hi_X7_doStep_5 hT) rfl rfl ?_
  refine v_getf (v := (2, 49)) (r := 117) (hi_X7_doStep_6 hT) rfl rfl (fun _ => e3) ?_
  refine v_getR (c := 51) (r := 49) (hi_X7_doStep_9 hT) rfl rfl rfl ?_
  refine v_load (v := (0, (p : Int))) (hi_X7_doStep_12 hT) rfl rfl ?_
  refine v_aldB (t := 0) (r := 51) (w := (a : Int)) (hi_X7_doStep_13 hT) rfl rfl rfl (fun _ _ => (congrArg Prod.snd w2)) (fun ha1 hb2 => ?_)
  refine v_store1 [some (2, 117), some (0, (p : Int)), some (0, (a : Int)), none] (hi_X7_doStep_14 hT) ⟨rfl, Nat.ne_of_beq_eq_false rfl⟩ (Nat.le_of_ble_eq_true rfl) rfl ?_
  refine v_load (v := (2, 117)) (hi_X7_doStep_15 hT) rfl rfl ?_
  refine v_getf (v := (2, 49)) (r := 117) (hi_X7_doStep_16 hT) rfl rfl (fun _ => e3) ?_
  refine v_getR (c := 52) (r := 49) (hi_X7_doStep_19 hT) rfl rfl rfl ?_
  refine v_load (v := (0, (p : Int))) (hi_X7_doStep_22 hT) rfl rfl ?_
  refine v_aldB (t := 0) (r := 52) (w := (b : Int)) (hi_X7_doStep_23 hT) rfl rfl rfl (fun _ _ => (congrArg Prod.snd w3)) (fun ha3 hb4 => ?_)
  refine v_store1 [some (2, 117), some (0, (p : Int)), some (0, (a : Int)), some (0, (b : Int))] (hi_X7_doStep_24 hT) ⟨rfl, Nat.ne_of_beq_eq_false rfl⟩ (Nat.le_of_ble_eq_true rfl) rfl ?_
  refine v_load (v := (2, 117)) (hi_X7_doStep_25 hT) rfl rfl ?_
  refine v_dup (hi_X7_doStep_26 hT) (Nat.ne_of_beq_eq_false rfl) ?_
  refine v_getf (v := (0, (p : Int))) (r := 117) (hi_X7_doStep_27 hT) rfl rfl (fun _ => e5) ?_
  refine v_push (1) (hi_X7_doStep_30 hT) rfl ?_
  refine v_bin (w := ((p : Int) + 1)) (hi_X7_doStep_31 hT) (hq_add (by omega) (by omega)) ?_
  refine v_putf (r := 117) hO (hi_X7_doStep_32 hT) rfl (fun hf5 => ?_)
  refine v_load (v := (2, 117)) (hi_X7_doStep_35 hT) rfl rfl ?_
  refine v_getf (v := (2, 49)) (r := 117) (hi_X7_doStep_36 hT) rfl rfl (fun _ => Eq.trans (zset_ne (fun c => absurd c.2 (by decide))) (e3)) ?_
  refine v_getR (c := 50) (r := 49) (hi_X7_doStep_39 hT) rfl rfl rfl ?_
  refine v_load (v := (0, (p : Int))) (hi_X7_doStep_42 hT) rfl rfl ?_
  refine v_aldB (t := 0) (r := 50) (w := 17) (hi_X7_doStep_43 hT) rfl rfl rfl (fun _ _ => (congrArg Prod.snd ((zset_ne (fun c => absurd c.1 (by decide))).trans w1))) (fun ha6 hb7 => ?_)
  refine v_sw (hi_X7_doStep_44 hT) ?_
  refine ⟨fun c => absurd c (by decide), fun _ => ?_⟩
  refine ⟨fun c => absurd c (by decide), fun _ => ?_⟩
  refine ⟨fun c => absurd c (by decide), fun _ => ?_⟩
  refine ⟨fun c => absurd c (by decide), fun _ => ?_⟩
  refine ⟨fun c => absurd c (by decide), fun _ => ?_⟩
  refine ⟨fun c => absurd c (by decide), fun _ => ?_⟩
  refine ⟨fun c => absurd c (by decide), fun _ => ?_⟩
  refine ⟨fun c => absurd c (by decide), fun _ => ?_⟩
  refine ⟨fun c => absurd c (by decide), fun _ => ?_⟩
  refine ⟨fun _ => ?_, fun c => absurd rfl c⟩
  refine v_load (v := (2, 117)) (hi_X7_doStep_239 hT) rfl rfl ?_
  refine v_load (v := (0, (p : Int))) (hi_X7_doStep_240 hT) rfl rfl ?_
  refine v_call (w := 4) [some (2, 117), some (0, (p : Int)), none, none] hO (hi_X7_doStep_241 hT) rfl rfl ?_
  exact k0 ha1 hb2
theorem qk_ds18_39 {D : zD} {T : zT} (hT : hTab T) (hO : vOK T) {N : Nat} {h : zH} {Q : zR → Prop} {p a b : Nat} (hv0 : zHv h) (e2 : h 117 2 = (2, 39)) (e3 : h 117 3 = (2, 49)) (e5 : h 117 5 = (0, (p : Int))) (w1 : h 50 p = (0, 18)) (w2 : h 51 p = (0, (a : Int))) (w3 : h 52 p = (0, (b : Int))) (hp : p < 60)
    (k0 : (0 ≤ (p : Int)) → ((p : Int) < 60) → vP D T N 97 0 (zset h 117 5 (0, ((p : Int) + 1))) [some (2, 117), some (0, (p : Int)), none, none] [] (fun r1 => vP D T N 92 244 r1.1 [some (2, 117), some (0, (p : Int)), some (0, (a : Int)), some (0, (b : Int))] (zpush r1.2 []) Q)) :
    vP D T N 92 0 h [some (2, 117), none, none, none] [] Q := by
  refine v_load (v := (2, 117)) (hi_X7_doStep_0 hT) rfl rfl ?_
  refine v_getf (v := (0, (p : Int))) (r := 117) (hi_X7_doStep_1 hT) rfl rfl (fun _ => e5) ?_
  refine v_store1 [some (2, 117), some (0, (p : Int)), none, none] (hi_X7_doStep_4 hT) ⟨rfl, Nat.ne_of_beq_eq_false rfl⟩ (Nat.le_of_ble_eq_true rfl) rfl ?_
  refine v_load (v := (2, 117)) (hi_X7_doStep_5 hT) rfl rfl ?_
  refine v_getf (v := (2, 49)) (r := 117) (hi_X7_doStep_6 hT) rfl rfl (fun _ => e3) ?_
  refine v_getR (c := 51) (r := 49) (hi_X7_doStep_9 hT) rfl rfl rfl ?_
  refine v_load (v := (0, (p : Int))) (hi_X7_doStep_12 hT) rfl rfl ?_
  refine v_aldB (t := 0) (r := 51) (w := (a : Int)) (hi_X7_doStep_13 hT) rfl rfl rfl (fun _ _ => (congrArg Prod.snd w2)) (fun ha1 hb2 => ?_)
  refine v_store1 [some (2, 117), some (0, (p : Int)), some (0, (a : Int)), none] (hi_X7_doStep_14 hT) ⟨rfl, Nat.ne_of_beq_eq_false rfl⟩ (Nat.le_of_ble_eq_true rfl) rfl ?_
  refine v_load (v := (2, 117)) (hi_X7_doStep_15 hT) rfl rfl ?_
  refine v_getf (v := (2, 49)) (r := 117) (hi_X7_doStep_16 hT) rfl rfl (fun _ => e3) ?_
  refine v_getR (c := 52) (r := 49) (hi_X7_doStep_19 hT) rfl rfl rfl ?_
  refine v_load (v := (0, (p : Int))) (hi_X7_doStep_22 hT) rfl rfl ?_
  refine v_aldB (t := 0) (r := 52) (w := (b : Int)) (hi_X7_doStep_23 hT) rfl rfl rfl (fun _ _ => (congrArg Prod.snd w3)) (fun ha3 hb4 => ?_)
  refine v_store1 [some (2, 117), some (0, (p : Int)), some (0, (a : Int)), some (0, (b : Int))] (hi_X7_doStep_24 hT) ⟨rfl, Nat.ne_of_beq_eq_false rfl⟩ (Nat.le_of_ble_eq_true rfl) rfl ?_
  refine v_load (v := (2, 117)) (hi_X7_doStep_25 hT) rfl rfl ?_
  refine v_dup (hi_X7_doStep_26 hT) (Nat.ne_of_beq_eq_false rfl) ?_
  refine v_getf (v := (0, (p : Int))) (r := 117) (hi_X7_doStep_27 hT) rfl rfl (fun _ => e5) ?_
  refine v_push (1) (hi_X7_doStep_30 hT) rfl ?_
  refine v_bin (w := ((p : Int) + 1)) (hi_X7_doStep_31 hT) (hq_add (by omega) (by omega)) ?_
  refine v_putf (r := 117) hO (hi_X7_doStep_32 hT) rfl (fun hf5 => ?_)
  refine v_load (v := (2, 117)) (hi_X7_doStep_35 hT) rfl rfl ?_
  refine v_getf (v := (2, 49)) (r := 117) (hi_X7_doStep_36 hT) rfl rfl (fun _ => Eq.trans (zset_ne (fun c => absurd c.2 (by decide))) (e3)) ?_
  refine v_getR (c := 50) (r := 49) (hi_X7_doStep_39 hT) rfl rfl rfl ?_
  refine v_load (v := (0, (p : Int))) (hi_X7_doStep_42 hT) rfl rfl ?_
  refine v_aldB (t := 0) (r := 50) (w := 18) (hi_X7_doStep_43 hT) rfl rfl rfl (fun _ _ => (congrArg Prod.snd ((zset_ne (fun c => absurd c.1 (by decide))).trans w1))) (fun ha6 hb7 => ?_)
  refine v_sw (hi_X7_doStep_44 hT) ?_
  refine ⟨fun c => absurd c (by decide), fun _ => ?_⟩
  refine ⟨fun c => absurd c (by decide), fun _ => ?_⟩
  refine ⟨fun c => absurd c (by decide), fun _ => ?_⟩
  refine ⟨fun c => absurd c (by decide), fun _ => ?_⟩
  refine ⟨fun c => absurd c (by decide), fun _ => ?_⟩
  refine ⟨fun c => absurd c (by decide), fun _ => ?_⟩
  refine ⟨fun c => absurd c (by decide), fun _ => ?_⟩
  refine ⟨fun c => absurd c (by decide), fun _ => ?_⟩
  refine ⟨fun c => absurd c (by decide), fun _ => ?_⟩
  refine ⟨fun c => absurd c (by decide), fun _ => ?_⟩
  refine ⟨fun _ => ?_, fun c => absurd rfl c⟩
  refine v_load (v := (2, 117)) (hi_X7_doStep_239 hT) rfl rfl ?_
  refine v_load (v := (0, (p : Int))) (hi_X7_doStep_240 hT) rfl rfl ?_
  refine v_call (w := 4) [some (2, 117), some (0, (p : Int)), none, none] hO (hi_X7_doStep_241 hT) rfl rfl ?_
  exact k0 ha1 hb2
theorem qk_ds19_39 {D : zD} {T : zT} (hT : hTab T) (hO : vOK T) {N : Nat} {h : zH} {Q : zR → Prop} {p a b : Nat} (hv0 : zHv h) (e2 : h 117 2 = (2, 39)) (e3 : h 117 3 = (2, 49)) (e5 : h 117 5 = (0, (p : Int))) (w1 : h 50 p = (0, 19)) (w2 : h 51 p = (0, (a : Int))) (w3 : h 52 p = (0, (b : Int))) (hp : p < 60)
    (k0 : (0 ≤ (p : Int)) → ((p : Int) < 60) → Q (zset (zset h 117 5 (0, ((p : Int) + 1))) 118 (((p : Int)).toNat) (0, (a : Int)), none)) :
    vP D T N 92 0 h [some (2, 117), none, none, none] [] Q := by
  refine v_load (v := (2, 117)) (hi_X7_doStep_0 hT) rfl rfl ?_
  refine v_getf (v := (0, (p : Int))) (r := 117) (hi_X7_doStep_1 hT) rfl rfl (fun _ => e5) ?_
  refine v_store1 [some (2, 117), some (0, (p : Int)), none, none] (hi_X7_doStep_4 hT) ⟨rfl, Nat.ne_of_beq_eq_false rfl⟩ (Nat.le_of_ble_eq_true rfl) rfl ?_
  refine v_load (v := (2, 117)) (hi_X7_doStep_5 hT) rfl rfl ?_
  refine v_getf (v := (2, 49)) (r := 117) (hi_X7_doStep_6 hT) rfl rfl (fun _ => e3) ?_
  refine v_getR (c := 51) (r := 49) (hi_X7_doStep_9 hT) rfl rfl rfl ?_
  refine v_load (v := (0, (p : Int))) (hi_X7_doStep_12 hT) rfl rfl ?_
  refine v_aldB (t := 0) (r := 51) (w := (a : Int)) (hi_X7_doStep_13 hT) rfl rfl rfl (fun _ _ => (congrArg Prod.snd w2)) (fun ha1 hb2 => ?_)
  refine v_store1 [some (2, 117), some (0, (p : Int)), some (0, (a : Int)), none] (hi_X7_doStep_14 hT) ⟨rfl, Nat.ne_of_beq_eq_false rfl⟩ (Nat.le_of_ble_eq_true rfl) rfl ?_
  refine v_load (v := (2, 117)) (hi_X7_doStep_15 hT) rfl rfl ?_
  refine v_getf (v := (2, 49)) (r := 117) (hi_X7_doStep_16 hT) rfl rfl (fun _ => e3) ?_
  refine v_getR (c := 52) (r := 49) (hi_X7_doStep_19 hT) rfl rfl rfl ?_
  refine v_load (v := (0, (p : Int))) (hi_X7_doStep_22 hT) rfl rfl ?_
  refine v_aldB (t := 0) (r := 52) (w := (b : Int)) (hi_X7_doStep_23 hT) rfl rfl rfl (fun _ _ => (congrArg Prod.snd w3)) (fun ha3 hb4 => ?_)
  refine v_store1 [some (2, 117), some (0, (p : Int)), some (0, (a : Int)), some (0, (b : Int))] (hi_X7_doStep_24 hT) ⟨rfl, Nat.ne_of_beq_eq_false rfl⟩ (Nat.le_of_ble_eq_true rfl) rfl ?_
  refine v_load (v := (2, 117)) (hi_X7_doStep_25 hT) rfl rfl ?_
  refine v_dup (hi_X7_doStep_26 hT) (Nat.ne_of_beq_eq_false rfl) ?_
  refine v_getf (v := (0, (p : Int))) (r := 117) (hi_X7_doStep_27 hT) rfl rfl (fun _ => e5) ?_
  refine v_push (1) (hi_X7_doStep_30 hT) rfl ?_
  refine v_bin (w := ((p : Int) + 1)) (hi_X7_doStep_31 hT) (hq_add (by omega) (by omega)) ?_
  refine v_putf (r := 117) hO (hi_X7_doStep_32 hT) rfl (fun hf5 => ?_)
  refine v_load (v := (2, 117)) (hi_X7_doStep_35 hT) rfl rfl ?_
  refine v_getf (v := (2, 49)) (r := 117) (hi_X7_doStep_36 hT) rfl rfl (fun _ => Eq.trans (zset_ne (fun c => absurd c.2 (by decide))) (e3)) ?_
  refine v_getR (c := 50) (r := 49) (hi_X7_doStep_39 hT) rfl rfl rfl ?_
  refine v_load (v := (0, (p : Int))) (hi_X7_doStep_42 hT) rfl rfl ?_
  refine v_aldB (t := 0) (r := 50) (w := 19) (hi_X7_doStep_43 hT) rfl rfl rfl (fun _ _ => (congrArg Prod.snd ((zset_ne (fun c => absurd c.1 (by decide))).trans w1))) (fun ha6 hb7 => ?_)
  refine v_sw (hi_X7_doStep_44 hT) ?_
  refine ⟨fun c => absurd c (by decide), fun _ => ?_⟩
  refine ⟨fun c => absurd c (by decide), fun _ => ?_⟩
  refine ⟨fun c => absurd c (by decide), fun _ => ?_⟩
  refine ⟨fun c => absurd c (by decide), fun _ => ?_⟩
  refine ⟨fun c => absurd c (by decide), fun _ => ?_⟩
  refine ⟨fun c => absurd c (by decide), fun _ => ?_⟩
  refine ⟨fun c => absurd c (by decide), fun _ => ?_⟩
  refine ⟨fun c => absurd c (by decide), fun _ => ?_⟩
  refine ⟨fun c => absurd c (by decide), fun _ => ?_⟩
  refine ⟨fun c => absurd c (by decide), fun _ => ?_⟩
  refine ⟨fun c => absurd c (by decide), fun _ => ?_⟩
  refine ⟨fun _ => ?_, fun c => absurd rfl c⟩
  refine v_load (v := (2, 117)) (hz_X7_doStep hT _ _ rfl) rfl rfl ?_
  refine v_getR (c := 118) (r := 117) (hz_X7_doStep hT _ _ rfl) rfl rfl rfl ?_
  refine v_load (v := (0, (p : Int))) (hz_X7_doStep hT _ _ rfl) rfl rfl ?_
  refine v_load (v := (0, (a : Int))) (hz_X7_doStep hT _ _ rfl) rfl rfl ?_
  refine v_ast (r := 118) (hz_X7_doStep hT _ _ rfl) rfl rfl (fun ha8 hb9 hf10 => ?_)
  refine v_goto (hz_X7_doStep hT _ _ rfl) ?_
  refine v_ret0 (hi_X7_doStep_262 hT) ?_
  exact k0 ha1 hb2
theorem qk_ds21_39 {D : zD} {T : zT} (hT : hTab T) (hO : vOK T) {N : Nat} {h : zH} {Q : zR → Prop} {p a b : Nat} (hv0 : zHv h) (e2 : h 117 2 = (2, 39)) (e3 : h 117 3 = (2, 49)) (e5 : h 117 5 = (0, (p : Int))) (w1 : h 50 p = (0, 21)) (w2 : h 51 p = (0, (a : Int))) (w3 : h 52 p = (0, (b : Int))) (hp : p < 60)
    (k0 : (0 ≤ (p : Int)) → ((p : Int) < 60) → Q (zset (zset h 117 5 (0, ((p : Int) + 1))) 117 6 (0, 1), none)) :
    vP D T N 92 0 h [some (2, 117), none, none, none] [] Q := by
  refine v_load (v := (2, 117)) (hi_X7_doStep_0 hT) rfl rfl ?_
  refine v_getf (v := (0, (p : Int))) (r := 117) (hi_X7_doStep_1 hT) rfl rfl (fun _ => e5) ?_
  refine v_store1 [some (2, 117), some (0, (p : Int)), none, none] (hi_X7_doStep_4 hT) ⟨rfl, Nat.ne_of_beq_eq_false rfl⟩ (Nat.le_of_ble_eq_true rfl) rfl ?_
  refine v_load (v := (2, 117)) (hi_X7_doStep_5 hT) rfl rfl ?_
  refine v_getf (v := (2, 49)) (r := 117) (hi_X7_doStep_6 hT) rfl rfl (fun _ => e3) ?_
  refine v_getR (c := 51) (r := 49) (hi_X7_doStep_9 hT) rfl rfl rfl ?_
  refine v_load (v := (0, (p : Int))) (hi_X7_doStep_12 hT) rfl rfl ?_
  refine v_aldB (t := 0) (r := 51) (w := (a : Int)) (hi_X7_doStep_13 hT) rfl rfl rfl (fun _ _ => (congrArg Prod.snd w2)) (fun ha1 hb2 => ?_)
  refine v_store1 [some (2, 117), some (0, (p : Int)), some (0, (a : Int)), none] (hi_X7_doStep_14 hT) ⟨rfl, Nat.ne_of_beq_eq_false rfl⟩ (Nat.le_of_ble_eq_true rfl) rfl ?_
  refine v_load (v := (2, 117)) (hi_X7_doStep_15 hT) rfl rfl ?_
  refine v_getf (v := (2, 49)) (r := 117) (hi_X7_doStep_16 hT) rfl rfl (fun _ => e3) ?_
  refine v_getR (c := 52) (r := 49) (hi_X7_doStep_19 hT) rfl rfl rfl ?_
  refine v_load (v := (0, (p : Int))) (hi_X7_doStep_22 hT) rfl rfl ?_
  refine v_aldB (t := 0) (r := 52) (w := (b : Int)) (hi_X7_doStep_23 hT) rfl rfl rfl (fun _ _ => (congrArg Prod.snd w3)) (fun ha3 hb4 => ?_)
  refine v_store1 [some (2, 117), some (0, (p : Int)), some (0, (a : Int)), some (0, (b : Int))] (hi_X7_doStep_24 hT) ⟨rfl, Nat.ne_of_beq_eq_false rfl⟩ (Nat.le_of_ble_eq_true rfl) rfl ?_
  refine v_load (v := (2, 117)) (hi_X7_doStep_25 hT) rfl rfl ?_
  refine v_dup (hi_X7_doStep_26 hT) (Nat.ne_of_beq_eq_false rfl) ?_
  refine v_getf (v := (0, (p : Int))) (r := 117) (hi_X7_doStep_27 hT) rfl rfl (fun _ => e5) ?_
  refine v_push (1) (hi_X7_doStep_30 hT) rfl ?_
  refine v_bin (w := ((p : Int) + 1)) (hi_X7_doStep_31 hT) (hq_add (by omega) (by omega)) ?_
  refine v_putf (r := 117) hO (hi_X7_doStep_32 hT) rfl (fun hf5 => ?_)
  refine v_load (v := (2, 117)) (hi_X7_doStep_35 hT) rfl rfl ?_
  refine v_getf (v := (2, 49)) (r := 117) (hi_X7_doStep_36 hT) rfl rfl (fun _ => Eq.trans (zset_ne (fun c => absurd c.2 (by decide))) (e3)) ?_
  refine v_getR (c := 50) (r := 49) (hi_X7_doStep_39 hT) rfl rfl rfl ?_
  refine v_load (v := (0, (p : Int))) (hi_X7_doStep_42 hT) rfl rfl ?_
  refine v_aldB (t := 0) (r := 50) (w := 21) (hi_X7_doStep_43 hT) rfl rfl rfl (fun _ _ => (congrArg Prod.snd ((zset_ne (fun c => absurd c.1 (by decide))).trans w1))) (fun ha6 hb7 => ?_)
  refine v_sw (hi_X7_doStep_44 hT) ?_
  refine ⟨fun c => absurd c (by decide), fun _ => ?_⟩
  refine ⟨fun c => absurd c (by decide), fun _ => ?_⟩
  refine ⟨fun c => absurd c (by decide), fun _ => ?_⟩
  refine ⟨fun c => absurd c (by decide), fun _ => ?_⟩
  refine ⟨fun c => absurd c (by decide), fun _ => ?_⟩
  refine ⟨fun c => absurd c (by decide), fun _ => ?_⟩
  refine ⟨fun c => absurd c (by decide), fun _ => ?_⟩
  refine ⟨fun c => absurd c (by decide), fun _ => ?_⟩
  refine ⟨fun c => absurd c (by decide), fun _ => ?_⟩
  refine ⟨fun c => absurd c (by decide), fun _ => ?_⟩
  refine ⟨fun c => absurd c (by decide), fun _ => ?_⟩
  refine ⟨fun c => absurd c (by decide), fun _ => ?_⟩
  refine ⟨fun c => absurd c (by decide), fun _ => ?_⟩
  refine ⟨fun _ => ?_, fun c => absurd rfl c⟩
  refine v_load (v := (2, 117)) (hz_X7_doStep hT _ _ rfl) rfl rfl ?_
  refine v_push (1) (hz_X7_doStep hT _ _ rfl) rfl ?_
  refine v_putf (r := 117) hO (hz_X7_doStep hT _ _ rfl) rfl (fun hf8 => ?_)
  refine v_goto (hz_X7_doStep hT _ _ rfl) ?_
  refine v_ret0 (hi_X7_doStep_262 hT) ?_
  exact k0 ha1 hb2
theorem qk_ds139_39 {D : zD} {T : zT} (hT : hTab T) (hO : vOK T) {N : Nat} {h : zH} {Q : zR → Prop} {p a b q : Nat} (hv0 : zHv h)
    (k0 : vP D T N 39 0 h [some (2, 39), some (0, (a : Int)), some (0, (q : Int))] [] (fun r1 => vP D T N 92 142 r1.1 [some (2, 117), some (0, (p : Int)), some (0, (a : Int)), some (0, (b : Int))] (zpush r1.2 [(2, 117)]) Q)) :
    vP D T N 92 139 h [some (2, 117), some (0, (p : Int)), some (0, (a : Int)), some (0, (b : Int))] [(0, (q : Int)), (0, (a : Int)), (2, 39), (2, 117)] Q := by
  refine v_call (w := 3) [some (2, 39), some (0, (a : Int)), some (0, (q : Int))] hO (hz_X7_doStep hT _ _ rfl) rfl rfl ?_
  exact k0 
theorem qk_ds244n_39 {D : zD} {T : zT} (hT : hTab T) (hO : vOK T) {N : Nat} {h : zH} {Q : zR → Prop} {p a b m : Nat} (hv0 : zHv h) (e2 : h 117 2 = (2, 39)) (e3 : h 117 3 = (2, 49)) (w4 : h 53 p = (0, (m : Int))) (hp : p < 60) (hm : m < 60)
    (k0 : (0 ≤ (p : Int)) → ((p : Int) < 60) → Q (zset h 117 5 (0, ((m : Int) + 1)), none)) :
    vP D T N 92 244 h [some (2, 117), some (0, (p : Int)), some (0, (a : Int)), some (0, (b : Int))] [(0, 0)] Q := by
  refine v_if (hz_X7_doStep hT _ _ rfl) (fun _ => ?_) (fun hc1 => absurd (show (0 : Int) = 0 from (by decide)) hc1)
  refine v_load (v := (2, 117)) (hz_X7_doStep hT _ _ rfl) rfl rfl ?_
  refine v_load (v := (2, 117)) (hz_X7_doStep hT _ _ rfl) rfl rfl ?_
  refine v_getf (v := (2, 49)) (r := 117) (hz_X7_doStep hT _ _ rfl) rfl rfl (fun _ => e3) ?_
  refine v_getR (c := 53) (r := 49) (hz_X7_doStep hT _ _ rfl) rfl rfl rfl ?_
  refine v_load (v := (0, (p : Int))) (hz_X7_doStep hT _ _ rfl) rfl rfl ?_
  refine v_aldB (t := 0) (r := 53) (w := (m : Int)) (hz_X7_doStep hT _ _ rfl) rfl rfl rfl (fun _ _ => (congrArg Prod.snd w4)) (fun ha2 hb3 => ?_)
  refine v_push (1) (hz_X7_doStep hT _ _ rfl) rfl ?_
  refine v_bin (w := ((m : Int) + 1)) (hz_X7_doStep hT _ _ rfl) (hq_add (by omega) (by omega)) ?_
  refine v_putf (r := 117) hO (hz_X7_doStep hT _ _ rfl) rfl (fun hf4 => ?_)
  refine v_ret0 (hi_X7_doStep_262 hT) ?_
  exact k0 ha2 hb3
theorem qk_en16_39 {D : zD} {T : zT} (hT : hTab T) (hO : vOK T) {N : Nat} {h : zH} {Q : zR → Prop} {p m : Nat} (hv0 : zHv h) (e2 : h 117 2 = (2, 39)) (e3 : h 117 3 = (2, 49)) (e5 : h 117 5 = (0, (m : Int))) (hm : m < 60) (hp : p < 60) (w4 : h 53 m = (0, (p : Int))) (w1 : h 50 p = (0, 16))
    (k0 : (0 ≤ (m : Int)) → ((m : Int) < 60) → ((p : Int) < 0) → Q (zset h 117 5 (0, ((m : Int) + 1)), none))
    (k1 : (0 ≤ (m : Int)) → ((m : Int) < 60) → (0 ≤ (p : Int)) → ((p : Int) < 60) → Q (zset h 117 5 (0, ((m : Int) + 1)), none)) :
    vP D T N 91 0 h [some (2, 117), none] [] Q := by
  refine v_load (v := (2, 117)) (hi_X7_comeToEnd_0 hT) rfl rfl ?_
  refine v_getf (v := (2, 49)) (r := 117) (hi_X7_comeToEnd_1 hT) rfl rfl (fun _ => e3) ?_
  refine v_getR (c := 53) (r := 49) (hi_X7_comeToEnd_4 hT) rfl rfl rfl ?_
  refine v_load (v := (2, 117)) (hi_X7_comeToEnd_7 hT) rfl rfl ?_
  refine v_getf (v := (0, (m : Int))) (r := 117) (hi_X7_comeToEnd_8 hT) rfl rfl (fun _ => e5) ?_
  refine v_aldB (t := 0) (r := 53) (w := (p : Int)) (hi_X7_comeToEnd_11 hT) rfl rfl rfl (fun _ _ => (congrArg Prod.snd w4)) (fun ha1 hb2 => ?_)
  refine v_store1 [some (2, 117), some (0, (p : Int))] (hi_X7_comeToEnd_12 hT) ⟨rfl, Nat.ne_of_beq_eq_false rfl⟩ (Nat.le_of_ble_eq_true rfl) rfl ?_
  refine v_load (v := (2, 117)) (hi_X7_comeToEnd_13 hT) rfl rfl ?_
  refine v_dup (hi_X7_comeToEnd_14 hT) (Nat.ne_of_beq_eq_false rfl) ?_
  refine v_getf (v := (0, (m : Int))) (r := 117) (hi_X7_comeToEnd_15 hT) rfl rfl (fun _ => e5) ?_
  refine v_push (1) (hi_X7_comeToEnd_18 hT) rfl ?_
  refine v_bin (w := ((m : Int) + 1)) (hi_X7_comeToEnd_19 hT) (hq_add (by omega) (by omega)) ?_
  refine v_putf (r := 117) hO (hi_X7_comeToEnd_20 hT) rfl (fun hf3 => ?_)
  refine v_load (v := (0, (p : Int))) (hi_X7_comeToEnd_23 hT) rfl rfl ?_
  refine v_if (hi_X7_comeToEnd_24 hT) (fun hc4 => ?_) (fun hc4 => ?_)
  · have hc4 : (p : Int) < 0 := hc4
    refine v_ret0 (hi_X7_comeToEnd_67 hT) ?_
    exact k0 ha1 hb2 hc4
  · have hc4 : 0 ≤ (p : Int) := Int.not_lt.mp hc4
    refine v_load (v := (2, 117)) (hi_X7_comeToEnd_27 hT) rfl rfl ?_
    refine v_getf (v := (2, 49)) (r := 117) (hi_X7_comeToEnd_28 hT) rfl rfl (fun _ => Eq.trans (zset_ne (fun c => absurd c.2 (by decide))) (e3)) ?_
    refine v_getR (c := 50) (r := 49) (hi_X7_comeToEnd_31 hT) rfl rfl rfl ?_
    refine v_load (v := (0, (p : Int))) (hi_X7_comeToEnd_34 hT) rfl rfl ?_
    refine v_aldB (t := 0) (r := 50) (w := 16) (hi_X7_comeToEnd_35 hT) rfl rfl rfl (fun _ _ => (congrArg Prod.snd ((zset_ne (fun c => absurd c.1 (by decide))).trans w1))) (fun ha5 hb6 => ?_)
    refine v_push (19) (hi_X7_comeToEnd_36 hT) rfl ?_
    refine v_ic (hi_X7_comeToEnd_38 hT) (fun hc7 => absurd (show (16 : Int) = 19 from hc7) (by decide)) (fun _ => ?_)
    refine v_ret0 (hi_X7_comeToEnd_67 hT) ?_
    exact k1 ha1 hb2 hc4 hb6
theorem qk_en17_39 {D : zD} {T : zT} (hT : hTab T) (hO : vOK T) {N : Nat} {h : zH} {Q : zR → Prop} {p m : Nat} (hv0 : zHv h) (e2 : h 117 2 = (2, 39)) (e3 : h 117 3 = (2, 49)) (e5 : h 117 5 = (0, (m : Int))) (hm : m < 60) (hp : p < 60) (w4 : h 53 m = (0, (p : Int))) (w1 : h 50 p = (0, 17))
    (k0 : (0 ≤ (m : Int)) → ((m : Int) < 60) → ((p : Int) < 0) → Q (zset h 117 5 (0, ((m : Int) + 1)), none))
    (k1 : (0 ≤ (m : Int)) → ((m : Int) < 60) → (0 ≤ (p : Int)) → ((p : Int) < 60) → Q (zset h 117 5 (0, ((m : Int) + 1)), none)) :
    vP D T N 91 0 h [some (2, 117), none] [] Q := by
  refine v_load (v := (2, 117)) (hi_X7_comeToEnd_0 hT) rfl rfl ?_
  refine v_getf (v := (2, 49)) (r := 117) (hi_X7_comeToEnd_1 hT) rfl rfl (fun _ => e3) ?_
  refine v_getR (c := 53) (r := 49) (hi_X7_comeToEnd_4 hT) rfl rfl rfl ?_
  refine v_load (v := (2, 117)) (hi_X7_comeToEnd_7 hT) rfl rfl ?_
  refine v_getf (v := (0, (m : Int))) (r := 117) (hi_X7_comeToEnd_8 hT) rfl rfl (fun _ => e5) ?_
  refine v_aldB (t := 0) (r := 53) (w := (p : Int)) (hi_X7_comeToEnd_11 hT) rfl rfl rfl (fun _ _ => (congrArg Prod.snd w4)) (fun ha1 hb2 => ?_)
  refine v_store1 [some (2, 117), some (0, (p : Int))] (hi_X7_comeToEnd_12 hT) ⟨rfl, Nat.ne_of_beq_eq_false rfl⟩ (Nat.le_of_ble_eq_true rfl) rfl ?_
  refine v_load (v := (2, 117)) (hi_X7_comeToEnd_13 hT) rfl rfl ?_
  refine v_dup (hi_X7_comeToEnd_14 hT) (Nat.ne_of_beq_eq_false rfl) ?_
  refine v_getf (v := (0, (m : Int))) (r := 117) (hi_X7_comeToEnd_15 hT) rfl rfl (fun _ => e5) ?_
  refine v_push (1) (hi_X7_comeToEnd_18 hT) rfl ?_
  refine v_bin (w := ((m : Int) + 1)) (hi_X7_comeToEnd_19 hT) (hq_add (by omega) (by omega)) ?_
  refine v_putf (r := 117) hO (hi_X7_comeToEnd_20 hT) rfl (fun hf3 => ?_)
  refine v_load (v := (0, (p : Int))) (hi_X7_comeToEnd_23 hT) rfl rfl ?_
  refine v_if (hi_X7_comeToEnd_24 hT) (fun hc4 => ?_) (fun hc4 => ?_)
  · have hc4 : (p : Int) < 0 := hc4
    refine v_ret0 (hi_X7_comeToEnd_67 hT) ?_
    exact k0 ha1 hb2 hc4
  · have hc4 : 0 ≤ (p : Int) := Int.not_lt.mp hc4
    refine v_load (v := (2, 117)) (hi_X7_comeToEnd_27 hT) rfl rfl ?_
    refine v_getf (v := (2, 49)) (r := 117) (hi_X7_comeToEnd_28 hT) rfl rfl (fun _ => Eq.trans (zset_ne (fun c => absurd c.2 (by decide))) (e3)) ?_
    refine v_getR (c := 50) (r := 49) (hi_X7_comeToEnd_31 hT) rfl rfl rfl ?_
    refine v_load (v := (0, (p : Int))) (hi_X7_comeToEnd_34 hT) rfl rfl ?_
    refine v_aldB (t := 0) (r := 50) (w := 17) (hi_X7_comeToEnd_35 hT) rfl rfl rfl (fun _ _ => (congrArg Prod.snd ((zset_ne (fun c => absurd c.1 (by decide))).trans w1))) (fun ha5 hb6 => ?_)
    refine v_push (19) (hi_X7_comeToEnd_36 hT) rfl ?_
    refine v_ic (hi_X7_comeToEnd_38 hT) (fun hc7 => absurd (show (17 : Int) = 19 from hc7) (by decide)) (fun _ => ?_)
    refine v_ret0 (hi_X7_comeToEnd_67 hT) ?_
    exact k1 ha1 hb2 hc4 hb6
theorem qk_en18_39 {D : zD} {T : zT} (hT : hTab T) (hO : vOK T) {N : Nat} {h : zH} {Q : zR → Prop} {p m : Nat} (hv0 : zHv h) (e2 : h 117 2 = (2, 39)) (e3 : h 117 3 = (2, 49)) (e5 : h 117 5 = (0, (m : Int))) (hm : m < 60) (hp : p < 60) (w4 : h 53 m = (0, (p : Int))) (w1 : h 50 p = (0, 18))
    (k0 : (0 ≤ (m : Int)) → ((m : Int) < 60) → ((p : Int) < 0) → Q (zset h 117 5 (0, ((m : Int) + 1)), none))
    (k1 : (0 ≤ (m : Int)) → ((m : Int) < 60) → (0 ≤ (p : Int)) → ((p : Int) < 60) → Q (zset h 117 5 (0, ((m : Int) + 1)), none)) :
    vP D T N 91 0 h [some (2, 117), none] [] Q := by
  refine v_load (v := (2, 117)) (hi_X7_comeToEnd_0 hT) rfl rfl ?_
  refine v_getf (v := (2, 49)) (r := 117) (hi_X7_comeToEnd_1 hT) rfl rfl (fun _ => e3) ?_
  refine v_getR (c := 53) (r := 49) (hi_X7_comeToEnd_4 hT) rfl rfl rfl ?_
  refine v_load (v := (2, 117)) (hi_X7_comeToEnd_7 hT) rfl rfl ?_
  refine v_getf (v := (0, (m : Int))) (r := 117) (hi_X7_comeToEnd_8 hT) rfl rfl (fun _ => e5) ?_
  refine v_aldB (t := 0) (r := 53) (w := (p : Int)) (hi_X7_comeToEnd_11 hT) rfl rfl rfl (fun _ _ => (congrArg Prod.snd w4)) (fun ha1 hb2 => ?_)
  refine v_store1 [some (2, 117), some (0, (p : Int))] (hi_X7_comeToEnd_12 hT) ⟨rfl, Nat.ne_of_beq_eq_false rfl⟩ (Nat.le_of_ble_eq_true rfl) rfl ?_
  refine v_load (v := (2, 117)) (hi_X7_comeToEnd_13 hT) rfl rfl ?_
  refine v_dup (hi_X7_comeToEnd_14 hT) (Nat.ne_of_beq_eq_false rfl) ?_
  refine v_getf (v := (0, (m : Int))) (r := 117) (hi_X7_comeToEnd_15 hT) rfl rfl (fun _ => e5) ?_
  refine v_push (1) (hi_X7_comeToEnd_18 hT) rfl ?_
  refine v_bin (w := ((m : Int) + 1)) (hi_X7_comeToEnd_19 hT) (hq_add (by omega) (by omega)) ?_
  refine v_putf (r := 117) hO (hi_X7_comeToEnd_20 hT) rfl (fun hf3 => ?_)
  refine v_load (v := (0, (p : Int))) (hi_X7_comeToEnd_23 hT) rfl rfl ?_
  refine v_if (hi_X7_comeToEnd_24 hT) (fun hc4 => ?_) (fun hc4 => ?_)
  · have hc4 : (p : Int) < 0 := hc4
    refine v_ret0 (hi_X7_comeToEnd_67 hT) ?_
    exact k0 ha1 hb2 hc4
  · have hc4 : 0 ≤ (p : Int) := Int.not_lt.mp hc4
    refine v_load (v := (2, 117)) (hi_X7_comeToEnd_27 hT) rfl rfl ?_
    refine v_getf (v := (2, 49)) (r := 117) (hi_X7_comeToEnd_28 hT) rfl rfl (fun _ => Eq.trans (zset_ne (fun c => absurd c.2 (by decide))) (e3)) ?_
    refine v_getR (c := 50) (r := 49) (hi_X7_comeToEnd_31 hT) rfl rfl rfl ?_
    refine v_load (v := (0, (p : Int))) (hi_X7_comeToEnd_34 hT) rfl rfl ?_
    refine v_aldB (t := 0) (r := 50) (w := 18) (hi_X7_comeToEnd_35 hT) rfl rfl rfl (fun _ _ => (congrArg Prod.snd ((zset_ne (fun c => absurd c.1 (by decide))).trans w1))) (fun ha5 hb6 => ?_)
    refine v_push (19) (hi_X7_comeToEnd_36 hT) rfl ?_
    refine v_ic (hi_X7_comeToEnd_38 hT) (fun hc7 => absurd (show (18 : Int) = 19 from hc7) (by decide)) (fun _ => ?_)
    refine v_ret0 (hi_X7_comeToEnd_67 hT) ?_
    exact k1 ha1 hb2 hc4 hb6
theorem qk_en19_39 {D : zD} {T : zT} (hT : hTab T) (hO : vOK T) {N : Nat} {h : zH} {Q : zR → Prop} {p m t : Nat} (hv0 : zHv h) (e2 : h 117 2 = (2, 39)) (e3 : h 117 3 = (2, 49)) (e5 : h 117 5 = (0, (m : Int))) (hm : m < 60) (hp : p < 60) (w4 : h 53 m = (0, (p : Int))) (w1 : h 50 p = (0, 19)) (w5 : h 118 p = (0, ((t + 1 : Nat) : Int))) (ht : t < 99)
    (k0 : (0 ≤ (m : Int)) → ((m : Int) < 60) → ((p : Int) < 0) → Q (zset h 117 5 (0, ((m : Int) + 1)), none))
    (k1 : (0 ≤ (m : Int)) → ((m : Int) < 60) → (0 ≤ (p : Int)) → ((p : Int) < 60) → (0 < (((t + 1 : Nat) : Int) - 1)) → Q (zset (zset (zset h 117 5 (0, ((m : Int) + 1))) 118 (((p : Int)).toNat) (0, (((t + 1 : Nat) : Int) - 1))) 117 5 (0, ((p : Int) + 1)), none))
    (k2 : (0 ≤ (m : Int)) → ((m : Int) < 60) → (0 ≤ (p : Int)) → ((p : Int) < 60) → ((((t + 1 : Nat) : Int) - 1) ≤ 0) → Q (zset (zset h 117 5 (0, ((m : Int) + 1))) 118 (((p : Int)).toNat) (0, (((t + 1 : Nat) : Int) - 1)), none)) :
    vP D T N 91 0 h [some (2, 117), none] [] Q := by
  refine v_load (v := (2, 117)) (hi_X7_comeToEnd_0 hT) rfl rfl ?_
  refine v_getf (v := (2, 49)) (r := 117) (hi_X7_comeToEnd_1 hT) rfl rfl (fun _ => e3) ?_
  refine v_getR (c := 53) (r := 49) (hi_X7_comeToEnd_4 hT) rfl rfl rfl ?_
  refine v_load (v := (2, 117)) (hi_X7_comeToEnd_7 hT) rfl rfl ?_
  refine v_getf (v := (0, (m : Int))) (r := 117) (hi_X7_comeToEnd_8 hT) rfl rfl (fun _ => e5) ?_
  refine v_aldB (t := 0) (r := 53) (w := (p : Int)) (hi_X7_comeToEnd_11 hT) rfl rfl rfl (fun _ _ => (congrArg Prod.snd w4)) (fun ha1 hb2 => ?_)
  refine v_store1 [some (2, 117), some (0, (p : Int))] (hi_X7_comeToEnd_12 hT) ⟨rfl, Nat.ne_of_beq_eq_false rfl⟩ (Nat.le_of_ble_eq_true rfl) rfl ?_
  refine v_load (v := (2, 117)) (hi_X7_comeToEnd_13 hT) rfl rfl ?_
  refine v_dup (hi_X7_comeToEnd_14 hT) (Nat.ne_of_beq_eq_false rfl) ?_
  refine v_getf (v := (0, (m : Int))) (r := 117) (hi_X7_comeToEnd_15 hT) rfl rfl (fun _ => e5) ?_
  refine v_push (1) (hi_X7_comeToEnd_18 hT) rfl ?_
  refine v_bin (w := ((m : Int) + 1)) (hi_X7_comeToEnd_19 hT) (hq_add (by omega) (by omega)) ?_
  refine v_putf (r := 117) hO (hi_X7_comeToEnd_20 hT) rfl (fun hf3 => ?_)
  refine v_load (v := (0, (p : Int))) (hi_X7_comeToEnd_23 hT) rfl rfl ?_
  refine v_if (hi_X7_comeToEnd_24 hT) (fun hc4 => ?_) (fun hc4 => ?_)
  · have hc4 : (p : Int) < 0 := hc4
    refine v_ret0 (hi_X7_comeToEnd_67 hT) ?_
    exact k0 ha1 hb2 hc4
  · have hc4 : 0 ≤ (p : Int) := Int.not_lt.mp hc4
    refine v_load (v := (2, 117)) (hi_X7_comeToEnd_27 hT) rfl rfl ?_
    refine v_getf (v := (2, 49)) (r := 117) (hi_X7_comeToEnd_28 hT) rfl rfl (fun _ => Eq.trans (zset_ne (fun c => absurd c.2 (by decide))) (e3)) ?_
    refine v_getR (c := 50) (r := 49) (hi_X7_comeToEnd_31 hT) rfl rfl rfl ?_
    refine v_load (v := (0, (p : Int))) (hi_X7_comeToEnd_34 hT) rfl rfl ?_
    refine v_aldB (t := 0) (r := 50) (w := 19) (hi_X7_comeToEnd_35 hT) rfl rfl rfl (fun _ _ => (congrArg Prod.snd ((zset_ne (fun c => absurd c.1 (by decide))).trans w1))) (fun ha5 hb6 => ?_)
    refine v_push (19) (hi_X7_comeToEnd_36 hT) rfl ?_
    refine v_ic (hi_X7_comeToEnd_38 hT) (fun _ => ?_) (fun hc7 => absurd (show (19 : Int) = 19 from (by decide)) hc7)
    refine v_load (v := (2, 117)) (hz_X7_comeToEnd hT _ _ rfl) rfl rfl ?_
    refine v_getR (c := 118) (r := 117) (hz_X7_comeToEnd hT _ _ rfl) rfl rfl rfl ?_
    refine v_load (v := (0, (p : Int))) (hz_X7_comeToEnd hT _ _ rfl) rfl rfl ?_
    refine v_dupd (hz_X7_comeToEnd hT _ _ rfl) (Nat.ne_of_beq_eq_false rfl) (Nat.ne_of_beq_eq_false rfl) ?_
    refine v_aldB (t := 0) (r := 118) (w := ((t + 1 : Nat) : Int)) (hz_X7_comeToEnd hT _ _ rfl) rfl rfl rfl (fun _ _ => (congrArg Prod.snd ((zset_ne (fun c => absurd c.1 (by decide))).trans w5))) (fun ha8 hb9 => ?_)
    refine v_push (1) (hz_X7_comeToEnd hT _ _ rfl) rfl ?_
    refine v_bin (w := (((t + 1 : Nat) : Int) - 1)) (hz_X7_comeToEnd hT _ _ rfl) (hq_sub (by omega) (by omega)) ?_
    refine v_ast (r := 118) (hz_X7_comeToEnd hT _ _ rfl) rfl rfl (fun ha10 hb11 hf12 => ?_)
    refine v_load (v := (2, 117)) (hz_X7_comeToEnd hT _ _ rfl) rfl rfl ?_
    refine v_getR (c := 118) (r := 117) (hz_X7_comeToEnd hT _ _ rfl) rfl rfl rfl ?_
    refine v_load (v := (0, (p : Int))) (hz_X7_comeToEnd hT _ _ rfl) rfl rfl ?_
    refine v_aldV (v := (0, (((t + 1 : Nat) : Int) - 1))) (r := 118) (hz_X7_comeToEnd hT _ _ rfl) rfl rfl (fun _ _ _ => zset_same) (fun ha13 hb14 => ?_)
    refine v_if (hz_X7_comeToEnd hT _ _ rfl) (fun hc15 => ?_) (fun hc15 => ?_)
    · have hc15 : 0 < (((t + 1 : Nat) : Int) - 1) := hc15
      refine v_load (v := (2, 117)) (hz_X7_comeToEnd hT _ _ rfl) rfl rfl ?_
      refine v_load (v := (0, (p : Int))) (hz_X7_comeToEnd hT _ _ rfl) rfl rfl ?_
      refine v_push (1) (hz_X7_comeToEnd hT _ _ rfl) rfl ?_
      refine v_bin (w := ((p : Int) + 1)) (hz_X7_comeToEnd hT _ _ rfl) (hq_add (by omega) (by omega)) ?_
      refine v_putf (r := 117) hO (hz_X7_comeToEnd hT _ _ rfl) rfl (fun hf16 => ?_)
      refine v_ret0 (hi_X7_comeToEnd_67 hT) ?_
      exact k1 ha1 hb2 hc4 hb6 hc15
    · have hc15 : (((t + 1 : Nat) : Int) - 1) ≤ 0 := Int.not_lt.mp hc15
      refine v_ret0 (hi_X7_comeToEnd_67 hT) ?_
      exact k2 ha1 hb2 hc4 hb6 hc15
theorem qk_co0_39 {D : zD} {T : zT} (hT : hTab T) (hO : vOK T) {N : Nat} {h : zH} {Q : zR → Prop} (e : Int) (hv0 : zHv h)
    (k0 : vP D T N 90 55 (zset (zset (zset (zset (zset (zset (zset (zset (zset (zset h 117 2 (2, 39)) 117 3 (2, 49)) 117 4 (0, e)) 117 5 (0, 0)) 117 6 (0, 0)) 117 7 (0, 0)) 117 8 (0, 0)) 117 9 (0, 0)) 117 10 (0, 0)) 117 11 (0, 0)) [some (2, 117), some (2, 39), some (0, e), some (0, 0)] [] Q) :
    vP D T N 90 0 h [some (2, 117), some (2, 39), some (0, e), none] [] Q := by
  refine v_load (v := (2, 117)) (hz_X7_carryOut hT _ _ rfl) rfl rfl ?_
  refine v_load (v := (2, 39)) (hz_X7_carryOut hT _ _ rfl) rfl rfl ?_
  refine v_putf (r := 117) hO (hz_X7_carryOut hT _ _ rfl) rfl (fun hf1 => ?_)
  refine v_load (v := (2, 117)) (hz_X7_carryOut hT _ _ rfl) rfl rfl ?_
  refine v_load (v := (2, 39)) (hz_X7_carryOut hT _ _ rfl) rfl rfl ?_
  refine v_getR (c := 49) (r := 39) (hz_X7_carryOut hT _ _ rfl) rfl rfl rfl ?_
  refine v_putf (r := 117) hO (hz_X7_carryOut hT _ _ rfl) rfl (fun hf2 => ?_)
  refine v_load (v := (2, 117)) (hz_X7_carryOut hT _ _ rfl) rfl rfl ?_
  refine v_load (v := (0, e)) (hz_X7_carryOut hT _ _ rfl) rfl rfl ?_
  refine v_putf (r := 117) hO (hz_X7_carryOut hT _ _ rfl) rfl (fun hf3 => ?_)
  refine v_load (v := (2, 117)) (hz_X7_carryOut hT _ _ rfl) rfl rfl ?_
  refine v_push (0) (hz_X7_carryOut hT _ _ rfl) rfl ?_
  refine v_putf (r := 117) hO (hz_X7_carryOut hT _ _ rfl) rfl (fun hf4 => ?_)
  refine v_load (v := (2, 117)) (hz_X7_carryOut hT _ _ rfl) rfl rfl ?_
  refine v_push (0) (hz_X7_carryOut hT _ _ rfl) rfl ?_
  refine v_putf (r := 117) hO (hz_X7_carryOut hT _ _ rfl) rfl (fun hf5 => ?_)
  refine v_load (v := (2, 117)) (hz_X7_carryOut hT _ _ rfl) rfl rfl ?_
  refine v_push (0) (hz_X7_carryOut hT _ _ rfl) rfl ?_
  refine v_putf (r := 117) hO (hz_X7_carryOut hT _ _ rfl) rfl (fun hf6 => ?_)
  refine v_load (v := (2, 117)) (hz_X7_carryOut hT _ _ rfl) rfl rfl ?_
  refine v_push (0) (hz_X7_carryOut hT _ _ rfl) rfl ?_
  refine v_putf (r := 117) hO (hz_X7_carryOut hT _ _ rfl) rfl (fun hf7 => ?_)
  refine v_load (v := (2, 117)) (hz_X7_carryOut hT _ _ rfl) rfl rfl ?_
  refine v_push (0) (hz_X7_carryOut hT _ _ rfl) rfl ?_
  refine v_putf (r := 117) hO (hz_X7_carryOut hT _ _ rfl) rfl (fun hf8 => ?_)
  refine v_load (v := (2, 117)) (hz_X7_carryOut hT _ _ rfl) rfl rfl ?_
  refine v_push (0) (hz_X7_carryOut hT _ _ rfl) rfl ?_
  refine v_putf (r := 117) hO (hz_X7_carryOut hT _ _ rfl) rfl (fun hf9 => ?_)
  refine v_load (v := (2, 117)) (hz_X7_carryOut hT _ _ rfl) rfl rfl ?_
  refine v_push (0) (hz_X7_carryOut hT _ _ rfl) rfl ?_
  refine v_putf (r := 117) hO (hz_X7_carryOut hT _ _ rfl) rfl (fun hf10 => ?_)
  refine v_push (0) (hz_X7_carryOut hT _ _ rfl) rfl ?_
  refine v_store1 [some (2, 117), some (2, 39), some (0, e), some (0, 0)] (hz_X7_carryOut hT _ _ rfl) ⟨rfl, Nat.ne_of_beq_eq_false rfl⟩ (Nat.le_of_ble_eq_true rfl) rfl ?_
  exact k0 
theorem qk_t1_39 {D : zD} {T : zT} (hT : hTab T) (hO : vOK T) {N : Nat} {h : zH} {Q : zR → Prop} {x p z : Nat} (e : Int) (hv0 : zHv h) (e2 : h 117 2 = (2, 39)) (e3 : h 117 3 = (2, 49)) (e5 : h 117 5 = (0, (p : Int))) (e6 : h 117 6 = (0, 0)) (z0 : h 49 0 = (0, (z : Int))) (hx : (x : Int) < 30300) (hpz : (p : Int) < (z : Int)) (hp : p < 60) (w1 : h 50 p = (0, 20))
    (k0 : (0 ≤ (p : Int)) → ((p : Int) < 60) → vP D T N 91 0 h [some (2, 117), none] [] (fun r1 => vP D T N 90 111 r1.1 [some (2, 117), some (2, 39), some (0, e), some (0, (x : Int))] (zpush r1.2 []) Q)) :
    vP D T (N + 1) 90 55 h [some (2, 117), some (2, 39), some (0, e), some (0, (x : Int))] [] Q := by
  refine v_loadS (v := (0, (x : Int))) (hi_X7_carryOut_55 hT) rfl rfl ?_
  refine v_push (30300) (hi_X7_carryOut_56 hT) rfl ?_
  refine v_ic (hi_X7_carryOut_59 hT) (fun _ => ?_) (fun hc1 => absurd (show (x : Int) < 30300 from hx) hc1)
  refine v_load (v := (2, 117)) (hi_X7_carryOut_62 hT) rfl rfl ?_
  refine v_getf (v := (0, 0)) (r := 117) (hi_X7_carryOut_63 hT) rfl rfl (fun _ => e6) ?_
  refine v_if (hi_X7_carryOut_66 hT) (fun _ => ?_) (fun hc2 => absurd (show (0 : Int) = 0 from (by decide)) hc2)
  refine v_load (v := (2, 117)) (hi_X7_carryOut_69 hT) rfl rfl ?_
  refine v_getf (v := (0, (p : Int))) (r := 117) (hi_X7_carryOut_70 hT) rfl rfl (fun _ => e5) ?_
  refine v_if (hi_X7_carryOut_73 hT) (fun hc3 => absurd (show (p : Int) < 0 from hc3) (by omega)) (fun _ => ?_)
  refine v_load (v := (2, 117)) (hi_X7_carryOut_76 hT) rfl rfl ?_
  refine v_getf (v := (0, (p : Int))) (r := 117) (hi_X7_carryOut_77 hT) rfl rfl (fun _ => e5) ?_
  refine v_load (v := (2, 117)) (hi_X7_carryOut_80 hT) rfl rfl ?_
  refine v_getf (v := (2, 49)) (r := 117) (hi_X7_carryOut_81 hT) rfl rfl (fun _ => e3) ?_
  refine v_getf (v := (0, (z : Int))) (r := 49) (hi_X7_carryOut_84 hT) rfl rfl (fun _ => z0) ?_
  refine v_ic (hi_X7_carryOut_87 hT) (fun _ => ?_) (fun hc4 => absurd (show (p : Int) < (z : Int) from hpz) hc4)
  refine v_load (v := (2, 117)) (hi_X7_carryOut_90 hT) rfl rfl ?_
  refine v_getf (v := (2, 49)) (r := 117) (hi_X7_carryOut_91 hT) rfl rfl (fun _ => e3) ?_
  refine v_getR (c := 50) (r := 49) (hi_X7_carryOut_94 hT) rfl rfl rfl ?_
  refine v_load (v := (2, 117)) (hi_X7_carryOut_97 hT) rfl rfl ?_
  refine v_getf (v := (0, (p : Int))) (r := 117) (hi_X7_carryOut_98 hT) rfl rfl (fun _ => e5) ?_
  refine v_aldB (t := 0) (r := 50) (w := 20) (hi_X7_carryOut_101 hT) rfl rfl rfl (fun _ _ => (congrArg Prod.snd w1)) (fun ha5 hb6 => ?_)
  refine v_push (20) (hi_X7_carryOut_102 hT) rfl ?_
  refine v_ic (hi_X7_carryOut_104 hT) (fun _ => ?_) (fun hc7 => absurd (show (20 : Int) = 20 from (by decide)) hc7)
  refine v_load (v := (2, 117)) (hz_X7_carryOut hT _ _ rfl) rfl rfl ?_
  refine v_call (w := 2) [some (2, 117), none] hO (hz_X7_carryOut hT _ _ rfl) rfl rfl ?_
  exact k0 ha5 hb6
theorem qk_t2_39 {D : zD} {T : zT} (hT : hTab T) (hO : vOK T) {N : Nat} {h : zH} {Q : zR → Prop} {x p z d w : Nat} (e : Int) (hv0 : zHv h) (e2 : h 117 2 = (2, 39)) (e3 : h 117 3 = (2, 49)) (e5 : h 117 5 = (0, (p : Int))) (e6 : h 117 6 = (0, 0)) (z0 : h 49 0 = (0, (z : Int))) (hx : (x : Int) < 30300) (e7 : h 117 7 = (0, (d : Int))) (hpz : (p : Int) < (z : Int)) (hp : p < 60) (w1 : h 50 p = (0, (w : Int))) (hw : (w : Int) ≠ 20) (hd : (d : Int) < 300)
    (k0 : (0 ≤ (p : Int)) → ((p : Int) < 60) → vP D T N 92 0 (zset h 117 7 (0, ((d : Int) + 1))) [some (2, 117), none, none, none] [] (fun r1 => vP D T N 90 151 r1.1 [some (2, 117), some (2, 39), some (0, e), some (0, (x : Int))] (zpush r1.2 []) Q)) :
    vP D T (N + 1) 90 55 h [some (2, 117), some (2, 39), some (0, e), some (0, (x : Int))] [] Q := by
  refine v_loadS (v := (0, (x : Int))) (hi_X7_carryOut_55 hT) rfl rfl ?_
  refine v_push (30300) (hi_X7_carryOut_56 hT) rfl ?_
  refine v_ic (hi_X7_carryOut_59 hT) (fun _ => ?_) (fun hc1 => absurd (show (x : Int) < 30300 from hx) hc1)
  refine v_load (v := (2, 117)) (hi_X7_carryOut_62 hT) rfl rfl ?_
  refine v_getf (v := (0, 0)) (r := 117) (hi_X7_carryOut_63 hT) rfl rfl (fun _ => e6) ?_
  refine v_if (hi_X7_carryOut_66 hT) (fun _ => ?_) (fun hc2 => absurd (show (0 : Int) = 0 from (by decide)) hc2)
  refine v_load (v := (2, 117)) (hi_X7_carryOut_69 hT) rfl rfl ?_
  refine v_getf (v := (0, (p : Int))) (r := 117) (hi_X7_carryOut_70 hT) rfl rfl (fun _ => e5) ?_
  refine v_if (hi_X7_carryOut_73 hT) (fun hc3 => absurd (show (p : Int) < 0 from hc3) (by omega)) (fun _ => ?_)
  refine v_load (v := (2, 117)) (hi_X7_carryOut_76 hT) rfl rfl ?_
  refine v_getf (v := (0, (p : Int))) (r := 117) (hi_X7_carryOut_77 hT) rfl rfl (fun _ => e5) ?_
  refine v_load (v := (2, 117)) (hi_X7_carryOut_80 hT) rfl rfl ?_
  refine v_getf (v := (2, 49)) (r := 117) (hi_X7_carryOut_81 hT) rfl rfl (fun _ => e3) ?_
  refine v_getf (v := (0, (z : Int))) (r := 49) (hi_X7_carryOut_84 hT) rfl rfl (fun _ => z0) ?_
  refine v_ic (hi_X7_carryOut_87 hT) (fun _ => ?_) (fun hc4 => absurd (show (p : Int) < (z : Int) from hpz) hc4)
  refine v_load (v := (2, 117)) (hi_X7_carryOut_90 hT) rfl rfl ?_
  refine v_getf (v := (2, 49)) (r := 117) (hi_X7_carryOut_91 hT) rfl rfl (fun _ => e3) ?_
  refine v_getR (c := 50) (r := 49) (hi_X7_carryOut_94 hT) rfl rfl rfl ?_
  refine v_load (v := (2, 117)) (hi_X7_carryOut_97 hT) rfl rfl ?_
  refine v_getf (v := (0, (p : Int))) (r := 117) (hi_X7_carryOut_98 hT) rfl rfl (fun _ => e5) ?_
  refine v_aldB (t := 0) (r := 50) (w := (w : Int)) (hi_X7_carryOut_101 hT) rfl rfl rfl (fun _ _ => (congrArg Prod.snd w1)) (fun ha5 hb6 => ?_)
  refine v_push (20) (hi_X7_carryOut_102 hT) rfl ?_
  refine v_ic (hi_X7_carryOut_104 hT) (fun hc7 => absurd (show (w : Int) = 20 from hc7) hw) (fun _ => ?_)
  refine v_load (v := (2, 117)) (hi_X7_carryOut_114 hT) rfl rfl ?_
  refine v_getf (v := (0, (d : Int))) (r := 117) (hi_X7_carryOut_115 hT) rfl rfl (fun _ => e7) ?_
  refine v_push (300) (hi_X7_carryOut_118 hT) rfl ?_
  refine v_ic (hi_X7_carryOut_121 hT) (fun _ => ?_) (fun hc8 => absurd (show (d : Int) < 300 from hd) hc8)
  refine v_load (v := (2, 117)) (hz_X7_carryOut hT _ _ rfl) rfl rfl ?_
  refine v_dup (hz_X7_carryOut hT _ _ rfl) (Nat.ne_of_beq_eq_false rfl) ?_
  refine v_getf (v := (0, (d : Int))) (r := 117) (hz_X7_carryOut hT _ _ rfl) rfl rfl (fun _ => e7) ?_
  refine v_push (1) (hz_X7_carryOut hT _ _ rfl) rfl ?_
  refine v_bin (w := ((d : Int) + 1)) (hz_X7_carryOut hT _ _ rfl) (hq_add (by omega) (by omega)) ?_
  refine v_putf (r := 117) hO (hz_X7_carryOut hT _ _ rfl) rfl (fun hf9 => ?_)
  refine v_load (v := (2, 117)) (hz_X7_carryOut hT _ _ rfl) rfl rfl ?_
  refine v_call (w := 4) [some (2, 117), none, none, none] hO (hz_X7_carryOut hT _ _ rfl) rfl rfl ?_
  exact k0 ha5 hb6
theorem qk_t3_39 {D : zD} {T : zT} (hT : hTab T) (hO : vOK T) {N : Nat} {h : zH} {Q : zR → Prop} {x p z d w : Nat} (e : Int) (hv0 : zHv h) (e2 : h 117 2 = (2, 39)) (e3 : h 117 3 = (2, 49)) (e5 : h 117 5 = (0, (p : Int))) (e6 : h 117 6 = (0, 0)) (z0 : h 49 0 = (0, (z : Int))) (hx : (x : Int) < 30300) (e7 : h 117 7 = (0, (d : Int))) (hpz : (p : Int) < (z : Int)) (hp : p < 60) (w1 : h 50 p = (0, (w : Int))) (hw : (w : Int) ≠ 20) (hd : 300 ≤ (d : Int))
    (k0 : (0 ≤ (p : Int)) → ((p : Int) < 60) → vP D T N 90 55 (zset (zset h 117 11 (0, 1)) 117 6 (0, 1)) [some (2, 117), some (2, 39), some (0, e), some (0, ((x : Int) + 1))] [] Q) :
    vP D T (N + 1) 90 55 h [some (2, 117), some (2, 39), some (0, e), some (0, (x : Int))] [] Q := by
  refine v_loadS (v := (0, (x : Int))) (hi_X7_carryOut_55 hT) rfl rfl ?_
  refine v_push (30300) (hi_X7_carryOut_56 hT) rfl ?_
  refine v_ic (hi_X7_carryOut_59 hT) (fun _ => ?_) (fun hc1 => absurd (show (x : Int) < 30300 from hx) hc1)
  refine v_load (v := (2, 117)) (hi_X7_carryOut_62 hT) rfl rfl ?_
  refine v_getf (v := (0, 0)) (r := 117) (hi_X7_carryOut_63 hT) rfl rfl (fun _ => e6) ?_
  refine v_if (hi_X7_carryOut_66 hT) (fun _ => ?_) (fun hc2 => absurd (show (0 : Int) = 0 from (by decide)) hc2)
  refine v_load (v := (2, 117)) (hi_X7_carryOut_69 hT) rfl rfl ?_
  refine v_getf (v := (0, (p : Int))) (r := 117) (hi_X7_carryOut_70 hT) rfl rfl (fun _ => e5) ?_
  refine v_if (hi_X7_carryOut_73 hT) (fun hc3 => absurd (show (p : Int) < 0 from hc3) (by omega)) (fun _ => ?_)
  refine v_load (v := (2, 117)) (hi_X7_carryOut_76 hT) rfl rfl ?_
  refine v_getf (v := (0, (p : Int))) (r := 117) (hi_X7_carryOut_77 hT) rfl rfl (fun _ => e5) ?_
  refine v_load (v := (2, 117)) (hi_X7_carryOut_80 hT) rfl rfl ?_
  refine v_getf (v := (2, 49)) (r := 117) (hi_X7_carryOut_81 hT) rfl rfl (fun _ => e3) ?_
  refine v_getf (v := (0, (z : Int))) (r := 49) (hi_X7_carryOut_84 hT) rfl rfl (fun _ => z0) ?_
  refine v_ic (hi_X7_carryOut_87 hT) (fun _ => ?_) (fun hc4 => absurd (show (p : Int) < (z : Int) from hpz) hc4)
  refine v_load (v := (2, 117)) (hi_X7_carryOut_90 hT) rfl rfl ?_
  refine v_getf (v := (2, 49)) (r := 117) (hi_X7_carryOut_91 hT) rfl rfl (fun _ => e3) ?_
  refine v_getR (c := 50) (r := 49) (hi_X7_carryOut_94 hT) rfl rfl rfl ?_
  refine v_load (v := (2, 117)) (hi_X7_carryOut_97 hT) rfl rfl ?_
  refine v_getf (v := (0, (p : Int))) (r := 117) (hi_X7_carryOut_98 hT) rfl rfl (fun _ => e5) ?_
  refine v_aldB (t := 0) (r := 50) (w := (w : Int)) (hi_X7_carryOut_101 hT) rfl rfl rfl (fun _ _ => (congrArg Prod.snd w1)) (fun ha5 hb6 => ?_)
  refine v_push (20) (hi_X7_carryOut_102 hT) rfl ?_
  refine v_ic (hi_X7_carryOut_104 hT) (fun hc7 => absurd (show (w : Int) = 20 from hc7) hw) (fun _ => ?_)
  refine v_load (v := (2, 117)) (hi_X7_carryOut_114 hT) rfl rfl ?_
  refine v_getf (v := (0, (d : Int))) (r := 117) (hi_X7_carryOut_115 hT) rfl rfl (fun _ => e7) ?_
  refine v_push (300) (hi_X7_carryOut_118 hT) rfl ?_
  refine v_ic (hi_X7_carryOut_121 hT) (fun hc8 => absurd (show (d : Int) < 300 from hc8) (by omega)) (fun _ => ?_)
  refine v_load (v := (2, 117)) (hz_X7_carryOut hT _ _ rfl) rfl rfl ?_
  refine v_push (1) (hz_X7_carryOut hT _ _ rfl) rfl ?_
  refine v_putf (r := 117) hO (hz_X7_carryOut hT _ _ rfl) rfl (fun hf9 => ?_)
  refine v_load (v := (2, 117)) (hz_X7_carryOut hT _ _ rfl) rfl rfl ?_
  refine v_push (1) (hz_X7_carryOut hT _ _ rfl) rfl ?_
  refine v_putf (r := 117) hO (hz_X7_carryOut hT _ _ rfl) rfl (fun hf10 => ?_)
  refine v_goto (hz_X7_carryOut hT _ _ rfl) ?_
  refine v_iinc (x := (x : Int)) (u := 1) (w := ((x : Int) + 1)) [some (2, 117), some (2, 39), some (0, e), some (0, ((x : Int) + 1))] (hi_X7_carryOut_151 hT) rfl rfl (Nat.le_of_ble_eq_true rfl) (vz_inc (by omega) (by omega)) rfl ?_
  refine v_goto (hi_X7_carryOut_154 hT) ?_
  exact k0 ha5 hb6
theorem qk_t111_39 {D : zD} {T : zT} (hT : hTab T) (hO : vOK T) {N : Nat} {h : zH} {Q : zR → Prop} {x : Nat} (e : Int) (hv0 : zHv h) (hx : (x : Int) < 30300)
    (k0 : vP D T N 90 55 h [some (2, 117), some (2, 39), some (0, e), some (0, ((x : Int) + 1))] [] Q) :
    vP D T N 90 111 h [some (2, 117), some (2, 39), some (0, e), some (0, (x : Int))] [] Q := by
  refine v_goto (hz_X7_carryOut hT _ _ rfl) ?_
  refine v_iinc (x := (x : Int)) (u := 1) (w := ((x : Int) + 1)) [some (2, 117), some (2, 39), some (0, e), some (0, ((x : Int) + 1))] (hi_X7_carryOut_151 hT) rfl rfl (Nat.le_of_ble_eq_true rfl) (vz_inc (by omega) (by omega)) rfl ?_
  refine v_goto (hi_X7_carryOut_154 hT) ?_
  exact k0 
theorem qk_t151_39 {D : zD} {T : zT} (hT : hTab T) (hO : vOK T) {N : Nat} {h : zH} {Q : zR → Prop} {x : Nat} (e : Int) (hv0 : zHv h) (hx : (x : Int) < 30300)
    (k0 : vP D T N 90 55 h [some (2, 117), some (2, 39), some (0, e), some (0, ((x : Int) + 1))] [] Q) :
    vP D T N 90 151 h [some (2, 117), some (2, 39), some (0, e), some (0, (x : Int))] [] Q := by
  refine v_iinc (x := (x : Int)) (u := 1) (w := ((x : Int) + 1)) [some (2, 117), some (2, 39), some (0, e), some (0, ((x : Int) + 1))] (hi_X7_carryOut_151 hT) rfl rfl (Nat.le_of_ble_eq_true rfl) (vz_inc (by omega) (by omega)) rfl ?_
  refine v_goto (hi_X7_carryOut_154 hT) ?_
  exact k0 
theorem qk_tx6_39 {D : zD} {T : zT} (hT : hTab T) (hO : vOK T) {N : Nat} {h : zH} {Q : zR → Prop} {x d : Nat} (e : Int) (hv0 : zHv h) (e7 : h 117 7 = (0, (d : Int))) (e6 : h 117 6 = (0, 1))
    (k0 : ((x : Int) < 30300) → Q (h, some (0, (d : Int))))
    (k1 : (30300 ≤ (x : Int)) → Q (h, some (0, (d : Int)))) :
    vP D T (N + 1) 90 55 h [some (2, 117), some (2, 39), some (0, e), some (0, (x : Int))] [] Q := by
  refine v_loadS (v := (0, (x : Int))) (hi_X7_carryOut_55 hT) rfl rfl ?_
  refine v_push (30300) (hi_X7_carryOut_56 hT) rfl ?_
  refine v_ic (hi_X7_carryOut_59 hT) (fun hc1 => ?_) (fun hc1 => ?_)
  · have hc1 : (x : Int) < 30300 := hc1
    refine v_load (v := (2, 117)) (hi_X7_carryOut_62 hT) rfl rfl ?_
    refine v_getf (v := (0, 1)) (r := 117) (hi_X7_carryOut_63 hT) rfl rfl (fun _ => e6) ?_
    refine v_if (hi_X7_carryOut_66 hT) (fun hc2 => absurd (show (1 : Int) = 0 from hc2) (by decide)) (fun _ => ?_)
    refine v_load (v := (2, 117)) (hi_X7_carryOut_157 hT) rfl rfl ?_
    refine v_getf (v := (0, (d : Int))) (r := 117) (hi_X7_carryOut_158 hT) rfl rfl (fun _ => e7) ?_
    refine v_ret (hi_X7_carryOut_161 hT) (Or.inl rfl) ?_
    exact k0 hc1
  · have hc1 : 30300 ≤ (x : Int) := Int.not_lt.mp hc1
    refine v_load (v := (2, 117)) (hi_X7_carryOut_157 hT) rfl rfl ?_
    refine v_getf (v := (0, (d : Int))) (r := 117) (hi_X7_carryOut_158 hT) rfl rfl (fun _ => e7) ?_
    refine v_ret (hi_X7_carryOut_161 hT) (Or.inl rfl) ?_
    exact k1 hc1
theorem qk_tx5_39 {D : zD} {T : zT} (hT : hTab T) (hO : vOK T) {N : Nat} {h : zH} {Q : zR → Prop} {x p z d : Nat} (e : Int) (hv0 : zHv h) (e2 : h 117 2 = (2, 39)) (e3 : h 117 3 = (2, 49)) (e5 : h 117 5 = (0, (p : Int))) (e6 : h 117 6 = (0, 0)) (z0 : h 49 0 = (0, (z : Int))) (hx : (x : Int) < 30300) (e7 : h 117 7 = (0, (d : Int))) (hpz : (z : Int) ≤ (p : Int))
    (k0 : Q (h, some (0, (d : Int)))) :
    vP D T (N + 1) 90 55 h [some (2, 117), some (2, 39), some (0, e), some (0, (x : Int))] [] Q := by
  refine v_loadS (v := (0, (x : Int))) (hi_X7_carryOut_55 hT) rfl rfl ?_
  refine v_push (30300) (hi_X7_carryOut_56 hT) rfl ?_
  refine v_ic (hi_X7_carryOut_59 hT) (fun _ => ?_) (fun hc1 => absurd (show (x : Int) < 30300 from hx) hc1)
  refine v_load (v := (2, 117)) (hi_X7_carryOut_62 hT) rfl rfl ?_
  refine v_getf (v := (0, 0)) (r := 117) (hi_X7_carryOut_63 hT) rfl rfl (fun _ => e6) ?_
  refine v_if (hi_X7_carryOut_66 hT) (fun _ => ?_) (fun hc2 => absurd (show (0 : Int) = 0 from (by decide)) hc2)
  refine v_load (v := (2, 117)) (hi_X7_carryOut_69 hT) rfl rfl ?_
  refine v_getf (v := (0, (p : Int))) (r := 117) (hi_X7_carryOut_70 hT) rfl rfl (fun _ => e5) ?_
  refine v_if (hi_X7_carryOut_73 hT) (fun hc3 => absurd (show (p : Int) < 0 from hc3) (by omega)) (fun _ => ?_)
  refine v_load (v := (2, 117)) (hi_X7_carryOut_76 hT) rfl rfl ?_
  refine v_getf (v := (0, (p : Int))) (r := 117) (hi_X7_carryOut_77 hT) rfl rfl (fun _ => e5) ?_
  refine v_load (v := (2, 117)) (hi_X7_carryOut_80 hT) rfl rfl ?_
  refine v_getf (v := (2, 49)) (r := 117) (hi_X7_carryOut_81 hT) rfl rfl (fun _ => e3) ?_
  refine v_getf (v := (0, (z : Int))) (r := 49) (hi_X7_carryOut_84 hT) rfl rfl (fun _ => z0) ?_
  refine v_ic (hi_X7_carryOut_87 hT) (fun hc4 => absurd (show (p : Int) < (z : Int) from hc4) (by omega)) (fun _ => ?_)
  refine v_load (v := (2, 117)) (hi_X7_carryOut_157 hT) rfl rfl ?_
  refine v_getf (v := (0, (d : Int))) (r := 117) (hi_X7_carryOut_158 hT) rfl rfl (fun _ => e7) ?_
  refine v_ret (hi_X7_carryOut_161 hT) (Or.inl rfl) ?_
  exact k0 
theorem cx_dc_39 {D : zD} {T : zT} (hT : hTab T) (hO : vOK T) {N : Nat} {h : zH} {Q : zR → Prop} {P : PT} (r : Int) (hP : cP 39 P h) (lb : lB P) (hw : 1 ≤ P 0 0 ∧ 1 ≤ P 0 1) (e2 : h 117 2 = (2, 39)) (e4 : h 117 4 = (0, r)) (br : 0 ≤ r ∧ r < 65536) (k : ∀ g : zH, g 117 4 = (0, dR (dR r)) → (∀ a b, ¬ (a = 117 ∧ b = 4) → g a b = h a b) → Q (g, some (0, ((dQ P r : Nat) : Int)))) : vP D T N 94 0 h [some (2, 117), none, none] [] Q := by
  have l1 := lb.1
  have l2 := lb.2.1
  have a := dV_b (r := r) hw.1
  have b := dV_b (r := dR r) hw.2
  refine vP_hv (fun hv => qk_dc0_39 hT hO hv e2 hP.1.1 ?_)
  refine cx_dr hT hO r (P 0 0) ⟨hw.1, by omega⟩ e4 br ?_
  show vP D T N 94 11 (zset h 117 4 (0, dR r)) [some (2, 117), none, none] [(0, dV r (P 0 0))] Q
  refine vP_hv (fun hv => qk_dc11_39 (P := P) hT hO (dV r (P 0 0)) hv ((zset_ne (by decide)).trans e2) ((zset_ne (by decide)).trans hP.1.2.1) ?_)
  refine cx_dr hT hO (dR r) (P 0 1) ⟨hw.2, by omega⟩ zset_same (dR_b r) ?_
  show vP D T N 94 23 (zset (zset h 117 4 (0, dR r)) 117 4 (0, dR (dR r))) [some (2, 117), some (0, dV r (P 0 0)), none] [(0, dV (dR r) (P 0 1))] Q
  refine vP_hv (fun hv => qk_dc23 hT hO (dV r (P 0 0)) (dV (dR r) (P 0 1)) hv ⟨a.1, by omega⟩ ⟨b.1, by omega⟩ ?_)
  have e : dV (dR r) (P 0 1) * 8 + dV r (P 0 0) = ((dQ P r : Nat) : Int) := by
    unfold dQ
    omega
  rw [e]
  exact k _ zset_same (fun a b hn => (zset_ne hn).trans (zset_ne hn))
theorem cx_eat_39 {D : zD} {T : zT} (hT : hTab T) (hO : vOK T) {N : Nat} {h : zH} {Q : zR → Prop} {S : RuS} {B : Nat} (j q : Nat) (hS : cR1 39 S h) (hb : rBb S B) (hB : B ≤ 4000) (e2 : h 117 2 = (2, 39)) (hj : j < 3) (hq : q < 48) (k1 : S.P 3 (48 * j + q) = 1 → Q (h, some (0, 0))) (k2 : S.P 3 (48 * j + q) ≠ 1 → ∀ g : zH, cR1 39 (sEat j q S) g → cAF 39 h g → Q (g, some (0, 1))) : vP D T N 95 0 h [some (2, 117), some (0, (j : Int)), some (0, (q : Int))] [] Q := by
  have b5 := hb.2.2.2.2.1
  refine vP_hv (fun hv => qk_ec0_39 hT hO hv e2 ?_)
  refine cb_eat_39 hT hO _ _ j q rfl rfl hj hq hS.1 hb.1 (fun c => ?_) (fun c g hP f => ?_)
  · show vP D T N 95 9 h [some (2, 117), some (0, (j : Int)), some (0, (q : Int))] [(0, 0)] Q
    exact vP_hv (fun hv => qk_ec9n hT hO hv (k1 c))
  · show vP D T N 95 9 g [some (2, 117), some (0, (j : Int)), some (0, (q : Int))] [(0, 1)] Q
    have e9 : g 117 9 = (0, (S.bt : Int)) := (f 117 9 (by omega)).trans hS.2.2.2.2.1
    refine vP_hv (fun hv => qk_ec9y hT hO hv e9 (by omega) ?_)
    have e : sEat j q S = (sPb S (pBite S.P j q) (S.bt + 1)) := if_neg c
    refine k2 c _ ?_ (cAF.z (by decide) (fun a b hn => f a b (fun e => hn (Or.inl e))))
    rw [e]
    exact ⟨hP.eq (fun a b h1 h2 => zset_ne (fun q => by omega)), (zset_ne (by decide)).trans ((f 117 4 (by omega)).trans hS.2.1), (zset_ne (by decide)).trans ((f 117 7 (by omega)).trans hS.2.2.1), (zset_ne (by decide)).trans ((f 117 8 (by omega)).trans hS.2.2.2.1), zset_same, (zset_ne (by decide)).trans ((f 117 10 (by omega)).trans hS.2.2.2.2.2)⟩
/-- eatCell, whatever it says -/
theorem cx_eatz_39 {D : zD} {T : zT} (hT : hTab T) (hO : vOK T) {N : Nat} {h : zH} {Q : zR → Prop} {S : RuS} {B : Nat} (j q : Nat) (hS : cR1 39 S h) (hb : rBb S B) (hB : B ≤ 4000) (e2 : h 117 2 = (2, 39)) (hj : j < 3) (hq : q < 48) (k : ∀ (g : zH) (z : Int), cR1 39 (sEat j q S) g → cAF 39 h g → Q (g, some (0, z))) : vP D T N 95 0 h [some (2, 117), some (0, (j : Int)), some (0, (q : Int))] [] Q := by
  refine cx_eat_39 hT hO j q hS hb hB e2 hj hq (fun c => ?_) (fun c g a b => k g 1 a b)
  have e : sEat j q S = S := if_pos c
  exact k h 0 (by rw [e]; exact hS) cAF.rfl
theorem cx_mwL_39 {D : zD} {T : zT} (hT : hTab T) (hO : vOK T) {N : Nat} {Q : zR → Prop} {j b : Nat} (hj : j < 3) (hb12 : b ≤ 12) : ∀ (n i q : Nat) (S : RuS) (B : Nat) (h : zH) (o : Option zV), i + n = b → cR1 39 S h → rBb S B → B + n ≤ 4000 → h 117 2 = (2, 39) → gIn S.P q → (∀ g : zH, cR1 39 (sMouse j n q S) g → cAF 39 h g → Q (g, none)) → vP D T N 98 15 h [some (2, 117), some (0, (j : Int)), some (0, (b : Int)), some (0, (q : Int)), some (0, (i : Int)), o] [] Q
  | 0, i, q, S, B, h, o, hi, hS, hb, hB, e2, gq, k => by
    have : i = b := hi
    subst this
    exact vP_hv (fun hv => qk_mwx hT hO o hv (k h hS cAF.rfl))
  | n + 1, i, q, S, B, h, o, hi, hS, hb, hB, e2, gq, k => by
    have lb := hb.1.1
    have dv := dV_b (r := S.r) (n := 4) (by omega)
    refine vP_hv (fun hv => qk_mw15_39 hT hO o hv e2 (by omega) ?_)
    refine cx_dr hT hO S.r 4 (by omega) hS.2.1 hb.2.2.1 ?_
    have ed : dV S.r 4 = (((dV S.r 4).toNat : Nat) : Int) := by omega
    have hS1 : cR1 39 (sSr S (dR S.r)) (zset h 117 4 (0, dR S.r)) := ⟨hS.1.eq (fun a b h1 h2 => zset_ne (fun q => by omega)), zset_same, (zset_ne (by decide)).trans hS.2.2.1, (zset_ne (by decide)).trans hS.2.2.2.1, (zset_ne (by decide)).trans hS.2.2.2.2.1, (zset_ne (by decide)).trans hS.2.2.2.2.2⟩
    have e2' : zset h 117 4 (0, dR S.r) 117 2 = (2, 39) := (zset_ne (by decide)).trans e2
    have F0 : cAF 39 h (zset h 117 4 (0, dR S.r)) := cAF.z (by decide) cAF.rfl
    have go : ∀ (q' : Nat) (w : Int), q' = sTo S.P S.r q → gIn S.P q' → vP D T N 95 0 (zset h 117 4 (0, dR S.r)) [some (2, 117), some (0, (j : Int)), some (0, (q' : Int))] [] (fun r1 => vP D T N 98 55 r1.1 [some (2, 117), some (0, (j : Int)), some (0, (b : Int)), some (0, (q' : Int)), some (0, (i : Int)), some (0, w)] (zpush r1.2 []) Q) := fun q' w eq gq' => by
      refine cx_eatz_39 hT hO j q' hS1 (hb.draw S.r) (by omega) e2' hj gq'.1 (fun g z a1 a2 => ?_)
      show vP D T N 98 55 g [some (2, 117), some (0, (j : Int)), some (0, (b : Int)), some (0, (q' : Int)), some (0, (i : Int)), some (0, w)] [(0, z)] Q
      refine vP_hv (fun hv => qk_mw55 hT hO z w hv (by omega) ?_)
      obtain ⟨s1, s2, _⟩ := sEat_b (j := j) (q := q') (hb.draw S.r)
      refine cx_mwL_39 hT hO hj hb12 n (i + 1) q' _ (B + 1) g _ (by omega) a1 s1 (by omega) ((a2 117 2 (by omega)).trans e2') (s2.gin.mpr gq') (fun g2 b1 b2 => k g2 ?_ ((F0.trans a2).trans b2))
      subst eq
      exact b1
    rw [ed]
    show vP D T N 98 31 (zset h 117 4 (0, dR S.r)) [some (2, 117), some (0, (j : Int)), some (0, (b : Int)), some (0, (q : Int)), some (0, (i : Int)), o] [(0, (((dV S.r 4).toNat : Nat) : Int)), (0, (q : Int)), (2, 39)] Q
    refine vP_hv (fun hv => qk_mw31_39 (P := S.P) hT hO o hv ((zset_ne (by decide)).trans hS.1.1.1) ((zset_ne (by decide)).trans hS.1.1.2.1) lb gq (by omega) ?_ ?_ ?_)
    · intro c
      exact go q (-1) (by unfold sTo; rw [if_pos c]) gq
    · intro q1 _ _ c
      omega
    · intro q1 c g1 _
      exact go q1 (q1 : Int) (by unfold sTo; rw [c, if_neg (by omega), Int.toNat_natCast]) g1
theorem cx_gm_39 {D : zD} {T : zT} (hT : hTab T) (hO : vOK T) {N : Nat} {h : zH} {Q : zR → Prop} {S : RuS} {B : Nat} (a : Nat) (hS : cR1 39 S h) (hb : rBb S B) (e2 : h 117 2 = (2, 39)) (ha : (a : Int) < S.P 0 3) (k1 : mC S.P a = -1 → ∀ g : zH, cR1 39 S g → cAF 39 h g → Q (g, some (0, 0))) (k2 : mC S.P a ≠ -1 → ∀ g : zH, cR1 39 (sMarch a S) g → cAF 39 h g → Q (g, some (0, 1))) : vP D T N 96 0 h [some (2, 117), some (0, (a : Int))] [] Q := by
  have b6 := hb.2.2.2.2.2.1
  have b7 := hb.2.2.2.2.2.2.1
  refine vP_hv (fun hv => qk_gm0_39 hT hO hv e2 ?_)
  refine cx_fw_39 hT hO _ a rfl hS.1 hb.1 ha (fun g w1 _ w3 => ?_)
  have F : cAF 39 h g := fun x y hn => w1 x y (fun e => hn (by omega))
  have hS1 : cR1 39 S g := hS.fr (fun x y e => w1 x y (by omega))
  have e2' := (w1 117 2 (by omega)).trans e2
  by_cases c : mC S.P a = -1
  · have c' : yCost S.P (gCo S.P (S.P 8 a).toNat) (S.P 6 a).toNat (S.P 7 a).toNat = -1 := c
    rw [c']
    show vP D T N 96 12 g [some (2, 117), some (0, (a : Int))] [(0, -1)] Q
    exact vP_hv (fun hv => qk_gm12n_39 hT hO hv (k1 c g hS1 F))
  · have c0 := mC_n hb.1 ha c
    obtain ⟨n47, hg⟩ := mP_ok hb.1 ha c0
    obtain ⟨_, ⟨_, g6⟩, _⟩ := hb.1.2.2.2 a ha
    have hp := w3.2 ((yCost_f g6).mp c0)
    show vP D T N 96 12 g [some (2, 117), some (0, (a : Int))] [(0, mC S.P a)] Q
    refine vP_hv (fun hv => qk_gm12_39 hT hO (mC S.P a) hv e2' c ?_)
    refine cx_ld_39 hT hO _ a rfl hS1.1 hb.1 ha n47 hp hg (fun g2 hP2 f2 => ?_)
    show vP D T N 96 30 g2 [some (2, 117), some (0, (a : Int))] [(0, ((mS S.P a : Nat) : Int))] Q
    have e7 : g2 100 7 = (0, ((mN S.P a : Nat) : Int)) := (f2 100 7 (by omega)).trans hp.2.1
    have e10 : g2 117 10 = (0, (S.sk : Int)) := (f2 117 10 (by omega)).trans hS1.2.2.2.2.2
    have F2 : cAF 39 h g2 := F.trans (fun x y hn => f2 x y (fun e => hn (Or.inl e)))
    have es : sMarch a S = (sPk S (pGo S.P a (mP S.P a) (mS S.P a)) (S.sk + (if mS S.P a < mN S.P a then 1 else 0))) := if_neg c
    have m4 : g2 117 4 = (0, S.r) := (f2 117 4 (by omega)).trans hS1.2.1
    have m7 : g2 117 7 = (0, (S.dn : Int)) := (f2 117 7 (by omega)).trans hS1.2.2.1
    have m8 : g2 117 8 = (0, (S.ms : Int)) := (f2 117 8 (by omega)).trans hS1.2.2.2.1
    have m9 : g2 117 9 = (0, (S.bt : Int)) := (f2 117 9 (by omega)).trans hS1.2.2.2.2.1
    refine vP_hv (fun hv => qk_gm30 hT hO hv e7 e10 (by omega) (fun q => ?_) (fun q => ?_))
    · refine k2 c _ ?_ (cAF.z (by decide) F2)
      rw [es, if_pos (show mS S.P a < mN S.P a by omega)]
      exact ⟨hP2.eq (fun x y h1 h2 => zset_ne (fun q => by omega)), (zset_ne (by decide)).trans m4, (zset_ne (by decide)).trans m7, (zset_ne (by decide)).trans m8, (zset_ne (by decide)).trans m9, zset_same⟩
    · refine k2 c _ ?_ F2
      rw [es, if_neg (show ¬ mS S.P a < mN S.P a by omega)]
      exact ⟨hP2, m4, m7, m8, m9, e10⟩
theorem cx_do_39 {D : zD} {T : zT} (hT : hTab T) (hO : vOK T) {N : Nat} {h : zH} {Q : zR → Prop} {S : RuS} (k a b p : Nat) (hS : cR1 39 (sUp S) h) (hr : ruB S) (hd : S.dn < 300) (hk : (8 ≤ k ∧ k ≤ 14) ∨ k = 21) (ok : oIt S.P k a b) (e2 : h 117 2 = (2, 39)) (e3 : h 117 3 = (2, 49)) (e5 : h 117 5 = (0, (p : Int))) (hp : p < 60) (w1 : h 50 p = (0, (k : Int))) (w2 : h 51 p = (0, (a : Int))) (w3 : h 52 p = (0, (b : Int))) (k0 : ∀ g : zH, cR1 39 (sDo k a b (sUp S)) g → g 117 5 = (0, (p : Int) + 1) → (k ≠ 21 → g 117 6 = h 117 6) → (k = 21 → g 117 6 = (0, 1)) → g 117 11 = h 117 11 → (∀ i, g 118 i = h 118 i) → cDF 39 h g → Q (g, none)) : vP D T N 92 0 h [some (2, 117), none, none, none] [] Q := by
  obtain ⟨a1, a2, a3, a4, a5, a6, a7, a8⟩ := id hr
  obtain ⟨o1, o2, o3, o4, o5, o6, o7⟩ := ok
  have lb := a1.1
  have l3 : S.P 0 2 ≤ 3 := lb.2.2.1.2
  have u0 : rBb (sUp S) (13 * S.dn) := ⟨a1, a2, a3, Nat.le_succ_of_le a4, a5, Nat.le_succ_of_le a6, hd, a8⟩
  have um : (sUp S).ms ≤ 300 := by show S.ms ≤ 300; omega
  have F1 : cDF 39 h (zset h 117 5 (0, (p : Int) + 1)) := cDF.z (by omega) cDF.rfl
  have hS1 : cR1 39 (sUp S) (zset h 117 5 (0, (p : Int) + 1)) := hS.z (by decide) (Or.inl ⟨rfl, Or.inl rfl⟩)
  have e2' : zset h 117 5 (0, (p : Int) + 1) 117 2 = (2, 39) := (zset_ne (by decide)).trans e2
  have fin : ∀ (g : zH) (S' : RuS), sDo k a b (sUp S) = S' → k ≠ 21 → cR1 39 S' g → cAF 39 (zset h 117 5 (0, (p : Int) + 1)) g → Q (g, none) := fun g S' eS hk r f => k0 g (by rw [eS]; exact r) ((f 117 5 (by omega)).trans zset_same) (fun _ => (f 117 6 (by omega)).trans (zset_ne (by decide))) (fun c => absurd c hk) ((f 117 11 (by omega)).trans (zset_ne (by decide))) (fun i => (f 118 i (by omega)).trans (zset_ne (fun q => absurd q.1 (by decide)))) (F1.trans f.df)
  have hk' : k = 8 ∨ k = 9 ∨ k = 10 ∨ k = 11 ∨ k = 12 ∨ k = 13 ∨ k = 14 ∨ k = 21 := by omega
  rcases hk' with rfl | rfl | rfl | rfl | rfl | rfl | rfl | rfl
  · obtain ⟨oa, ob⟩ := o1 (Or.inl rfl)
    refine vP_hv (fun hv => qk_ds8_39 hT hO hv e2 e3 e5 w1 w2 w3 hp (fun _ _ => ?_))
    refine cx_eat_39 hT hO a b hS1 u0 (by omega) e2' (by omega) ob.1 (fun c => ?_) (fun c g r f => ?_)
    · show vP D T N 92 123 _ [some (2, 117), some (0, (p : Int)), some (0, (a : Int)), some (0, (b : Int))] [(0, 0), (2, 117)] Q
      exact vP_hv (fun hv => qk_ds123_0 hT hO hv hS1.2.2.2.1 um (fin _ (sMiss (sUp S)) (if_pos c) (by decide) (hS1.miss (by decide)) (cAF.z (by decide) cAF.rfl)))
    · show vP D T N 92 123 g [some (2, 117), some (0, (p : Int)), some (0, (a : Int)), some (0, (b : Int))] [(0, 1), (2, 117)] Q
      exact vP_hv (fun hv => qk_ds123_1 hT hO hv (r.2.2.2.1.trans (congrArg (fun m : Nat => ((0, (m : Int)) : zV)) sEat_ms)) um (fin g (sEat a b (sUp S)) (if_neg c) (by decide) r f))
  · have oa := o2 rfl
    refine vP_hv (fun hv => qk_ds9_39 hT hO hv e2 e3 e5 w1 w2 w3 hp (fun _ _ => ?_))
    refine cx_dc_39 hT hO S.r hS1.1 lb a2 e2' hS1.2.1 a3 (fun g g4 gf => ?_)
    show vP D T N 92 139 g [some (2, 117), some (0, (p : Int)), some (0, (a : Int)), some (0, (b : Int))] [(0, ((dQ S.P S.r : Nat) : Int)), (0, (a : Int)), (2, 39), (2, 117)] Q
    have rg : cR1 39 (sSr (sUp S) (dR (dR S.r))) g := ⟨hS1.1.eq (fun x y h1 h2 => gf x y (by omega)), g4, (gf 117 7 (by decide)).trans hS1.2.2.1, (gf 117 8 (by decide)).trans hS1.2.2.2.1, (gf 117 9 (by decide)).trans hS1.2.2.2.2.1, (gf 117 10 (by decide)).trans hS1.2.2.2.2.2⟩
    have fg : cAF 39 (zset h 117 5 (0, (p : Int) + 1)) g := fun x y hn => gf x y (fun e => hn (by omega))
    refine vP_hv (fun hv => qk_ds139_39 hT hO hv ?_)
    refine cb_mo_39 hT hO _ _ a (dQ S.P S.r) rfl rfl (by omega) (dQ_in lb a2 S.r).1 rg.1 a1 (fun c => ?_) (fun c g2 hP2 f2 => ?_)
    · show vP D T N 92 142 g [some (2, 117), some (0, (p : Int)), some (0, (a : Int)), some (0, (b : Int))] [(0, 0), (2, 117)] Q
      exact vP_hv (fun hv => qk_ds142_0 hT hO hv rg.2.2.2.1 um (fin _ (sMiss (sSr (sUp S) (dR (dR S.r)))) (if_neg c) (by decide) (rg.miss (by decide)) (cAF.z (by decide) fg)))
    · show vP D T N 92 142 g2 [some (2, 117), some (0, (p : Int)), some (0, (a : Int)), some (0, (b : Int))] [(0, 1), (2, 117)] Q
      exact vP_hv (fun hv => qk_ds142_1 hT hO hv ((f2 117 8 (by omega)).trans rg.2.2.2.1) um (fin g2 (sPr (sUp S) (pSt S.P a (dQ S.P S.r) 2) (dR (dR S.r))) (if_pos c) (by decide) ⟨hP2, (f2 117 4 (by omega)).trans rg.2.1, (f2 117 7 (by omega)).trans rg.2.2.1, (f2 117 8 (by omega)).trans rg.2.2.2.1, (f2 117 9 (by omega)).trans rg.2.2.2.2.1, (f2 117 10 (by omega)).trans rg.2.2.2.2.2⟩ (fg.trans (fun x y hn => f2 x y (fun e => hn (Or.inl e))))))
  · obtain ⟨oa, ob⟩ := o1 (Or.inr (Or.inl rfl))
    refine vP_hv (fun hv => qk_ds10_39 hT hO hv e2 e3 e5 w1 w2 w3 hp (fun _ _ => ?_))
    refine cb_ho_39 hT hO _ _ a b rfl rfl (by omega) ob.1 hS1.1 a1 (fun c => ?_) (fun c g2 hP2 f2 => ?_)
    · show vP D T N 92 158 _ [some (2, 117), some (0, (p : Int)), some (0, (a : Int)), some (0, (b : Int))] [(0, 0), (2, 117)] Q
      exact vP_hv (fun hv => qk_ds158_0 hT hO hv hS1.2.2.2.1 um (fin _ (sMiss (sUp S)) (if_neg (show ¬ (S.P 3 (48 * a + b) = 0 ∨ S.P 3 (48 * a + b) = 2) from fun d => d.elim c.1 c.2)) (by decide) (hS1.miss (by decide)) (cAF.z (by decide) cAF.rfl)))
    · show vP D T N 92 158 g2 [some (2, 117), some (0, (p : Int)), some (0, (a : Int)), some (0, (b : Int))] [(0, 1), (2, 117)] Q
      exact vP_hv (fun hv => qk_ds158_1 hT hO hv ((f2 117 8 (by omega)).trans hS1.2.2.2.1) um (fin g2 (sSP (sUp S) (pSt S.P a b 3)) (if_pos c) (by decide) ⟨hP2, (f2 117 4 (by omega)).trans hS1.2.1, (f2 117 7 (by omega)).trans hS1.2.2.1, (f2 117 8 (by omega)).trans hS1.2.2.2.1, (f2 117 9 (by omega)).trans hS1.2.2.2.2.1, (f2 117 10 (by omega)).trans hS1.2.2.2.2.2⟩ (fun x y hn => f2 x y (fun e => hn (Or.inl e)))))
  · obtain ⟨oa, ob⟩ := o3 rfl
    refine vP_hv (fun hv => qk_ds11_39 hT hO hv e2 e3 e5 w1 w2 w3 hp (fun _ _ => ?_))
    refine cb_so_39 hT hO _ _ a b rfl rfl (by omega) (by omega) hS1.1 (fun g hP f => ?_)
    show vP D T N 92 173 g [some (2, 117), some (0, (p : Int)), some (0, (a : Int)), some (0, (b : Int))] [] Q
    have rg : cR1 39 (sSP (sUp S) (pSteam S.P a b)) g := ⟨hP, (f 117 4 (by omega)).trans hS1.2.1, (f 117 7 (by omega)).trans hS1.2.2.1, (f 117 8 (by omega)).trans hS1.2.2.2.1, (f 117 9 (by omega)).trans hS1.2.2.2.2.1, (f 117 10 (by omega)).trans hS1.2.2.2.2.2⟩
    have fg : cAF 39 (zset h 117 5 (0, (p : Int) + 1)) g := fun x y hn => f x y (fun e => hn (Or.inl e))
    refine vP_hv (fun hv => qk_ds173 hT hO hv rg.2.2.2.1 um (fun c => ?_) (fun c => ?_))
    · have c : a = b := by omega
      subst c
      rw [pSteam_self] at rg
      exact fin _ (sMiss (sUp S)) (if_pos rfl) (by decide) (rg.miss (by decide)) (cAF.z (by decide) fg)
    · exact fin g (sSP (sUp S) (pSteam S.P a b)) (if_neg (show ¬ a = b by omega)) (by decide) rg fg
  · obtain ⟨oa, ob⟩ := o4 rfl
    refine vP_hv (fun hv => qk_ds12_39 hT hO hv e2 e3 e5 w1 w2 w3 hp (fun _ _ => ?_))
    refine vP_hv (fun hv => qk_mw0 hT hO hv ?_)
    refine cx_dc_39 hT hO S.r hS1.1 lb a2 e2' hS1.2.1 a3 (fun g g4 gf => ?_)
    show vP D T N 98 4 g [some (2, 117), some (0, (a : Int)), some (0, (b : Int)), none, none, none] [(0, ((dQ S.P S.r : Nat) : Int))] _
    have rg : cR1 39 (sSr (sUp S) (dR (dR S.r))) g := ⟨hS1.1.eq (fun x y h1 h2 => gf x y (by omega)), g4, (gf 117 7 (by decide)).trans hS1.2.2.1, (gf 117 8 (by decide)).trans hS1.2.2.2.1, (gf 117 9 (by decide)).trans hS1.2.2.2.2.1, (gf 117 10 (by decide)).trans hS1.2.2.2.2.2⟩
    have fg : cAF 39 (zset h 117 5 (0, (p : Int) + 1)) g := fun x y hn => gf x y (fun e => hn (by omega))
    have gq := dQ_in lb a2 S.r
    have e2g := (gf 117 2 (by decide)).trans e2'
    obtain ⟨s1, s2, _⟩ := sEat_b (j := a) (q := dQ S.P S.r) (u0.draw (dR S.r))
    refine vP_hv (fun hv => qk_mw4 hT hO hv ?_)
    refine cx_eatz_39 hT hO a (dQ S.P S.r) rg (u0.draw (dR S.r)) (by omega) e2g (by omega) gq.1 (fun g2 z r2 f2 => ?_)
    show vP D T N 98 11 g2 [some (2, 117), some (0, (a : Int)), some (0, (b : Int)), some (0, ((dQ S.P S.r : Nat) : Int)), none, none] [(0, z)] _
    refine vP_hv (fun hv => qk_mw11 hT hO z hv ?_)
    refine cx_mwL_39 hT hO (by omega) ob b 0 (dQ S.P S.r) _ _ g2 none (Nat.zero_add b) r2 s1 (by omega) ((f2 117 2 (by omega)).trans e2g) (s2.gin.mpr gq) (fun g3 r3 f3 => ?_)
    show vP D T N 92 196 g3 [some (2, 117), some (0, (p : Int)), some (0, (a : Int)), some (0, (b : Int))] [] Q
    exact vP_hv (fun hv => qk_ds196 hT hO hv (fin g3 _ rfl (by decide) r3 ((fg.trans f2).trans f3)))
  · have hm : (a : Int) < S.P 0 3 := o5 (Or.inl rfl)
    refine vP_hv (fun hv => qk_ds13_39 hT hO hv e2 e3 e5 w1 w2 w3 hp (fun _ _ => ?_))
    refine cx_gm_39 hT hO a hS1 u0 e2' hm (fun c g r f => ?_) (fun c g r f => ?_)
    · show vP D T N 92 205 g [some (2, 117), some (0, (p : Int)), some (0, (a : Int)), some (0, (b : Int))] [(0, 0), (2, 117)] Q
      exact vP_hv (fun hv => qk_ds205_0 hT hO hv r.2.2.2.1 um (fin _ (sMiss (sUp S)) (if_pos c) (by decide) (r.miss (by decide)) (cAF.z (by decide) f)))
    · show vP D T N 92 205 g [some (2, 117), some (0, (p : Int)), some (0, (a : Int)), some (0, (b : Int))] [(0, 1), (2, 117)] Q
      exact vP_hv (fun hv => qk_ds205_1 hT hO hv (r.2.2.2.1.trans (congrArg (fun m : Nat => ((0, (m : Int)) : zV)) (sMarch_ms c))) um (fin g (sMarch a (sUp S)) rfl (by decide) r f))
  · refine vP_hv (fun hv => qk_ds14_39 hT hO hv e2 e3 e5 w1 w2 w3 hp (fun _ _ => ?_))
    refine cb_hm_39 hT hO hS1.1 a1 (fun g hP f => ?_)
    show vP D T N 92 218 g [some (2, 117), some (0, (p : Int)), some (0, (a : Int)), some (0, (b : Int))] [] Q
    exact vP_hv (fun hv => qk_ds218 hT hO hv (fin g (sSP (sUp S) (pHome S.P)) rfl (by decide) ⟨hP, (f 117 4 (by omega)).trans hS1.2.1, (f 117 7 (by omega)).trans hS1.2.2.1, (f 117 8 (by omega)).trans hS1.2.2.2.1, (f 117 9 (by omega)).trans hS1.2.2.2.2.1, (f 117 10 (by omega)).trans hS1.2.2.2.2.2⟩ (fun x y hn => f x y (fun e => hn (Or.inl e)))))
  · refine vP_hv (fun hv => qk_ds21_39 hT hO hv e2 e3 e5 w1 w2 w3 hp (fun _ _ => ?_))
    refine k0 _ (hS1.z (by decide) (Or.inl ⟨rfl, Or.inr (Or.inl rfl)⟩)) ((zset_ne (by decide)).trans zset_same) (fun c => absurd rfl c) (fun _ => zset_same) ((zset_ne (by decide)).trans (zset_ne (by decide))) (fun i => (zset_ne (fun q => absurd q.1 (by decide))).trans (zset_ne (fun q => absurd q.1 (by decide)))) (cDF.z (by omega) F1)
/-- a test -/
theorem cx_so_39 {D : zD} {T : zT} (hT : hTab T) (hO : vOK T) {N : Nat} {h : zH} {Q : zR → Prop} {P : PT} (k a b p : Nat) (hP : cP 39 P h) (hb : fB P) (hk : 16 ≤ k ∧ k ≤ 18) (ok : oIt P k a b) (e2 : h 117 2 = (2, 39)) (e3 : h 117 3 = (2, 49)) (hp : p < 60) (w1 : h 50 p = (0, (k : Int))) (w2 : h 51 p = (0, (a : Int))) (w3 : h 52 p = (0, (b : Int))) (k1 : sSo k a b P → Q (h, some (0, 1))) (k2 : ¬ sSo k a b P → Q (h, some (0, 0))) : vP D T N 97 0 h [some (2, 117), some (0, (p : Int)), none, none] [] Q := by
  have lb := hb.1
  have l3 : P 0 2 ≤ 3 := lb.2.2.1.2
  have l6 : P 0 3 ≤ 6 := lb.2.2.2.2
  obtain ⟨o1, o2, o3, o4, o5, o6, o7⟩ := ok
  have hk' : k = 16 ∨ k = 17 ∨ k = 18 := by omega
  rcases hk' with rfl | rfl | rfl
  · obtain ⟨oa, ob⟩ := o1 (Or.inr (Or.inr rfl))
    refine vP_hv (fun hv => qk_so16_39 hT hO hv e2 e3 hP hb w1 w2 w3 hp (by omega) ob.1 (fun _ _ c => k1 (Or.inl ⟨rfl, c⟩)) (fun _ _ c => k2 ?_))
    rintro (⟨_, d⟩ | ⟨d, _⟩ | ⟨d, _⟩)
    · exact c d
    · exact absurd d (by decide)
    · exact absurd d (by decide)
  · have hm := o5 (Or.inr rfl)
    obtain ⟨_, ⟨c6, g6⟩, ⟨c7, g7⟩, _⟩ := hb.2.2.2 a hm
    have h6 := g6.1
    have h7 := g7.1
    refine vP_hv (fun hv => qk_so17_39 hT hO hv e2 e3 hP hb w1 w2 w3 hp (by omega) (hP.a6 a hm) (hP.a7 a hm) (by omega) (by omega) hm (fun _ _ _ _ c => k1 (Or.inr (Or.inl ⟨rfl, c⟩))) (fun _ _ _ _ c => k2 ?_))
    rintro (⟨d, _⟩ | ⟨_, d⟩ | ⟨d, _⟩)
    · exact absurd d (by decide)
    · exact c d
    · exact absurd d (by decide)
  · obtain ⟨oa, ob⟩ := o7 rfl
    have no : ∀ {X : Prop}, ¬ X → (((a = 60 ∧ P 0 4 < (b : Int)) ∨ (a = 62 ∧ (b : Int) < P 0 4) ∨ (a = 61 ∧ P 0 4 = (b : Int))) → X) → ¬ sSo 18 a b P := fun nx hx d => by
      rcases d with ⟨d, _⟩ | ⟨d, _⟩ | ⟨_, d⟩
      · exact absurd d (by decide)
      · exact absurd d (by decide)
      · exact nx (hx d)
    rcases oa with rfl | rfl | rfl
    · exact vP_hv (fun hv => qk_so18_60_39 hT hO hv e2 e3 hP hb w1 w2 w3 hp (fun _ _ c => k1 (Or.inr (Or.inr ⟨rfl, Or.inl ⟨rfl, c⟩⟩))) (fun _ _ c => k2 (no (X := P 0 4 < (b : Int)) (by omega) (fun d => by omega))))
    · exact vP_hv (fun hv => qk_so18_61_39 hT hO hv e2 e3 hP hb w1 w2 w3 hp (fun _ _ c => k1 (Or.inr (Or.inr ⟨rfl, Or.inr (Or.inr ⟨rfl, c⟩)⟩))) (fun _ _ c => k2 (no (X := P 0 4 = (b : Int)) c (fun d => by omega))))
    · exact vP_hv (fun hv => qk_so18_62_39 hT hO hv e2 e3 hP hb w1 w2 w3 hp (fun _ _ c => k1 (Or.inr (Or.inr ⟨rfl, Or.inr (Or.inl ⟨rfl, c⟩)⟩))) (fun _ _ c => k2 (no (X := (b : Int) < P 0 4) (by omega) (fun d => by omega))))
def cHs_39 (S : RuS) (p : Nat) (h : zH) : Prop := cR1 39 S h ∧ h 117 2 = (2, 39) ∧ h 117 3 = (2, 49) ∧ h 117 5 = (0, (p : Int)) ∧ h 117 6 = (0, 0) ∧ h 117 11 = (0, 0)
theorem cHs_39_z {S : RuS} {p q : Nat} {h : zH} (s : cHs_39 S p h) : cHs_39 S q (zset h 117 5 (0, (q : Int))) := ⟨s.1.z (by decide) (by omega), (zset_ne (by decide)).trans s.2.1, (zset_ne (by decide)).trans s.2.2.1, zset_same, (zset_ne (by decide)).trans s.2.2.2.2.1, (zset_ne (by decide)).trans s.2.2.2.2.2⟩
theorem cHs_39_t {S : RuS} {p i : Nat} {v : zV} {h : zH} (s : cHs_39 S p h) : cHs_39 S p (zset h 118 i v) := ⟨s.1.z (by decide) (by omega), (zset_ne (by omega)).trans s.2.1, (zset_ne (by omega)).trans s.2.2.1, (zset_ne (by omega)).trans s.2.2.2.1, (zset_ne (by omega)).trans s.2.2.2.2.1, (zset_ne (by omega)).trans s.2.2.2.2.2⟩
section CE_39
variable {D : zD} {T : zT} {N : Nat} {h : zH} {Q : zR → Prop} {S : RuS} {p x z : Nat} {e : Int}
theorem cx_over_39 (hT : hTab T) (hO : vOK T) (e7 : h 117 7 = (0, (S.dn : Int))) (e6 : h 117 6 = (0, 1)) (k : Q (h, some (0, (S.dn : Int)))) : vP D T N 90 55 h [some (2, 117), some (2, 39), some (0, e), some (0, (x : Int))] [] Q := vP_dn (vP_hv (fun hv => qk_tx6_39 hT hO e hv e7 e6 (fun _ => k) (fun _ => k)))
theorem cx_left_39 (hT : hTab T) (hO : vOK T) {w : Nat} (hs : cHs_39 S p h) (hz : h 49 0 = (0, (z : Int))) (hpz : p < z) (z60 : z ≤ 60) (w1 : h 50 p = (0, (w : Int))) (hw : w ≠ 20) (hd : S.dn = 300) (hx : x < 30300) (k : ∀ g : zH, cR1 39 (sLeft S) g → g 117 11 = (0, 1) → cDF 39 h g → Q (g, some (0, (S.dn : Int)))) : vP D T N 90 55 h [some (2, 117), some (2, 39), some (0, e), some (0, (x : Int))] [] Q := by
  obtain ⟨r1, e2, e3, e5, e6, e11⟩ := hs
  refine vP_dn (vP_hv (fun hv => qk_t3_39 hT hO e hv e2 e3 e5 e6 hz (by omega) r1.2.2.1 (by omega) (by omega) w1 (by omega) (by omega) (fun _ _ => ?_)))
  have r2 : cR1 39 S (zset (zset h 117 11 (0, 1)) 117 6 (0, 1)) := (r1.z (by decide) (by omega)).z (by decide) (by omega)
  exact cx_over_39 hT hO (x := x + 1) r2.2.2.1 zset_same (k _ r2 ((zset_ne (by decide)).trans zset_same) (cDF.z (by omega) (cDF.z (by omega) cDF.rfl)))
theorem cx_end_39 (hT : hTab T) (hO : vOK T) {k m : Nat} (hk : 16 ≤ k ∧ k ≤ 18) (hs : cHs_39 S m h) (hz : h 49 0 = (0, (z : Int))) (hmz : m < z) (z60 : z ≤ 60) (hp : p < 60) (w1 : h 50 m = (0, 20)) (w2 : h 53 m = (0, (p : Int))) (w3 : h 50 p = (0, (k : Int))) (hx : x < 30300) (kk : ∀ g : zH, cHs_39 S (m + 1) g → cDF 39 h g → (∀ i, g 118 i = h 118 i) → vP D T N 90 55 g [some (2, 117), some (2, 39), some (0, e), some (0, ((x + 1 : Nat) : Int))] [] Q) : vP D T N 90 55 h [some (2, 117), some (2, 39), some (0, e), some (0, (x : Int))] [] Q := by
  have hs' := hs
  obtain ⟨r1, e2, e3, e5, e6, e11⟩ := hs
  refine vP_dn (vP_hv (fun hv => qk_t1_39 hT hO e hv e2 e3 e5 e6 hz (by omega) (by omega) (by omega) w1 (fun _ _ => ?_)))
  have fin : vP D T N 90 111 (zset h 117 5 (0, (m : Int) + 1)) [some (2, 117), some (2, 39), some (0, e), some (0, (x : Int))] [] Q := vP_hv (fun hv => qk_t111_39 hT hO e hv (by omega) (kk _ (cHs_39_z (q := m + 1) hs') (cDF.z (by omega) cDF.rfl) (fun i => zset_ne (fun q => absurd q.1 (by decide)))))
  have hk' : k = 16 ∨ k = 17 ∨ k = 18 := by omega
  rcases hk' with rfl | rfl | rfl
  · exact vP_hv (fun hv => qk_en16_39 hT hO hv e2 e3 e5 (by omega) hp w2 w3 (fun _ _ _ => fin) (fun _ _ _ _ => fin))
  · exact vP_hv (fun hv => qk_en17_39 hT hO hv e2 e3 e5 (by omega) hp w2 w3 (fun _ _ _ => fin) (fun _ _ _ _ => fin))
  · exact vP_hv (fun hv => qk_en18_39 hT hO hv e2 e3 e5 (by omega) hp w2 w3 (fun _ _ _ => fin) (fun _ _ _ _ => fin))
theorem cx_endl_39 (hT : hTab T) (hO : vOK T) {m t : Nat} (hs : cHs_39 S m h) (hz : h 49 0 = (0, (z : Int))) (hmz : m < z) (z60 : z ≤ 60) (hp : p < 60) (w1 : h 50 m = (0, 20)) (w2 : h 53 m = (0, (p : Int))) (w3 : h 50 p = (0, 19)) (w5 : h 118 p = (0, ((t + 1 : Nat) : Int))) (ht : t < 99) (hx : x < 30300) (kk : ∀ g : zH, cHs_39 S (if t = 0 then m + 1 else p + 1) g → cDF 39 h g → g 118 p = (0, (t : Int)) → (∀ i, i ≠ p → g 118 i = h 118 i) → vP D T N 90 55 g [some (2, 117), some (2, 39), some (0, e), some (0, ((x + 1 : Nat) : Int))] [] Q) : vP D T N 90 55 h [some (2, 117), some (2, 39), some (0, e), some (0, (x : Int))] [] Q := by
  have hs' := hs
  obtain ⟨r1, e2, e3, e5, e6, e11⟩ := hs
  refine vP_dn (vP_hv (fun hv => qk_t1_39 hT hO e hv e2 e3 e5 e6 hz (by omega) (by omega) (by omega) w1 (fun _ _ => ?_)))
  have et : ((t + 1 : Nat) : Int) - 1 = (t : Int) := by omega
  have ep : ((p : Int)).toNat = p := by omega
  refine vP_hv (fun hv => qk_en19_39 hT hO hv e2 e3 e5 (by omega) hp w2 w3 w5 ht (fun _ _ c => absurd c (by omega)) (fun _ _ _ _ c => ?_) (fun _ _ _ _ c => ?_))
  · rw [et, ep]
    have t0 : ¬ t = 0 := by omega
    rw [if_neg t0] at kk
    have s2 : cHs_39 S (p + 1) (zset (zset (zset h 117 5 (0, (m : Int) + 1)) 118 p (0, (t : Int))) 117 5 (0, (p : Int) + 1)) := cHs_39_z (q := p + 1) (cHs_39_t (cHs_39_z (q := m + 1) hs'))
    show vP D T N 90 111 (zset (zset (zset h 117 5 (0, (m : Int) + 1)) 118 p (0, (t : Int))) 117 5 (0, (p : Int) + 1)) [some (2, 117), some (2, 39), some (0, e), some (0, (x : Int))] [] Q
    exact vP_hv (fun hv => qk_t111_39 hT hO e hv (by omega) (kk _ s2 (cDF.z (by omega) (cDF.z (by omega) (cDF.z (by omega) cDF.rfl))) ((zset_ne (by omega)).trans zset_same) (fun i hi => (zset_ne (by omega)).trans ((zset_ne (by omega)).trans (zset_ne (by omega))))))
  · rw [et, ep]
    have t0 : t = 0 := by omega
    rw [if_pos t0] at kk
    have s2 : cHs_39 S (m + 1) (zset (zset h 117 5 (0, (m : Int) + 1)) 118 p (0, (t : Int))) := cHs_39_t (cHs_39_z (q := m + 1) hs')
    show vP D T N 90 111 (zset (zset h 117 5 (0, (m : Int) + 1)) 118 p (0, (t : Int))) [some (2, 117), some (2, 39), some (0, e), some (0, (x : Int))] [] Q
    exact vP_hv (fun hv => qk_t111_39 hT hO e hv (by omega) (kk _ s2 (cDF.z (by omega) (cDF.z (by omega) cDF.rfl)) zset_same (fun i hi => (zset_ne (by omega)).trans (zset_ne (by omega)))))
/-- a step that begins a block: the turn through, to the head again -/
theorem cx_open_39 (hT : hTab T) (hO : vOK T) {P0 : PT} {k a b m w : Nat} (hk : 16 ≤ k ∧ k ≤ 19) (hr : ruB S) (sh : pSh P0 S.P) (it : oIt P0 k a b) (ov : S.ov = 0) (hs : cHs_39 S p h) (hz : h 49 0 = (0, (z : Int))) (hpz : p < z) (z60 : z ≤ 60) (hm : m < 60) (w1 : h 50 p = (0, (k : Int))) (w2 : h 51 p = (0, (a : Int))) (w3 : h 52 p = (0, (b : Int))) (w4 : h 53 p = (0, (m : Int))) (hd : S.dn < 300) (hx : x < 30300) (kk : ∀ (q : Nat) (g : zH), (k = 19 ∨ sSo k a b S.P → q = p + 1) → (¬ (k = 19 ∨ sSo k a b S.P) → q = m + 1) → cHs_39 (sUp S) q g → cDF 39 h g → (k = 19 → g 118 p = (0, (a : Int))) → (∀ i, i ≠ p → g 118 i = h 118 i) → vP D T N 90 55 g [some (2, 117), some (2, 39), some (0, e), some (0, ((x + 1 : Nat) : Int))] [] Q) : vP D T N 90 55 h [some (2, 117), some (2, 39), some (0, e), some (0, (x : Int))] [] Q := by
  have hs' := hs
  obtain ⟨r1, e2, e3, e5, e6, e11⟩ := hs
  refine vP_dn (vP_hv (fun hv => qk_t2_39 hT hO e hv e2 e3 e5 e6 hz (by omega) r1.2.2.1 (by omega) (by omega) w1 (by omega) (by omega) (fun _ _ => ?_)))
  have sU : cHs_39 (sUp S) p (zset h 117 7 (0, (S.dn : Int) + 1)) := ⟨r1.up (by decide), (zset_ne (by decide)).trans e2, (zset_ne (by decide)).trans e3, (zset_ne (by decide)).trans e5, (zset_ne (by decide)).trans e6, (zset_ne (by decide)).trans e11⟩
  obtain ⟨rU, u2, u3, u5, u6, u11⟩ := id sU
  have FU : cDF 39 h (zset h 117 7 (0, (S.dn : Int) + 1)) := cDF.z (by omega) cDF.rfl
  have v1 : zset h 117 7 (0, (S.dn : Int) + 1) 50 p = (0, (k : Int)) := (zset_ne (fun q => absurd q.1 (by decide))).trans w1
  have v2 : zset h 117 7 (0, (S.dn : Int) + 1) 51 p = (0, (a : Int)) := (zset_ne (fun q => absurd q.1 (by decide))).trans w2
  have v3 : zset h 117 7 (0, (S.dn : Int) + 1) 52 p = (0, (b : Int)) := (zset_ne (fun q => absurd q.1 (by decide))).trans w3
  have ep : ((p : Int)).toNat = p := by omega
  have fin : ∀ (q : Nat) (g : zH), (k = 19 ∨ sSo k a b S.P → q = p + 1) → (¬ (k = 19 ∨ sSo k a b S.P) → q = m + 1) → cHs_39 (sUp S) q g → cDF 39 h g → (k = 19 → g 118 p = (0, (a : Int))) → (∀ i, i ≠ p → g 118 i = h 118 i) → vP D T N 90 151 g [some (2, 117), some (2, 39), some (0, e), some (0, (x : Int))] [] Q := fun q g z1 z2 g1 g2 g3 g4 => vP_hv (fun hv => qk_t151_39 hT hO e hv (by omega) (kk q g z1 z2 g1 g2 g3 g4))
  by_cases k9 : k = 19
  · subst k9
    refine vP_hv (fun hv => qk_ds19_39 hT hO hv u2 u3 u5 v1 v2 v3 (by omega) (fun _ _ => ?_))
    rw [ep]
    exact fin (p + 1) (zset (zset (zset h 117 7 (0, (S.dn : Int) + 1)) 117 5 (0, (p : Int) + 1)) 118 p (0, (a : Int))) (fun _ => rfl) (fun c => absurd (Or.inl rfl) c) (cHs_39_t (cHs_39_z (q := p + 1) sU)) (cDF.z (by omega) (cDF.z (by omega) FU)) (fun _ => zset_same) (fun i hi => (zset_ne (by omega)).trans ((zset_ne (by omega)).trans (zset_ne (by omega))))
  · have s5 : cHs_39 (sUp S) (p + 1) (zset (zset h 117 7 (0, (S.dn : Int) + 1)) 117 5 (0, (p : Int) + 1)) := cHs_39_z (q := p + 1) sU
    have F5 : cDF 39 h (zset (zset h 117 7 (0, (S.dn : Int) + 1)) 117 5 (0, (p : Int) + 1)) := cDF.z (by omega) FU
    have so : vP D T N 97 0 (zset (zset h 117 7 (0, (S.dn : Int) + 1)) 117 5 (0, (p : Int) + 1)) [some (2, 117), some (0, (p : Int)), none, none] [] (fun r1 => vP D T N 92 244 r1.1 [some (2, 117), some (0, (p : Int)), some (0, (a : Int)), some (0, (b : Int))] (zpush r1.2 []) (fun r1 => vP D T N 90 151 r1.1 [some (2, 117), some (2, 39), some (0, e), some (0, (x : Int))] (zpush r1.2 []) Q)) := by
      refine cx_so_39 hT hO k a b p s5.1.1 hr.1 (by omega) (sh.it it) s5.2.1 s5.2.2.1 (by omega) ((zset_ne (fun q => absurd q.1 (by decide))).trans v1) ((zset_ne (fun q => absurd q.1 (by decide))).trans v2) ((zset_ne (fun q => absurd q.1 (by decide))).trans v3) (fun c => ?_) (fun c => ?_)
      · show vP D T N 92 244 (zset (zset h 117 7 (0, (S.dn : Int) + 1)) 117 5 (0, (p : Int) + 1)) [some (2, 117), some (0, (p : Int)), some (0, (a : Int)), some (0, (b : Int))] [(0, 1)] _
        refine vP_hv (fun hv => qk_ds244y hT hO hv ?_)
        exact fin (p + 1) (zset (zset h 117 7 (0, (S.dn : Int) + 1)) 117 5 (0, (p : Int) + 1)) (fun _ => rfl) (fun d => absurd (Or.inr c) d) s5 F5 (fun q => absurd q k9) (fun i hi => (zset_ne (by omega)).trans (zset_ne (by omega)))
      · show vP D T N 92 244 (zset (zset h 117 7 (0, (S.dn : Int) + 1)) 117 5 (0, (p : Int) + 1)) [some (2, 117), some (0, (p : Int)), some (0, (a : Int)), some (0, (b : Int))] [(0, 0)] _
        refine vP_hv (fun hv => qk_ds244n_39 (m := m) hT hO hv s5.2.1 s5.2.2.1 ((zset_ne (fun q => absurd q.1 (by decide))).trans ((zset_ne (fun q => absurd q.1 (by decide))).trans w4)) (by omega) hm (fun _ _ => ?_))
        exact fin (m + 1) (zset (zset (zset h 117 7 (0, (S.dn : Int) + 1)) 117 5 (0, (p : Int) + 1)) 117 5 (0, (m : Int) + 1)) (fun d => absurd d (fun d => d.elim k9 c)) (fun _ => rfl) (cHs_39_z (q := m + 1) s5) (cDF.z (by omega) F5) (fun q => absurd q k9) (fun i hi => (zset_ne (by omega)).trans ((zset_ne (by omega)).trans (zset_ne (by omega))))
    have hk' : k = 16 ∨ k = 17 ∨ k = 18 := by omega
    rcases hk' with rfl | rfl | rfl
    · exact vP_hv (fun hv => qk_ds16_39 hT hO hv u2 u3 u5 v1 v2 v3 (by omega) (fun _ _ => so))
    · exact vP_hv (fun hv => qk_ds17_39 hT hO hv u2 u3 u5 v1 v2 v3 (by omega) (fun _ _ => so))
    · exact vP_hv (fun hv => qk_ds18_39 hT hO hv u2 u3 u5 v1 v2 v3 (by omega) (fun _ _ => so))
end CE_39
/-- all of a tree, from its first place to behind its last -/
theorem cx_ev_39 {D : zD} {T : zT} (hT : hTab T) (hO : vOK T) {N : Nat} {Q : zR → Prop} {P0 : PT} {z : Nat} {h0 : zH} {e : Int} (hz : h0 49 0 = (0, (z : Int))) (z60 : z ≤ 60) : ∀ (t : OT) (S : RuS) (p x : Nat) (h : zH), oOk P0 t → cLay 39 h0 t p → p + tN t ≤ z → ruB S → pSh P0 S.P → S.ov = 0 → cHs_39 S p h → cDF 39 h0 h → x ≤ 101 * S.dn → x < 30300 → (∀ (g : zH) (x' : Nat), (ev t S).ov = 0 → cHs_39 (ev t S) (p + tN t) g → cDF 39 h g → (∀ i, i < p ∨ p + tN t ≤ i → g 118 i = h 118 i) → ((t = oNil ∧ x' = x) ∨ x' + 1 + 101 * S.dn ≤ x + 101 * (ev t S).dn) → vP D T N 90 55 g [some (2, 117), some (2, 39), some (0, e), some (0, (x' : Int))] [] Q) → (∀ g : zH, (ev t S).ov ≠ 0 → cR1 39 (ev t S) g → g 117 11 = (0, if (ev t S).ov = 2 then 1 else 0) → cDF 39 h g → Q (g, some (0, ((ev t S).dn : Int)))) → vP D T N 90 55 h [some (2, 117), some (2, 39), some (0, e), some (0, (x : Int))] [] Q
  | .leaf _, S, p, x, h, _, _, _, _, _, ov, hs, _, _, _, kh, _ => kh h x ov hs cDF.rfl (fun _ _ => rfl) (Or.inl ⟨rfl, rfl⟩)
  | .branch d0 y r, S, p, x, h, ok, ly, hp, hr, sh, ov, hs, hf, hx1, hx2, kh, ko => by
    obtain ⟨k, a, b, hd⟩ : ∃ k a b, oD d0 k a b := ⟨_, _, _, rfl, rfl, rfl⟩
    have d7 := hr.2.2.2.2.2.2.1
    by_cases hB : oB d0
    · have hk := oB_k hB hd
      rw [cLay_b hB hd] at ly
      rw [oOk_b hB hd] at ok
      rw [tN_b hB] at hp kh
      obtain ⟨⟨w1, w2, w3⟩, ⟨w4, w5, w6⟩, ly1, ly2⟩ := ly
      obtain ⟨it, oky, okr⟩ := ok
      have hz' := (hf 49 0 (by omega)).trans hz
      by_cases d : S.dn = 300
      · rw [ev_3 ov d] at ko
        exact cx_left_39 hT hO hs hz' (by omega) z60 ((hf 50 p (by omega)).trans w1) (by omega) d hx2 (fun g a1 a2 a3 => ko g (by show 2 ≠ 0; decide) a1 (by rw [if_pos (show (sLeft S).ov = 2 from rfl)]; exact a2) a3)
      · rw [ev_b ov d hB hd] at kh ko
        have dl : S.dn < 300 := by omega
        have u := sUp_ok hr dl
        have ym : p + 1 + tN y < 60 := by omega
        refine cx_open_39 (m := p + 1 + tN y) (w := 0) hT hO hk hr sh it ov hs hz' (by omega) z60 ym ((hf 50 p (by omega)).trans w1) ((hf 51 p (by omega)).trans w2) ((hf 52 p (by omega)).trans w3) ((hf 53 p (by omega)).trans w4) dl hx2 (fun qq g z1 z2 gs gf g3 g4 => ?_)
        -- behind the block
        have R : ∀ (S1 : RuS) (g : zH) (x1 : Nat), S1.ov = 0 → ruB S1 → pSh S.P S1.P → S.dn + 1 ≤ S1.dn → (if k = 19 then evN (ev y) a (sUp S) else evT k a b S.P (ev y (sUp S)) (sUp S)) = S1 → cHs_39 S1 (p + 1 + tN y + 1) g → cDF 39 h g → (∀ i, i < p ∨ p + 1 + tN y + 1 ≤ i → g 118 i = h 118 i) → x1 + 1 + 101 * S.dn ≤ x + 101 * S1.dn → vP D T N 90 55 g [some (2, 117), some (2, 39), some (0, e), some (0, (x1 : Int))] [] Q := fun S1 g x1 o1 q1 q2 q3 q4 q5 q6 q7 q8 => by
          rw [q4] at kh ko
          have d1 := q1.2.2.2.2.2.2.1
          rw [show p + tN y + 2 = p + 1 + tN y + 1 from by omega] at ly2
          refine cx_ev_39 hT hO hz z60 r S1 (p + 1 + tN y + 1) x1 g okr ly2 (by omega) q1 (sh.trans q2) o1 q5 (hf.trans q6) (by omega) (by omega) (fun g2 x' c1 c2 c3 c4 c5 => ?_) (fun g2 c1 c2 c3 c4 => ko g2 c1 c2 c3 (q6.trans c4))
          refine kh g2 x' c1 ?_ (q6.trans c3) ?_ ?_
          · rw [show p + (tN y + tN r + 2) = p + 1 + tN y + 1 + tN r from by omega]
            exact c2
          · intro i hi
            exact (c4 i (by omega)).trans (q7 i (by omega))
          · refine Or.inr ?_
            rcases c5 with ⟨c5, c6⟩ | c5
            · rw [c5, c6]
              exact q8
            · omega
        have O : ∀ (S1 : RuS) (g : zH), S1.ov ≠ 0 → (if k = 19 then evN (ev y) a (sUp S) else evT k a b S.P (ev y (sUp S)) (sUp S)) = S1 → cR1 39 S1 g → g 117 11 = (0, if S1.ov = 2 then 1 else 0) → cDF 39 h g → Q (g, some (0, (S1.dn : Int))) := fun S1 g o1 q4 q5 q6 q7 => by
          rw [q4, ev_ov o1 r] at ko
          exact ko g o1 q5 q6 q7
        by_cases k9 : k = 19
        · subst k9
          rw [z1 (Or.inl rfl)] at gs
          obtain ⟨a1, a99⟩ := it.2.2.2.2.2.1 rfl
          -- j turns more of the block
          have L : ∀ (j : Nat) (S1 : RuS) (g : zH) (x1 : Nat), j + 1 ≤ 99 → S1.ov = 0 → ruB S1 → pSh S.P S1.P → evN (ev y) a (sUp S) = evN (ev y) (j + 1) S1 → cHs_39 S1 (p + 1) g → cDF 39 h g → g 118 p = (0, ((j + 1 : Nat) : Int)) → (∀ i, i < p ∨ p + 1 + tN y + 1 ≤ i → g 118 i = h 118 i) → S.dn + 1 ≤ S1.dn → ((y = oNil ∧ x1 + (j + 1) ≤ x + 100) ∨ (y ≠ oNil ∧ x1 + 101 * S.dn ≤ x + 1 + 101 * (S1.dn - 1))) → vP D T N 90 55 g [some (2, 117), some (2, 39), some (0, e), some (0, (x1 : Int))] [] Q := by
            intro j
            induction j with
            | zero =>
              intro S1 g x1 hj o1 q1 q2 q3 q4 q5 q6 q7 q8 q9
              have d1 := q1.2.2.2.2.2.2.1
              refine cx_ev_39 hT hO hz z60 y S1 (p + 1) x1 g oky ly1 (by omega) q1 (sh.trans q2) o1 q4 (hf.trans q5) (by omega) (by omega) (fun g2 x' c1 c2 c3 c4 c5 => ?_) (fun g2 c1 c2 c3 c4 => O _ g2 c1 (by rw [if_pos rfl, q3]; rfl) c2 c3 (q5.trans c4))
              obtain ⟨v1, v2, v3⟩ := ev_ok y S1 oky q1 (sh.trans q2)
              have dv := v1.2.2.2.2.2.2.1
              have f2 := q5.trans c3
              have bx : x' + 2 + 101 * S.dn ≤ x + 101 * (ev y S1).dn ∧ x' < 30300 := by
                rcases c5 with ⟨c5, c6⟩ | c5
                · rcases q9 with ⟨_, q9⟩ | ⟨q9, _⟩
                  · omega
                  · exact absurd c5 q9
                · rcases q9 with ⟨q9, q10⟩ | ⟨_, q9⟩
                  · have e0 : (ev y S1).dn = S1.dn := by rw [q9]; rfl
                    omega
                  · omega
              refine cx_endl_39 (m := p + 1 + tN y) (p := p) (t := 0) hT hO c2 (((hf.trans f2) 49 0 (by omega)).trans hz) (by omega) z60 (by omega) (((hf.trans f2) 50 _ (by omega)).trans w5) (((hf.trans f2) 53 _ (by omega)).trans w6) (((hf.trans f2) 50 _ (by omega)).trans w1) ((c4 p (by omega)).trans q6) (by omega) bx.2 (fun g5 s5 f5 _ t5 => ?_)
              rw [if_pos rfl] at s5
              refine R (ev y S1) g5 (x' + 1) c1 v1 (q2.trans v2) (by omega) (by rw [if_pos rfl, q3]; rfl) s5 (f2.trans f5) (fun i hi => (t5 i (by omega)).trans ((c4 i (by omega)).trans (q7 i hi))) (by omega)
            | succ j ihj =>
              intro S1 g x1 hj o1 q1 q2 q3 q4 q5 q6 q7 q8 q9
              have d1 := q1.2.2.2.2.2.2.1
              refine cx_ev_39 hT hO hz z60 y S1 (p + 1) x1 g oky ly1 (by omega) q1 (sh.trans q2) o1 q4 (hf.trans q5) (by omega) (by omega) (fun g2 x' c1 c2 c3 c4 c5 => ?_) (fun g2 c1 c2 c3 c4 => O _ g2 c1 (by rw [if_pos rfl, q3]; exact evN_ov c1 y (j + 1)) c2 c3 (q5.trans c4))
              obtain ⟨v1, v2, v3⟩ := ev_ok y S1 oky q1 (sh.trans q2)
              have dv := v1.2.2.2.2.2.2.1
              have f2 := q5.trans c3
              have bx : ((y = oNil ∧ x' + (j + 2) ≤ x + 100) ∨ (y ≠ oNil ∧ x' + 1 + 101 * S.dn ≤ x + 1 + 101 * ((ev y S1).dn - 1))) ∧ x' < 30300 := by
                rcases c5 with ⟨c5, c6⟩ | c5
                · rcases q9 with ⟨_, q9⟩ | ⟨q9, _⟩
                  · exact ⟨Or.inl ⟨c5, by omega⟩, by omega⟩
                  · exact absurd c5 q9
                · rcases q9 with ⟨q9, q10⟩ | ⟨q9, q10⟩
                  · have e0 : (ev y S1).dn = S1.dn := by rw [q9]; rfl
                    exact ⟨Or.inl ⟨q9, by omega⟩, by omega⟩
                  · exact ⟨Or.inr ⟨q9, by omega⟩, by omega⟩
              refine cx_endl_39 (m := p + 1 + tN y) (p := p) (t := j + 1) hT hO c2 (((hf.trans f2) 49 0 (by omega)).trans hz) (by omega) z60 (by omega) (((hf.trans f2) 50 _ (by omega)).trans w5) (((hf.trans f2) 53 _ (by omega)).trans w6) (((hf.trans f2) 50 _ (by omega)).trans w1) ((c4 p (by omega)).trans q6) (by omega) bx.2 (fun g5 s5 f5 u5 t5 => ?_)
              rw [if_neg (Nat.succ_ne_zero j)] at s5
              refine ihj (ev y S1) g5 (x' + 1) (by omega) c1 v1 (q2.trans v2) (by rw [q3]; rfl) s5 (f2.trans f5) u5 (fun i hi => (t5 i (by omega)).trans ((c4 i (by omega)).trans (q7 i hi))) (by omega) ?_
              rcases bx.1 with ⟨b1, b2⟩ | ⟨b1, b2⟩
              · exact Or.inl ⟨b1, by omega⟩
              · exact Or.inr ⟨b1, by omega⟩
          have ea : a = (a - 1) + 1 := by omega
          refine L (a - 1) (sUp S) g (x + 1) (by omega) ov u pSh.rfl (by rw [← ea]) gs gf (by rw [← ea]; exact g3 rfl) (fun i hi => g4 i (by omega)) (Nat.le_refl _) ?_
          by_cases yn : y = oNil
          · exact Or.inl ⟨yn, by omega⟩
          · refine Or.inr ⟨yn, ?_⟩
            show x + 1 + 101 * S.dn ≤ x + 1 + 101 * (S.dn + 1 - 1)
            omega
        · by_cases so : sSo k a b S.P
          · rw [z1 (Or.inr so)] at gs
            have E2 : (if k = 19 then evN (ev y) a (sUp S) else evT k a b S.P (ev y (sUp S)) (sUp S)) = ev y (sUp S) := by rw [if_neg k9, evT_y so]
            refine cx_ev_39 hT hO hz z60 y (sUp S) (p + 1) (x + 1) g oky ly1 (by omega) u sh ov gs (hf.trans gf) (by show x + 1 ≤ 101 * (S.dn + 1); omega) (by omega) (fun g2 x' c1 c2 c3 c4 c5 => ?_) (fun g2 c1 c2 c3 c4 => O _ g2 c1 E2 c2 c3 (gf.trans c4))
            obtain ⟨v1, v2, v3⟩ := ev_ok y (sUp S) oky u sh
            have dv := v1.2.2.2.2.2.2.1
            have f2 := gf.trans c3
            have su : (sUp S).dn = S.dn + 1 := rfl
            have bx : x' + 2 + 101 * S.dn ≤ x + 101 * (ev y (sUp S)).dn ∧ x' < 30300 := by
              rcases c5 with ⟨c5, c6⟩ | c5
              · subst c6
                omega
              · omega
            refine cx_end_39 (m := p + 1 + tN y) (p := p) (k := k) hT hO (by omega) c2 (((hf.trans f2) 49 0 (by omega)).trans hz) (by omega) z60 (by omega) (((hf.trans f2) 50 _ (by omega)).trans w5) (((hf.trans f2) 53 _ (by omega)).trans w6) (((hf.trans f2) 50 _ (by omega)).trans w1) bx.2 (fun g5 s5 f5 t5 => ?_)
            exact R (ev y (sUp S)) g5 (x' + 1) c1 v1 v2 (by omega) E2 s5 (f2.trans f5) (fun i hi => (t5 i).trans ((c4 i (by omega)).trans (g4 i (by omega)))) (by omega)
          · rw [z2 (fun c => c.elim k9 so)] at gs
            have E2 : (if k = 19 then evN (ev y) a (sUp S) else evT k a b S.P (ev y (sUp S)) (sUp S)) = sUp S := by rw [if_neg k9, evT_n so]
            exact R (sUp S) g (x + 1) ov u pSh.rfl (Nat.le_refl _) E2 gs gf (fun i hi => g4 i (by omega)) (by show x + 1 + 1 + 101 * S.dn ≤ x + 101 * (S.dn + 1); omega)
    · rw [cLay_a hB hd] at ly
      rw [oOk_a hB hd] at ok
      rw [tN_a hB] at hp kh
      obtain ⟨⟨w1, w2, w3⟩, ly2⟩ := ly
      obtain ⟨hk, it, okr⟩ := ok
      have hs' := hs
      obtain ⟨r1, e2, e3, e5, e6, e11⟩ := hs
      have W1 : h 50 p = (0, (k : Int)) := (hf 50 p (by omega)).trans w1
      have W2 : h 51 p = (0, (a : Int)) := (hf 51 p (by omega)).trans w2
      have W3 : h 52 p = (0, (b : Int)) := (hf 52 p (by omega)).trans w3
      have hz' := (hf 49 0 (by omega)).trans hz
      by_cases d : S.dn = 300
      · rw [ev_3 ov d] at ko
        exact cx_left_39 hT hO hs' hz' (by omega) z60 W1 (by omega) d hx2 (fun g a1 a2 a3 => ko g (by show 2 ≠ 0; decide) a1 (by rw [if_pos (show (sLeft S).ov = 2 from rfl)]; exact a2) a3)
      · rw [ev_a ov d hB hd] at kh ko
        have dl : S.dn < 300 := by omega
        obtain ⟨q1, q2, q3, q4⟩ := sDo_ok (a := a) (b := b) hr dl hk (sh.it it)
        refine vP_dn (vP_hv (fun hv => qk_t2_39 hT hO e hv e2 e3 e5 e6 hz' (by omega) r1.2.2.1 (by omega) (by omega) W1 (by omega) (by omega) (fun _ _ => ?_)))
        refine cx_do_39 hT hO k a b p (r1.up (by decide)) hr dl hk (sh.it it) ((zset_ne (by decide)).trans e2) ((zset_ne (by decide)).trans e3) ((zset_ne (by decide)).trans e5) (by omega) ((zset_ne (fun q => absurd q.1 (by decide))).trans W1) ((zset_ne (fun q => absurd q.1 (by decide))).trans W2) ((zset_ne (fun q => absurd q.1 (by decide))).trans W3) (fun g g1 g5 g6 g6' g11 g118 gf => ?_)
        show vP D T N 90 151 g [some (2, 117), some (2, 39), some (0, e), some (0, (x : Int))] [] Q
        have F : cDF 39 h g := (cDF.z (by omega) cDF.rfl).trans gf
        have G11 : g 117 11 = (0, 0) := g11.trans ((zset_ne (by decide)).trans e11)
        refine vP_hv (fun hv => qk_t151_39 hT hO e hv (by omega) ?_)
        show vP D T N 90 55 g [some (2, 117), some (2, 39), some (0, e), some (0, ((x + 1 : Nat) : Int))] [] Q
        by_cases k21 : k = 21
        · have o1 : (sDo k a b (sUp S)).ov = 1 := by subst k21; rfl
          rw [ev_ov (S := sDo k a b (sUp S)) (by omega) r] at ko
          exact cx_over_39 hT hO g1.2.2.1 (g6' k21) (ko g (by omega) g1 (by rw [if_neg (by omega)]; exact G11) F)
        · refine cx_ev_39 hT hO hz z60 r (sDo k a b (sUp S)) (p + 1) (x + 1) g okr ly2 (by omega) q1 (sh.trans q2) ((q4 k21).trans ov) ⟨g1, (gf 117 2 (by omega)).trans ((zset_ne (by decide)).trans e2), (gf 117 3 (by omega)).trans ((zset_ne (by decide)).trans e3), g5, (g6 k21).trans ((zset_ne (by decide)).trans e6), G11⟩ (hf.trans F) (by omega) (by omega) (fun g2 x' c1 c2 c3 c4 c5 => ?_) (fun g2 c1 c2 c3 c4 => ko g2 c1 c2 c3 (F.trans c4))
          refine kh g2 x' c1 ?_ (F.trans c3) ?_ ?_
          · rw [show p + (tN r + 1) = p + 1 + tN r from by omega]
            exact c2
          · intro i hi
            exact (c4 i (by omega)).trans ((g118 i).trans (zset_ne (fun q => absurd q.1 (by decide))))
          · refine Or.inr ?_
            rcases c5 with ⟨c5, c6⟩ | c5
            · subst c5 c6
              show x + 1 + 1 + 101 * S.dn ≤ x + 101 * (sDo k a b (sUp S)).dn
              omega
            · omega
