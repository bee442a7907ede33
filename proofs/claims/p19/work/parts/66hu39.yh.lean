theorem qr_wt0 {D : zD} {T : zT} (hT : hTab T) (hO : vOK T) {N : Nat} {h : zH} {Q : zR → Prop} {P : PT} {j q : Nat} (hv0 : zHv h) (hR : rBk 0 P h) (hb : fB P) (gq : gIn P q) (hq : gJ P q < 48) (hj : j < 3)
    (k0 : vP D T N 338 13 h [some (2, 121), some (0, (j : Int)), some (0, ((gJ P q : Nat) : Int)), some (0, 0), some (0, (P 3 (48 * j + q))), some (0, 0), none, none] [] Q) :
    vP D T N 338 0 h [some (2, 121), some (0, (j : Int)), some (0, ((gJ P q : Nat) : Int)), none, none, none, none, none] [] Q := by
  refine v_push (0) (hz_X12_worthOf hT _ _ rfl) rfl ?_
  refine v_store1 [some (2, 121), some (0, (j : Int)), some (0, ((gJ P q : Nat) : Int)), some (0, 0), none, none, none, none] (hz_X12_worthOf hT _ _ rfl) ⟨rfl, Nat.ne_of_beq_eq_false rfl⟩ (Nat.le_of_ble_eq_true rfl) rfl ?_
  refine v_load (v := (2, 121)) (hz_X12_worthOf hT _ _ rfl) rfl rfl ?_
  refine v_load (v := (0, (j : Int))) (hz_X12_worthOf hT _ _ rfl) rfl rfl ?_
  refine v_load (v := (0, ((gJ P q : Nat) : Int))) (hz_X12_worthOf hT _ _ rfl) rfl rfl ?_
  refine v_call (w := 3) [some (2, 121), some (0, (j : Int)), some (0, ((gJ P q : Nat) : Int))] hO (hz_X12_worthOf hT _ _ rfl) rfl rfl (rb_st hT hO ((j : Int)) j q rfl (by omega) gq hR hb ?_)
  show vP D T N 338 8 h [some (2, 121), some (0, (j : Int)), some (0, ((gJ P q : Nat) : Int)), some (0, 0), none, none, none, none] [(0, (P 3 (48 * j + q)))] _
  refine v_store1 [some (2, 121), some (0, (j : Int)), some (0, ((gJ P q : Nat) : Int)), some (0, 0), some (0, (P 3 (48 * j + q))), none, none, none] (hz_X12_worthOf hT _ _ rfl) ⟨rfl, Nat.ne_of_beq_eq_false rfl⟩ (Nat.le_of_ble_eq_true rfl) rfl ?_
  refine v_push (0) (hz_X12_worthOf hT _ _ rfl) rfl ?_
  refine v_store1 [some (2, 121), some (0, (j : Int)), some (0, ((gJ P q : Nat) : Int)), some (0, 0), some (0, (P 3 (48 * j + q))), some (0, 0), none, none] (hz_X12_worthOf hT _ _ rfl) ⟨rfl, Nat.ne_of_beq_eq_false rfl⟩ (Nat.le_of_ble_eq_true rfl) rfl ?_
  exact k0 
theorem qr_wt13 {D : zD} {T : zT} (hT : hTab T) (hO : vOK T) {N : Nat} {h : zH} {Q : zR → Prop} {P : PT} {j q m : Nat} (n w : Int) (o6 o7 : Option zV) (hv0 : zHv h) (p3 : h 126 3 = (0, P 0 3)) (eb : h 126 (263 + (m : Int)).toNat = (0, P 8 m)) (hm : (m : Int) < P 0 3) (m6 : m < 6)
    (k0 : (0 ≤ (263 + (m : Int))) → ((263 + (m : Int)) < 2750) → ((P 8 m) = (j : Int)) → vP D T N 210 0 h [some (2, 121), some (0, (m : Int))] [] (fun r1 => vP D T N 338 48 r1.1 [some (2, 121), some (0, (j : Int)), some (0, ((gJ P q : Nat) : Int)), some (0, n), some (0, w), some (0, (m : Int)), o6, o7] (zpush r1.2 []) Q))
    (k1 : (0 ≤ (263 + (m : Int))) → ((263 + (m : Int)) < 2750) → ((P 8 m) ≠ (j : Int)) → vP D T N 338 13 h [some (2, 121), some (0, (j : Int)), some (0, ((gJ P q : Nat) : Int)), some (0, n), some (0, w), some (0, ((m : Int) + 1)), o6, o7] [] Q) :
    vP D T (N + 1) 338 13 h [some (2, 121), some (0, (j : Int)), some (0, ((gJ P q : Nat) : Int)), some (0, n), some (0, w), some (0, (m : Int)), o6, o7] [] Q := by
  refine v_loadS (v := (0, (m : Int))) (hz_X12_worthOf hT _ _ rfl) rfl rfl ?_
  refine v_load (v := (2, 121)) (hz_X12_worthOf hT _ _ rfl) rfl rfl ?_
  refine v_getR (c := 126) (r := 121) (hz_X12_worthOf hT _ _ rfl) rfl rfl rfl ?_
  refine v_push (3) (hz_X12_worthOf hT _ _ rfl) rfl ?_
  refine v_aldV (v := (0, (P 0 3))) (r := 126) (hz_X12_worthOf hT _ _ rfl) rfl rfl (fun _ _ _ => p3) (fun ha1 hb2 => ?_)
  refine v_ic (hz_X12_worthOf hT _ _ rfl) (fun _ => ?_) (fun hc3 => absurd (show (m : Int) < (P 0 3) from hm) hc3)
  refine v_load (v := (2, 121)) (hz_X12_worthOf hT _ _ rfl) rfl rfl ?_
  refine v_getR (c := 126) (r := 121) (hz_X12_worthOf hT _ _ rfl) rfl rfl rfl ?_
  refine v_push (263) (hz_X12_worthOf hT _ _ rfl) rfl ?_
  refine v_load (v := (0, (m : Int))) (hz_X12_worthOf hT _ _ rfl) rfl rfl ?_
  refine v_bin (w := (263 + (m : Int))) (hz_X12_worthOf hT _ _ rfl) (hq_add (by omega) (by omega)) ?_
  refine v_aldB (t := 0) (r := 126) (w := (P 8 m)) (hz_X12_worthOf hT _ _ rfl) rfl rfl rfl (fun _ _ => (congrArg Prod.snd eb)) (fun ha4 hb5 => ?_)
  refine v_load (v := (0, (j : Int))) (hz_X12_worthOf hT _ _ rfl) rfl rfl ?_
  refine v_ic (hz_X12_worthOf hT _ _ rfl) (fun hc6 => ?_) (fun hc6 => ?_)
  · have hc6 : (P 8 m) = (j : Int) := hc6
    refine v_load (v := (2, 121)) (hz_X12_worthOf hT _ _ rfl) rfl rfl ?_
    refine v_load (v := (0, (m : Int))) (hz_X12_worthOf hT _ _ rfl) rfl rfl ?_
    refine v_call (w := 2) [some (2, 121), some (0, (m : Int))] hO (hz_X12_worthOf hT _ _ rfl) rfl rfl ?_
    exact k0 ha4 hb5 hc6
  · have hc6 : (P 8 m) ≠ (j : Int) := hc6
    refine v_goto (hz_X12_worthOf hT _ _ rfl) ?_
    refine v_iinc (x := (m : Int)) (u := 1) (w := ((m : Int) + 1)) [some (2, 121), some (0, (j : Int)), some (0, ((gJ P q : Nat) : Int)), some (0, n), some (0, w), some (0, ((m : Int) + 1)), o6, o7] (hz_X12_worthOf hT _ _ rfl) rfl rfl (Nat.le_of_ble_eq_true rfl) (vz_inc (by omega) (by omega)) rfl ?_
    refine v_goto (hz_X12_worthOf hT _ _ rfl) ?_
    exact k1 ha4 hb5 hc6
theorem qr_wt9 {D : zD} {T : zT} (hT : hTab T) (hO : vOK T) {N : Nat} {h : zH} {Q : zR → Prop} {P : PT} {j q m : Nat} (n w : Int) (o6 o7 : Option zV) (hv0 : zHv h) (p3 : h 126 3 = (0, P 0 3)) (hm : P 0 3 ≤ (m : Int))
    (k0 : Q (h, some (0, n))) :
    vP D T (N + 1) 338 13 h [some (2, 121), some (0, (j : Int)), some (0, ((gJ P q : Nat) : Int)), some (0, n), some (0, w), some (0, (m : Int)), o6, o7] [] Q := by
  refine v_loadS (v := (0, (m : Int))) (hz_X12_worthOf hT _ _ rfl) rfl rfl ?_
  refine v_load (v := (2, 121)) (hz_X12_worthOf hT _ _ rfl) rfl rfl ?_
  refine v_getR (c := 126) (r := 121) (hz_X12_worthOf hT _ _ rfl) rfl rfl rfl ?_
  refine v_push (3) (hz_X12_worthOf hT _ _ rfl) rfl ?_
  refine v_aldV (v := (0, (P 0 3))) (r := 126) (hz_X12_worthOf hT _ _ rfl) rfl rfl (fun _ _ _ => p3) (fun ha1 hb2 => ?_)
  refine v_ic (hz_X12_worthOf hT _ _ rfl) (fun hc3 => absurd (show (m : Int) < (P 0 3) from hc3) (by omega)) (fun _ => ?_)
  refine v_load (v := (0, n)) (hz_X12_worthOf hT _ _ rfl) rfl rfl ?_
  refine v_ret (hz_X12_worthOf hT _ _ rfl) (Or.inl rfl) ?_
  exact k0 
theorem qr_wt48f {D : zD} {T : zT} (hT : hTab T) (hO : vOK T) {N : Nat} {h : zH} {Q : zR → Prop} {P : PT} {j q m : Nat} (n w : Int) (o6 o7 : Option zV) (hv0 : zHv h) (m6 : m < 6)
    (k0 : vP D T N 338 13 h [some (2, 121), some (0, (j : Int)), some (0, ((gJ P q : Nat) : Int)), some (0, n), some (0, w), some (0, ((m : Int) + 1)), some (0, 1000000), o7] [] Q) :
    vP D T N 338 48 h [some (2, 121), some (0, (j : Int)), some (0, ((gJ P q : Nat) : Int)), some (0, n), some (0, w), some (0, (m : Int)), o6, o7] [(0, 1000000)] Q := by
  refine v_store1 [some (2, 121), some (0, (j : Int)), some (0, ((gJ P q : Nat) : Int)), some (0, n), some (0, w), some (0, (m : Int)), some (0, 1000000), o7] (hz_X12_worthOf hT _ _ rfl) ⟨rfl, Nat.ne_of_beq_eq_false rfl⟩ (Nat.le_of_ble_eq_true rfl) rfl ?_
  refine v_load (v := (0, 1000000)) (hz_X12_worthOf hT _ _ rfl) rfl rfl ?_
  refine v_push (1000000) (hz_X12_worthOf hT _ _ rfl) rfl ?_
  refine v_ic (hz_X12_worthOf hT _ _ rfl) (fun _ => ?_) (fun hc1 => absurd (show (1000000 : Int) = 1000000 from (by omega)) hc1)
  refine v_goto (hz_X12_worthOf hT _ _ rfl) ?_
  refine v_iinc (x := (m : Int)) (u := 1) (w := ((m : Int) + 1)) [some (2, 121), some (0, (j : Int)), some (0, ((gJ P q : Nat) : Int)), some (0, n), some (0, w), some (0, ((m : Int) + 1)), some (0, 1000000), o7] (hz_X12_worthOf hT _ _ rfl) rfl rfl (Nat.le_of_ble_eq_true rfl) (vz_inc (by omega) (by omega)) rfl ?_
  refine v_goto (hz_X12_worthOf hT _ _ rfl) ?_
  exact k0 
theorem qr_wt48 {D : zD} {T : zT} (hT : hTab T) (hO : vOK T) {N : Nat} {h : zH} {Q : zR → Prop} {P : PT} {j q m : Nat} (n w p : Int) (o6 o7 : Option zV) (hv0 : zHv h) (m6 : m < 6) (hp : p ≠ 1000000) (gq : gIn P q) (hq : gJ P q < 48) (hj : j < 3)
    (k0 : (0 ≤ ((101 + (48 * (j : Int))) + ((gJ P q : Nat) : Int))) → (((101 + (48 * (j : Int))) + ((gJ P q : Nat) : Int)) < 2750) → vP D T N 210 0 (zset h 126 ((((101 + (48 * (j : Int))) + ((gJ P q : Nat) : Int))).toNat) (0, 1)) [some (2, 121), some (0, (m : Int))] [] (fun r1 => vP D T N 338 78 r1.1 [some (2, 121), some (0, (j : Int)), some (0, ((gJ P q : Nat) : Int)), some (0, n), some (0, w), some (0, (m : Int)), some (0, p), o7] (zpush r1.2 []) Q)) :
    vP D T N 338 48 h [some (2, 121), some (0, (j : Int)), some (0, ((gJ P q : Nat) : Int)), some (0, n), some (0, w), some (0, (m : Int)), o6, o7] [(0, p)] Q := by
  refine v_store1 [some (2, 121), some (0, (j : Int)), some (0, ((gJ P q : Nat) : Int)), some (0, n), some (0, w), some (0, (m : Int)), some (0, p), o7] (hz_X12_worthOf hT _ _ rfl) ⟨rfl, Nat.ne_of_beq_eq_false rfl⟩ (Nat.le_of_ble_eq_true rfl) rfl ?_
  refine v_load (v := (0, p)) (hz_X12_worthOf hT _ _ rfl) rfl rfl ?_
  refine v_push (1000000) (hz_X12_worthOf hT _ _ rfl) rfl ?_
  refine v_ic (hz_X12_worthOf hT _ _ rfl) (fun hc1 => absurd (show p = 1000000 from hc1) hp) (fun _ => ?_)
  refine v_load (v := (2, 121)) (hz_X12_worthOf hT _ _ rfl) rfl rfl ?_
  refine v_getR (c := 126) (r := 121) (hz_X12_worthOf hT _ _ rfl) rfl rfl rfl ?_
  refine v_load (v := (0, (j : Int))) (hz_X12_worthOf hT _ _ rfl) rfl rfl ?_
  refine v_load (v := (0, ((gJ P q : Nat) : Int))) (hz_X12_worthOf hT _ _ rfl) rfl rfl ?_
  refine v_call (w := 2) [some (0, (j : Int)), some (0, ((gJ P q : Nat) : Int))] hO (hz_X12_worthOf hT _ _ rfl) rfl rfl ?_
  refine v_push (101) (hz_X12_state hT _ _ rfl) rfl ?_
  refine v_push (48) (hz_X12_state hT _ _ rfl) rfl ?_
  refine v_load (v := (0, (j : Int))) (hz_X12_state hT _ _ rfl) rfl rfl ?_
  refine v_bin (w := (48 * (j : Int))) (hz_X12_state hT _ _ rfl) (hq_mul (by omega) (by omega)) ?_
  refine v_bin (w := (101 + (48 * (j : Int)))) (hz_X12_state hT _ _ rfl) (hq_add (by omega) (by omega)) ?_
  refine v_load (v := (0, ((gJ P q : Nat) : Int))) (hz_X12_state hT _ _ rfl) rfl rfl ?_
  refine v_bin (w := ((101 + (48 * (j : Int))) + ((gJ P q : Nat) : Int))) (hz_X12_state hT _ _ rfl) (hq_add (by omega) (by omega)) ?_
  refine v_ret (hz_X12_state hT _ _ rfl) (Or.inl rfl) ?_
  show vP D T N 338 70 h [some (2, 121), some (0, (j : Int)), some (0, ((gJ P q : Nat) : Int)), some (0, n), some (0, w), some (0, (m : Int)), some (0, p), o7] [(0, ((101 + (48 * (j : Int))) + ((gJ P q : Nat) : Int))), (2, 126)] _
  refine v_push (1) (hz_X12_worthOf hT _ _ rfl) rfl ?_
  refine v_ast (r := 126) (hz_X12_worthOf hT _ _ rfl) rfl rfl (fun ha2 hb3 hf4 => ?_)
  refine v_load (v := (2, 121)) (hz_X12_worthOf hT _ _ rfl) rfl rfl ?_
  refine v_load (v := (0, (m : Int))) (hz_X12_worthOf hT _ _ rfl) rfl rfl ?_
  refine v_call (w := 2) [some (2, 121), some (0, (m : Int))] hO (hz_X12_worthOf hT _ _ rfl) rfl rfl ?_
  exact k0 ha2 hb3
theorem qr_wt78 {D : zD} {T : zT} (hT : hTab T) (hO : vOK T) {N : Nat} {h : zH} {Q : zR → Prop} {P : PT} {j q m : Nat} (n w p p2 : Int) (o7 : Option zV) (hv0 : zHv h) (m6 : m < 6) (gq : gIn P q) (hq : gJ P q < 48) (hj : j < 3) (bp : 0 ≤ p ∧ p ≤ 1000000) (bp2 : 0 ≤ p2 ∧ p2 ≤ 1000000) (bn : -6000000 ≤ n ∧ n ≤ 6000000)
    (k0 : (0 ≤ ((101 + (48 * (j : Int))) + ((gJ P q : Nat) : Int))) → (((101 + (48 * (j : Int))) + ((gJ P q : Nat) : Int)) < 2750) → (p2 = 1000000) → vP D T N 338 13 (zset h 126 ((((101 + (48 * (j : Int))) + ((gJ P q : Nat) : Int))).toNat) (0, w)) [some (2, 121), some (0, (j : Int)), some (0, ((gJ P q : Nat) : Int)), some (0, (n + 100)), some (0, w), some (0, ((m : Int) + 1)), some (0, p), some (0, p2)] [] Q)
    (k1 : (0 ≤ ((101 + (48 * (j : Int))) + ((gJ P q : Nat) : Int))) → (((101 + (48 * (j : Int))) + ((gJ P q : Nat) : Int)) < 2750) → (p2 ≠ 1000000) → vP D T N 338 13 (zset h 126 ((((101 + (48 * (j : Int))) + ((gJ P q : Nat) : Int))).toNat) (0, w)) [some (2, 121), some (0, (j : Int)), some (0, ((gJ P q : Nat) : Int)), some (0, (n + (p2 - p))), some (0, w), some (0, ((m : Int) + 1)), some (0, p), some (0, p2)] [] Q) :
    vP D T N 338 78 h [some (2, 121), some (0, (j : Int)), some (0, ((gJ P q : Nat) : Int)), some (0, n), some (0, w), some (0, (m : Int)), some (0, p), o7] [(0, p2)] Q := by
  refine v_store1 [some (2, 121), some (0, (j : Int)), some (0, ((gJ P q : Nat) : Int)), some (0, n), some (0, w), some (0, (m : Int)), some (0, p), some (0, p2)] (hz_X12_worthOf hT _ _ rfl) ⟨rfl, Nat.ne_of_beq_eq_false rfl⟩ (Nat.le_of_ble_eq_true rfl) rfl ?_
  refine v_load (v := (2, 121)) (hz_X12_worthOf hT _ _ rfl) rfl rfl ?_
  refine v_getR (c := 126) (r := 121) (hz_X12_worthOf hT _ _ rfl) rfl rfl rfl ?_
  refine v_load (v := (0, (j : Int))) (hz_X12_worthOf hT _ _ rfl) rfl rfl ?_
  refine v_load (v := (0, ((gJ P q : Nat) : Int))) (hz_X12_worthOf hT _ _ rfl) rfl rfl ?_
  refine v_call (w := 2) [some (0, (j : Int)), some (0, ((gJ P q : Nat) : Int))] hO (hz_X12_worthOf hT _ _ rfl) rfl rfl ?_
  refine v_push (101) (hz_X12_state hT _ _ rfl) rfl ?_
  refine v_push (48) (hz_X12_state hT _ _ rfl) rfl ?_
  refine v_load (v := (0, (j : Int))) (hz_X12_state hT _ _ rfl) rfl rfl ?_
  refine v_bin (w := (48 * (j : Int))) (hz_X12_state hT _ _ rfl) (hq_mul (by omega) (by omega)) ?_
  refine v_bin (w := (101 + (48 * (j : Int)))) (hz_X12_state hT _ _ rfl) (hq_add (by omega) (by omega)) ?_
  refine v_load (v := (0, ((gJ P q : Nat) : Int))) (hz_X12_state hT _ _ rfl) rfl rfl ?_
  refine v_bin (w := ((101 + (48 * (j : Int))) + ((gJ P q : Nat) : Int))) (hz_X12_state hT _ _ rfl) (hq_add (by omega) (by omega)) ?_
  refine v_ret (hz_X12_state hT _ _ rfl) (Or.inl rfl) ?_
  show vP D T N 338 89 h [some (2, 121), some (0, (j : Int)), some (0, ((gJ P q : Nat) : Int)), some (0, n), some (0, w), some (0, (m : Int)), some (0, p), some (0, p2)] [(0, ((101 + (48 * (j : Int))) + ((gJ P q : Nat) : Int))), (2, 126)] _
  refine v_load (v := (0, w)) (hz_X12_worthOf hT _ _ rfl) rfl rfl ?_
  refine v_ast (r := 126) (hz_X12_worthOf hT _ _ rfl) rfl rfl (fun ha1 hb2 hf3 => ?_)
  refine v_load (v := (0, n)) (hz_X12_worthOf hT _ _ rfl) rfl rfl ?_
  refine v_load (v := (0, p2)) (hz_X12_worthOf hT _ _ rfl) rfl rfl ?_
  refine v_push (1000000) (hz_X12_worthOf hT _ _ rfl) rfl ?_
  refine v_ic (hz_X12_worthOf hT _ _ rfl) (fun hc4 => ?_) (fun hc4 => ?_)
  · have hc4 : p2 = 1000000 := hc4
    refine v_push (100) (hz_X12_worthOf hT _ _ rfl) rfl ?_
    refine v_goto (hz_X12_worthOf hT _ _ rfl) ?_
    refine v_bin (w := (n + 100)) (hz_X12_worthOf hT _ _ rfl) (hq_add (by omega) (by omega)) ?_
    refine v_store1 [some (2, 121), some (0, (j : Int)), some (0, ((gJ P q : Nat) : Int)), some (0, (n + 100)), some (0, w), some (0, (m : Int)), some (0, p), some (0, p2)] (hz_X12_worthOf hT _ _ rfl) ⟨rfl, Nat.ne_of_beq_eq_false rfl⟩ (Nat.le_of_ble_eq_true rfl) rfl ?_
    refine v_iinc (x := (m : Int)) (u := 1) (w := ((m : Int) + 1)) [some (2, 121), some (0, (j : Int)), some (0, ((gJ P q : Nat) : Int)), some (0, (n + 100)), some (0, w), some (0, ((m : Int) + 1)), some (0, p), some (0, p2)] (hz_X12_worthOf hT _ _ rfl) rfl rfl (Nat.le_of_ble_eq_true rfl) (vz_inc (by omega) (by omega)) rfl ?_
    refine v_goto (hz_X12_worthOf hT _ _ rfl) ?_
    exact k0 ha1 hb2 hc4
  · have hc4 : p2 ≠ 1000000 := hc4
    refine v_load (v := (0, p2)) (hz_X12_worthOf hT _ _ rfl) rfl rfl ?_
    refine v_load (v := (0, p)) (hz_X12_worthOf hT _ _ rfl) rfl rfl ?_
    refine v_bin (w := (p2 - p)) (hz_X12_worthOf hT _ _ rfl) (hq_sub (by omega) (by omega)) ?_
    refine v_bin (w := (n + (p2 - p))) (hz_X12_worthOf hT _ _ rfl) (hq_add (by omega) (by omega)) ?_
    refine v_store1 [some (2, 121), some (0, (j : Int)), some (0, ((gJ P q : Nat) : Int)), some (0, (n + (p2 - p))), some (0, w), some (0, (m : Int)), some (0, p), some (0, p2)] (hz_X12_worthOf hT _ _ rfl) ⟨rfl, Nat.ne_of_beq_eq_false rfl⟩ (Nat.le_of_ble_eq_true rfl) rfl ?_
    refine v_iinc (x := (m : Int)) (u := 1) (w := ((m : Int) + 1)) [some (2, 121), some (0, (j : Int)), some (0, ((gJ P q : Nat) : Int)), some (0, (n + (p2 - p))), some (0, w), some (0, ((m : Int) + 1)), some (0, p), some (0, p2)] (hz_X12_worthOf hT _ _ rfl) rfl rfl (Nat.le_of_ble_eq_true rfl) (vz_inc (by omega) (by omega)) rfl ?_
    refine v_goto (hz_X12_worthOf hT _ _ rfl) ?_
    exact k1 ha1 hb2 hc4
theorem qs_wo0 {D : zD} {T : zT} (hT : hTab T) (hO : vOK T) {N : Nat} {h : zH} {Q : zR → Prop} {P : PT} (x y z : Int) (hv0 : zHv h) (p0 : h 126 0 = (0, P 0 0)) (p1 : h 126 1 = (0, P 0 1)) (p2 : h 126 2 = (0, P 0 2)) (p3 : h 126 3 = (0, P 0 3)) (lb : (0 ≤ P 0 0 ∧ P 0 0 ≤ 8) ∧ (0 ≤ P 0 1 ∧ P 0 1 ≤ 6) ∧ (0 ≤ P 0 2 ∧ P 0 2 ≤ 3) ∧ (0 ≤ P 0 3 ∧ P 0 3 ≤ 6))
    (k0 : (x < 0) → Q (zset (zset (zset h 121 1 (0, 0)) 121 0 (0, 0)) 121 0 (0, 2), some (0, -1)))
    (k1 : (0 ≤ x) → (((P 0 2) - 1) < x) → Q (zset (zset (zset h 121 1 (0, 0)) 121 0 (0, 0)) 121 0 (0, 2), some (0, -1)))
    (k2 : (0 ≤ x) → (x ≤ ((P 0 2) - 1)) → (y < 0) → Q (zset (zset (zset h 121 1 (0, 0)) 121 0 (0, 0)) 121 0 (0, 2), some (0, -1)))
    (k3 : (0 ≤ x) → (x ≤ ((P 0 2) - 1)) → (0 ≤ y) → (((P 0 0) - 1) < y) → Q (zset (zset (zset h 121 1 (0, 0)) 121 0 (0, 0)) 121 0 (0, 2), some (0, -1)))
    (k4 : (0 ≤ x) → (x ≤ ((P 0 2) - 1)) → (0 ≤ y) → (y ≤ ((P 0 0) - 1)) → (z < 0) → Q (zset (zset (zset h 121 1 (0, 0)) 121 0 (0, 0)) 121 0 (0, 2), some (0, -1)))
    (k5 : (0 ≤ x) → (x ≤ ((P 0 2) - 1)) → (0 ≤ y) → (y ≤ ((P 0 0) - 1)) → (0 ≤ z) → (((P 0 1) - 1) < z) → Q (zset (zset (zset h 121 1 (0, 0)) 121 0 (0, 0)) 121 0 (0, 2), some (0, -1)))
    (k6 : (0 ≤ x) → (x ≤ ((P 0 2) - 1)) → (0 ≤ y) → (y ≤ ((P 0 0) - 1)) → (0 ≤ z) → (z ≤ ((P 0 1) - 1)) → vP D T N 337 33 (zset (zset h 121 1 (0, 0)) 121 0 (0, 0)) [some (2, 121), some (0, x), some (0, y), some (0, z)] [] Q) :
    vP D T N 337 0 h [some (2, 121), some (0, x), some (0, y), some (0, z)] [] Q := by
  refine v_load (v := (2, 121)) (hz_X12_worth hT _ _ rfl) rfl rfl ?_
  refine v_push (0) (hz_X12_worth hT _ _ rfl) rfl ?_
  refine v_putf (r := 121) hO (hz_X12_worth hT _ _ rfl) rfl (fun hf1 => ?_)
  refine v_load (v := (2, 121)) (hz_X12_worth hT _ _ rfl) rfl rfl ?_
  refine v_push (0) (hz_X12_worth hT _ _ rfl) rfl ?_
  refine v_putf (r := 121) hO (hz_X12_worth hT _ _ rfl) rfl (fun hf2 => ?_)
  refine v_load (v := (2, 121)) (hz_X12_worth hT _ _ rfl) rfl rfl ?_
  refine v_load (v := (0, x)) (hz_X12_worth hT _ _ rfl) rfl rfl ?_
  refine v_call (w := 2) [some (2, 121), some (0, x)] hO (hz_X12_worth hT _ _ rfl) rfl rfl ?_
  refine v_load (v := (0, x)) (hz_X12_isCopy hT _ _ rfl) rfl rfl ?_
  refine v_i2l (hz_X12_isCopy hT _ _ rfl) ?_
  refine v_push (0) (hz_X12_isCopy hT _ _ rfl) rfl ?_
  refine v_load (v := (2, 121)) (hz_X12_isCopy hT _ _ rfl) rfl rfl ?_
  refine v_getR (c := 126) (r := 121) (hz_X12_isCopy hT _ _ rfl) rfl rfl rfl ?_
  refine v_push (2) (hz_X12_isCopy hT _ _ rfl) rfl ?_
  refine v_aldV (v := (0, (P 0 2))) (r := 126) (hz_X12_isCopy hT _ _ rfl) rfl rfl (fun _ _ _ => (Eq.trans (Eq.trans (zset_ne (fun c => absurd c.1 (by decide))) (zset_ne (fun c => absurd c.1 (by decide)))) (p2))) (fun ha3 hb4 => ?_)
  refine v_push (1) (hz_X12_isCopy hT _ _ rfl) rfl ?_
  refine v_bin (w := ((P 0 2) - 1)) (hz_X12_isCopy hT _ _ rfl) (hq_sub (by omega) (by omega)) ?_
  refine v_i2l (hz_X12_isCopy hT _ _ rfl) ?_
  refine v_call (w := 6) [some (1, x), none, some (1, 0), none, some (1, ((P 0 2) - 1)), none] hO (hz_X12_isCopy hT _ _ rfl) rfl rfl ?_
  refine v_load (v := (1, x)) (hz_X12_isIn hT _ _ rfl) rfl rfl ?_
  refine v_load (v := (1, 0)) (hz_X12_isIn hT _ _ rfl) rfl rfl ?_
  refine v_lif (hz_X12_isIn hT _ _ rfl) (hz_X12_isIn hT _ _ rfl) (fun hc5 => ?_) (fun hc5 => ?_)
  · have hc5 : x < 0 := hc5
    refine v_push (0) (hz_X12_isIn hT _ _ rfl) rfl ?_
    refine v_ret (hz_X12_isIn hT _ _ rfl) (Or.inl rfl) ?_
    show vP D T N 248 15 (zset (zset h 121 1 (0, 0)) 121 0 (0, 0)) [some (2, 121), some (0, x)] [(0, 0)] _
    refine v_ret (hz_X12_isCopy hT _ _ rfl) (Or.inl rfl) ?_
    show vP D T N 337 15 (zset (zset h 121 1 (0, 0)) 121 0 (0, 0)) [some (2, 121), some (0, x), some (0, y), some (0, z)] [(0, 0)] _
    refine v_if (hz_X12_worth hT _ _ rfl) (fun _ => ?_) (fun hc6 => absurd (show (0 : Int) = 0 from (by omega)) hc6)
    refine v_load (v := (2, 121)) (hz_X12_worth hT _ _ rfl) rfl rfl ?_
    refine v_push (2) (hz_X12_worth hT _ _ rfl) rfl ?_
    refine v_call (w := 2) [some (2, 121), some (0, 2)] hO (hz_X12_worth hT _ _ rfl) rfl rfl ?_
    refine v_load (v := (2, 121)) (hz_X12_refuse hT _ _ rfl) rfl rfl ?_
    refine v_load (v := (0, 2)) (hz_X12_refuse hT _ _ rfl) rfl rfl ?_
    refine v_putf (r := 121) hO (hz_X12_refuse hT _ _ rfl) rfl (fun hf7 => ?_)
    refine v_push (-1) (hz_X12_refuse hT _ _ rfl) rfl ?_
    refine v_ret (hz_X12_refuse hT _ _ rfl) (Or.inl rfl) ?_
    show vP D T N 337 32 (zset (zset (zset h 121 1 (0, 0)) 121 0 (0, 0)) 121 0 (0, 2)) [some (2, 121), some (0, x), some (0, y), some (0, z)] [(0, -1)] _
    refine v_ret (hz_X12_worth hT _ _ rfl) (Or.inl rfl) ?_
    exact k0 hc5
  · have hc5 : 0 ≤ x := Int.not_lt.mp hc5
    refine v_load (v := (1, x)) (hz_X12_isIn hT _ _ rfl) rfl rfl ?_
    refine v_load (v := (1, ((P 0 2) - 1))) (hz_X12_isIn hT _ _ rfl) rfl rfl ?_
    refine v_lif (hz_X12_isIn hT _ _ rfl) (hz_X12_isIn hT _ _ rfl) (fun hc8 => ?_) (fun hc8 => ?_)
    · have hc8 : ((P 0 2) - 1) < x := hc8
      refine v_push (0) (hz_X12_isIn hT _ _ rfl) rfl ?_
      refine v_ret (hz_X12_isIn hT _ _ rfl) (Or.inl rfl) ?_
      show vP D T N 248 15 (zset (zset h 121 1 (0, 0)) 121 0 (0, 0)) [some (2, 121), some (0, x)] [(0, 0)] _
      refine v_ret (hz_X12_isCopy hT _ _ rfl) (Or.inl rfl) ?_
      show vP D T N 337 15 (zset (zset h 121 1 (0, 0)) 121 0 (0, 0)) [some (2, 121), some (0, x), some (0, y), some (0, z)] [(0, 0)] _
      refine v_if (hz_X12_worth hT _ _ rfl) (fun _ => ?_) (fun hc9 => absurd (show (0 : Int) = 0 from (by omega)) hc9)
      refine v_load (v := (2, 121)) (hz_X12_worth hT _ _ rfl) rfl rfl ?_
      refine v_push (2) (hz_X12_worth hT _ _ rfl) rfl ?_
      refine v_call (w := 2) [some (2, 121), some (0, 2)] hO (hz_X12_worth hT _ _ rfl) rfl rfl ?_
      refine v_load (v := (2, 121)) (hz_X12_refuse hT _ _ rfl) rfl rfl ?_
      refine v_load (v := (0, 2)) (hz_X12_refuse hT _ _ rfl) rfl rfl ?_
      refine v_putf (r := 121) hO (hz_X12_refuse hT _ _ rfl) rfl (fun hf10 => ?_)
      refine v_push (-1) (hz_X12_refuse hT _ _ rfl) rfl ?_
      refine v_ret (hz_X12_refuse hT _ _ rfl) (Or.inl rfl) ?_
      show vP D T N 337 32 (zset (zset (zset h 121 1 (0, 0)) 121 0 (0, 0)) 121 0 (0, 2)) [some (2, 121), some (0, x), some (0, y), some (0, z)] [(0, -1)] _
      refine v_ret (hz_X12_worth hT _ _ rfl) (Or.inl rfl) ?_
      exact k1 hc5 hc8
    · have hc8 : x ≤ ((P 0 2) - 1) := Int.not_lt.mp hc8
      refine v_push (1) (hz_X12_isIn hT _ _ rfl) rfl ?_
      refine v_goto (hz_X12_isIn hT _ _ rfl) ?_
      refine v_ret (hz_X12_isIn hT _ _ rfl) (Or.inl rfl) ?_
      show vP D T N 248 15 (zset (zset h 121 1 (0, 0)) 121 0 (0, 0)) [some (2, 121), some (0, x)] [(0, 1)] _
      refine v_ret (hz_X12_isCopy hT _ _ rfl) (Or.inl rfl) ?_
      show vP D T N 337 15 (zset (zset h 121 1 (0, 0)) 121 0 (0, 0)) [some (2, 121), some (0, x), some (0, y), some (0, z)] [(0, 1)] _
      refine v_if (hz_X12_worth hT _ _ rfl) (fun hc11 => absurd (show (1 : Int) = 0 from hc11) (by omega)) (fun _ => ?_)
      refine v_load (v := (2, 121)) (hz_X12_worth hT _ _ rfl) rfl rfl ?_
      refine v_load (v := (0, y)) (hz_X12_worth hT _ _ rfl) rfl rfl ?_
      refine v_load (v := (0, z)) (hz_X12_worth hT _ _ rfl) rfl rfl ?_
      refine v_call (w := 3) [some (2, 121), some (0, y), some (0, z)] hO (hz_X12_worth hT _ _ rfl) rfl rfl ?_
      refine v_load (v := (0, y)) (hz_X12_isCell hT _ _ rfl) rfl rfl ?_
      refine v_i2l (hz_X12_isCell hT _ _ rfl) ?_
      refine v_push (0) (hz_X12_isCell hT _ _ rfl) rfl ?_
      refine v_load (v := (2, 121)) (hz_X12_isCell hT _ _ rfl) rfl rfl ?_
      refine v_getR (c := 126) (r := 121) (hz_X12_isCell hT _ _ rfl) rfl rfl rfl ?_
      refine v_push (0) (hz_X12_isCell hT _ _ rfl) rfl ?_
      refine v_aldV (v := (0, (P 0 0))) (r := 126) (hz_X12_isCell hT _ _ rfl) rfl rfl (fun _ _ _ => (Eq.trans (Eq.trans (zset_ne (fun c => absurd c.1 (by decide))) (zset_ne (fun c => absurd c.1 (by decide)))) (p0))) (fun ha12 hb13 => ?_)
      refine v_push (1) (hz_X12_isCell hT _ _ rfl) rfl ?_
      refine v_bin (w := ((P 0 0) - 1)) (hz_X12_isCell hT _ _ rfl) (hq_sub (by omega) (by omega)) ?_
      refine v_i2l (hz_X12_isCell hT _ _ rfl) ?_
      refine v_call (w := 6) [some (1, y), none, some (1, 0), none, some (1, ((P 0 0) - 1)), none] hO (hz_X12_isCell hT _ _ rfl) rfl rfl ?_
      refine v_load (v := (1, y)) (hz_X12_isIn hT _ _ rfl) rfl rfl ?_
      refine v_load (v := (1, 0)) (hz_X12_isIn hT _ _ rfl) rfl rfl ?_
      refine v_lif (hz_X12_isIn hT _ _ rfl) (hz_X12_isIn hT _ _ rfl) (fun hc14 => ?_) (fun hc14 => ?_)
      · have hc14 : y < 0 := hc14
        refine v_push (0) (hz_X12_isIn hT _ _ rfl) rfl ?_
        refine v_ret (hz_X12_isIn hT _ _ rfl) (Or.inl rfl) ?_
        show vP D T N 244 15 (zset (zset h 121 1 (0, 0)) 121 0 (0, 0)) [some (2, 121), some (0, y), some (0, z)] [(0, 0)] _
        refine v_if (hz_X12_isCell hT _ _ rfl) (fun _ => ?_) (fun hc15 => absurd (show (0 : Int) = 0 from (by omega)) hc15)
        refine v_push (0) (hz_X12_isCell hT _ _ rfl) rfl ?_
        refine v_ret (hz_X12_isCell hT _ _ rfl) (Or.inl rfl) ?_
        show vP D T N 337 24 (zset (zset h 121 1 (0, 0)) 121 0 (0, 0)) [some (2, 121), some (0, x), some (0, y), some (0, z)] [(0, 0)] _
        refine v_if (hz_X12_worth hT _ _ rfl) (fun _ => ?_) (fun hc16 => absurd (show (0 : Int) = 0 from (by omega)) hc16)
        refine v_load (v := (2, 121)) (hz_X12_worth hT _ _ rfl) rfl rfl ?_
        refine v_push (2) (hz_X12_worth hT _ _ rfl) rfl ?_
        refine v_call (w := 2) [some (2, 121), some (0, 2)] hO (hz_X12_worth hT _ _ rfl) rfl rfl ?_
        refine v_load (v := (2, 121)) (hz_X12_refuse hT _ _ rfl) rfl rfl ?_
        refine v_load (v := (0, 2)) (hz_X12_refuse hT _ _ rfl) rfl rfl ?_
        refine v_putf (r := 121) hO (hz_X12_refuse hT _ _ rfl) rfl (fun hf17 => ?_)
        refine v_push (-1) (hz_X12_refuse hT _ _ rfl) rfl ?_
        refine v_ret (hz_X12_refuse hT _ _ rfl) (Or.inl rfl) ?_
        show vP D T N 337 32 (zset (zset (zset h 121 1 (0, 0)) 121 0 (0, 0)) 121 0 (0, 2)) [some (2, 121), some (0, x), some (0, y), some (0, z)] [(0, -1)] _
        refine v_ret (hz_X12_worth hT _ _ rfl) (Or.inl rfl) ?_
        exact k2 hc5 hc8 hc14
      · have hc14 : 0 ≤ y := Int.not_lt.mp hc14
        refine v_load (v := (1, y)) (hz_X12_isIn hT _ _ rfl) rfl rfl ?_
        refine v_load (v := (1, ((P 0 0) - 1))) (hz_X12_isIn hT _ _ rfl) rfl rfl ?_
        refine v_lif (hz_X12_isIn hT _ _ rfl) (hz_X12_isIn hT _ _ rfl) (fun hc18 => ?_) (fun hc18 => ?_)
        · have hc18 : ((P 0 0) - 1) < y := hc18
          refine v_push (0) (hz_X12_isIn hT _ _ rfl) rfl ?_
          refine v_ret (hz_X12_isIn hT _ _ rfl) (Or.inl rfl) ?_
          show vP D T N 244 15 (zset (zset h 121 1 (0, 0)) 121 0 (0, 0)) [some (2, 121), some (0, y), some (0, z)] [(0, 0)] _
          refine v_if (hz_X12_isCell hT _ _ rfl) (fun _ => ?_) (fun hc19 => absurd (show (0 : Int) = 0 from (by omega)) hc19)
          refine v_push (0) (hz_X12_isCell hT _ _ rfl) rfl ?_
          refine v_ret (hz_X12_isCell hT _ _ rfl) (Or.inl rfl) ?_
          show vP D T N 337 24 (zset (zset h 121 1 (0, 0)) 121 0 (0, 0)) [some (2, 121), some (0, x), some (0, y), some (0, z)] [(0, 0)] _
          refine v_if (hz_X12_worth hT _ _ rfl) (fun _ => ?_) (fun hc20 => absurd (show (0 : Int) = 0 from (by omega)) hc20)
          refine v_load (v := (2, 121)) (hz_X12_worth hT _ _ rfl) rfl rfl ?_
          refine v_push (2) (hz_X12_worth hT _ _ rfl) rfl ?_
          refine v_call (w := 2) [some (2, 121), some (0, 2)] hO (hz_X12_worth hT _ _ rfl) rfl rfl ?_
          refine v_load (v := (2, 121)) (hz_X12_refuse hT _ _ rfl) rfl rfl ?_
          refine v_load (v := (0, 2)) (hz_X12_refuse hT _ _ rfl) rfl rfl ?_
          refine v_putf (r := 121) hO (hz_X12_refuse hT _ _ rfl) rfl (fun hf21 => ?_)
          refine v_push (-1) (hz_X12_refuse hT _ _ rfl) rfl ?_
          refine v_ret (hz_X12_refuse hT _ _ rfl) (Or.inl rfl) ?_
          show vP D T N 337 32 (zset (zset (zset h 121 1 (0, 0)) 121 0 (0, 0)) 121 0 (0, 2)) [some (2, 121), some (0, x), some (0, y), some (0, z)] [(0, -1)] _
          refine v_ret (hz_X12_worth hT _ _ rfl) (Or.inl rfl) ?_
          exact k3 hc5 hc8 hc14 hc18
        · have hc18 : y ≤ ((P 0 0) - 1) := Int.not_lt.mp hc18
          refine v_push (1) (hz_X12_isIn hT _ _ rfl) rfl ?_
          refine v_goto (hz_X12_isIn hT _ _ rfl) ?_
          refine v_ret (hz_X12_isIn hT _ _ rfl) (Or.inl rfl) ?_
          show vP D T N 244 15 (zset (zset h 121 1 (0, 0)) 121 0 (0, 0)) [some (2, 121), some (0, y), some (0, z)] [(0, 1)] _
          refine v_if (hz_X12_isCell hT _ _ rfl) (fun hc22 => absurd (show (1 : Int) = 0 from hc22) (by omega)) (fun _ => ?_)
          refine v_load (v := (0, z)) (hz_X12_isCell hT _ _ rfl) rfl rfl ?_
          refine v_i2l (hz_X12_isCell hT _ _ rfl) ?_
          refine v_push (0) (hz_X12_isCell hT _ _ rfl) rfl ?_
          refine v_load (v := (2, 121)) (hz_X12_isCell hT _ _ rfl) rfl rfl ?_
          refine v_getR (c := 126) (r := 121) (hz_X12_isCell hT _ _ rfl) rfl rfl rfl ?_
          refine v_push (1) (hz_X12_isCell hT _ _ rfl) rfl ?_
          refine v_aldV (v := (0, (P 0 1))) (r := 126) (hz_X12_isCell hT _ _ rfl) rfl rfl (fun _ _ _ => (Eq.trans (Eq.trans (zset_ne (fun c => absurd c.1 (by decide))) (zset_ne (fun c => absurd c.1 (by decide)))) (p1))) (fun ha23 hb24 => ?_)
          refine v_push (1) (hz_X12_isCell hT _ _ rfl) rfl ?_
          refine v_bin (w := ((P 0 1) - 1)) (hz_X12_isCell hT _ _ rfl) (hq_sub (by omega) (by omega)) ?_
          refine v_i2l (hz_X12_isCell hT _ _ rfl) ?_
          refine v_call (w := 6) [some (1, z), none, some (1, 0), none, some (1, ((P 0 1) - 1)), none] hO (hz_X12_isCell hT _ _ rfl) rfl rfl ?_
          refine v_load (v := (1, z)) (hz_X12_isIn hT _ _ rfl) rfl rfl ?_
          refine v_load (v := (1, 0)) (hz_X12_isIn hT _ _ rfl) rfl rfl ?_
          refine v_lif (hz_X12_isIn hT _ _ rfl) (hz_X12_isIn hT _ _ rfl) (fun hc25 => ?_) (fun hc25 => ?_)
          · have hc25 : z < 0 := hc25
            refine v_push (0) (hz_X12_isIn hT _ _ rfl) rfl ?_
            refine v_ret (hz_X12_isIn hT _ _ rfl) (Or.inl rfl) ?_
            show vP D T N 244 33 (zset (zset h 121 1 (0, 0)) 121 0 (0, 0)) [some (2, 121), some (0, y), some (0, z)] [(0, 0)] _
            refine v_if (hz_X12_isCell hT _ _ rfl) (fun _ => ?_) (fun hc26 => absurd (show (0 : Int) = 0 from (by omega)) hc26)
            refine v_push (0) (hz_X12_isCell hT _ _ rfl) rfl ?_
            refine v_ret (hz_X12_isCell hT _ _ rfl) (Or.inl rfl) ?_
            show vP D T N 337 24 (zset (zset h 121 1 (0, 0)) 121 0 (0, 0)) [some (2, 121), some (0, x), some (0, y), some (0, z)] [(0, 0)] _
            refine v_if (hz_X12_worth hT _ _ rfl) (fun _ => ?_) (fun hc27 => absurd (show (0 : Int) = 0 from (by omega)) hc27)
            refine v_load (v := (2, 121)) (hz_X12_worth hT _ _ rfl) rfl rfl ?_
            refine v_push (2) (hz_X12_worth hT _ _ rfl) rfl ?_
            refine v_call (w := 2) [some (2, 121), some (0, 2)] hO (hz_X12_worth hT _ _ rfl) rfl rfl ?_
            refine v_load (v := (2, 121)) (hz_X12_refuse hT _ _ rfl) rfl rfl ?_
            refine v_load (v := (0, 2)) (hz_X12_refuse hT _ _ rfl) rfl rfl ?_
            refine v_putf (r := 121) hO (hz_X12_refuse hT _ _ rfl) rfl (fun hf28 => ?_)
            refine v_push (-1) (hz_X12_refuse hT _ _ rfl) rfl ?_
            refine v_ret (hz_X12_refuse hT _ _ rfl) (Or.inl rfl) ?_
            show vP D T N 337 32 (zset (zset (zset h 121 1 (0, 0)) 121 0 (0, 0)) 121 0 (0, 2)) [some (2, 121), some (0, x), some (0, y), some (0, z)] [(0, -1)] _
            refine v_ret (hz_X12_worth hT _ _ rfl) (Or.inl rfl) ?_
            exact k4 hc5 hc8 hc14 hc18 hc25
          · have hc25 : 0 ≤ z := Int.not_lt.mp hc25
            refine v_load (v := (1, z)) (hz_X12_isIn hT _ _ rfl) rfl rfl ?_
            refine v_load (v := (1, ((P 0 1) - 1))) (hz_X12_isIn hT _ _ rfl) rfl rfl ?_
            refine v_lif (hz_X12_isIn hT _ _ rfl) (hz_X12_isIn hT _ _ rfl) (fun hc29 => ?_) (fun hc29 => ?_)
            · have hc29 : ((P 0 1) - 1) < z := hc29
              refine v_push (0) (hz_X12_isIn hT _ _ rfl) rfl ?_
              refine v_ret (hz_X12_isIn hT _ _ rfl) (Or.inl rfl) ?_
              show vP D T N 244 33 (zset (zset h 121 1 (0, 0)) 121 0 (0, 0)) [some (2, 121), some (0, y), some (0, z)] [(0, 0)] _
              refine v_if (hz_X12_isCell hT _ _ rfl) (fun _ => ?_) (fun hc30 => absurd (show (0 : Int) = 0 from (by omega)) hc30)
              refine v_push (0) (hz_X12_isCell hT _ _ rfl) rfl ?_
              refine v_ret (hz_X12_isCell hT _ _ rfl) (Or.inl rfl) ?_
              show vP D T N 337 24 (zset (zset h 121 1 (0, 0)) 121 0 (0, 0)) [some (2, 121), some (0, x), some (0, y), some (0, z)] [(0, 0)] _
              refine v_if (hz_X12_worth hT _ _ rfl) (fun _ => ?_) (fun hc31 => absurd (show (0 : Int) = 0 from (by omega)) hc31)
              refine v_load (v := (2, 121)) (hz_X12_worth hT _ _ rfl) rfl rfl ?_
              refine v_push (2) (hz_X12_worth hT _ _ rfl) rfl ?_
              refine v_call (w := 2) [some (2, 121), some (0, 2)] hO (hz_X12_worth hT _ _ rfl) rfl rfl ?_
              refine v_load (v := (2, 121)) (hz_X12_refuse hT _ _ rfl) rfl rfl ?_
              refine v_load (v := (0, 2)) (hz_X12_refuse hT _ _ rfl) rfl rfl ?_
              refine v_putf (r := 121) hO (hz_X12_refuse hT _ _ rfl) rfl (fun hf32 => ?_)
              refine v_push (-1) (hz_X12_refuse hT _ _ rfl) rfl ?_
              refine v_ret (hz_X12_refuse hT _ _ rfl) (Or.inl rfl) ?_
              show vP D T N 337 32 (zset (zset (zset h 121 1 (0, 0)) 121 0 (0, 0)) 121 0 (0, 2)) [some (2, 121), some (0, x), some (0, y), some (0, z)] [(0, -1)] _
              refine v_ret (hz_X12_worth hT _ _ rfl) (Or.inl rfl) ?_
              exact k5 hc5 hc8 hc14 hc18 hc25 hc29
            · have hc29 : z ≤ ((P 0 1) - 1) := Int.not_lt.mp hc29
              refine v_push (1) (hz_X12_isIn hT _ _ rfl) rfl ?_
              refine v_goto (hz_X12_isIn hT _ _ rfl) ?_
              refine v_ret (hz_X12_isIn hT _ _ rfl) (Or.inl rfl) ?_
              show vP D T N 244 33 (zset (zset h 121 1 (0, 0)) 121 0 (0, 0)) [some (2, 121), some (0, y), some (0, z)] [(0, 1)] _
              refine v_if (hz_X12_isCell hT _ _ rfl) (fun hc33 => absurd (show (1 : Int) = 0 from hc33) (by omega)) (fun _ => ?_)
              refine v_push (1) (hz_X12_isCell hT _ _ rfl) rfl ?_
              refine v_goto (hz_X12_isCell hT _ _ rfl) ?_
              refine v_ret (hz_X12_isCell hT _ _ rfl) (Or.inl rfl) ?_
              show vP D T N 337 24 (zset (zset h 121 1 (0, 0)) 121 0 (0, 0)) [some (2, 121), some (0, x), some (0, y), some (0, z)] [(0, 1)] _
              refine v_if (hz_X12_worth hT _ _ rfl) (fun hc34 => absurd (show (1 : Int) = 0 from hc34) (by omega)) (fun _ => ?_)
              exact k6 hc5 hc8 hc14 hc18 hc25 hc29
theorem qs_wo33 {D : zD} {T : zT} (hT : hTab T) (hO : vOK T) {N : Nat} {h : zH} {Q : zR → Prop} {j u v : Nat} (hv0 : zHv h)
    (k0 : vP D T N 197 0 h [some (2, 121), some (0, (u : Int)), some (0, (v : Int))] [] (fun r1 => vP D T N 337 41 r1.1 [some (2, 121), some (0, (j : Int)), some (0, (u : Int)), some (0, (v : Int))] (zpush r1.2 [(0, (j : Int)), (2, 121)]) Q)) :
    vP D T N 337 33 h [some (2, 121), some (0, (j : Int)), some (0, (u : Int)), some (0, (v : Int))] [] Q := by
  refine v_load (v := (2, 121)) (hz_X12_worth hT _ _ rfl) rfl rfl ?_
  refine v_load (v := (0, (j : Int))) (hz_X12_worth hT _ _ rfl) rfl rfl ?_
  refine v_load (v := (2, 121)) (hz_X12_worth hT _ _ rfl) rfl rfl ?_
  refine v_load (v := (0, (u : Int))) (hz_X12_worth hT _ _ rfl) rfl rfl ?_
  refine v_load (v := (0, (v : Int))) (hz_X12_worth hT _ _ rfl) rfl rfl ?_
  refine v_call (w := 3) [some (2, 121), some (0, (u : Int)), some (0, (v : Int))] hO (hz_X12_worth hT _ _ rfl) rfl rfl ?_
  exact k0 
theorem qs_wo41 {D : zD} {T : zT} (hT : hTab T) (hO : vOK T) {N : Nat} {h : zH} {Q : zR → Prop} {P : PT} {j u v q : Nat} (hv0 : zHv h) (hR : rBk 0 P h) (hb : fB P) (hj : j < 3) (gq : gIn P q) (hn : gJ P q < 48) (eq : P 0 0 * (v : Int) + (u : Int) = ((gJ P q : Nat) : Int)) (bu : u < 8) (bv : v < 6) (lb : lB P)
    (k0 : ((P 3 (48 * j + q)) = 1) → Q (zset h 121 0 (0, 9), some (0, -1)))
    (k1 : ((P 3 (48 * j + q)) ≠ 1) → vP D T N 338 0 h [some (2, 121), some (0, (j : Int)), some (0, ((gJ P q : Nat) : Int)), none, none, none, none, none] [] (fun r1 => vP D T N 337 68 r1.1 [some (2, 121), some (0, (j : Int)), some (0, (u : Int)), some (0, (v : Int))] (zpush r1.2 []) Q)) :
    vP D T N 337 41 h [some (2, 121), some (0, (j : Int)), some (0, (u : Int)), some (0, (v : Int))] [(0, ((gJ P q : Nat) : Int)), (0, (j : Int)), (2, 121)] Q := by
  refine v_call (w := 3) [some (2, 121), some (0, (j : Int)), some (0, ((gJ P q : Nat) : Int))] hO (hz_X12_worth hT _ _ rfl) rfl rfl (rb_st hT hO ((j : Int)) j q rfl (by omega) gq hR hb ?_)
  show vP D T N 337 44 h [some (2, 121), some (0, (j : Int)), some (0, (u : Int)), some (0, (v : Int))] [(0, (P 3 (48 * j + q)))] _
  refine v_push (1) (hz_X12_worth hT _ _ rfl) rfl ?_
  refine v_ic (hz_X12_worth hT _ _ rfl) (fun hc1 => ?_) (fun hc1 => ?_)
  · have hc1 : (P 3 (48 * j + q)) = 1 := hc1
    refine v_load (v := (2, 121)) (hz_X12_worth hT _ _ rfl) rfl rfl ?_
    refine v_push (9) (hz_X12_worth hT _ _ rfl) rfl ?_
    refine v_call (w := 2) [some (2, 121), some (0, 9)] hO (hz_X12_worth hT _ _ rfl) rfl rfl ?_
    refine v_load (v := (2, 121)) (hz_X12_refuse hT _ _ rfl) rfl rfl ?_
    refine v_load (v := (0, 9)) (hz_X12_refuse hT _ _ rfl) rfl rfl ?_
    refine v_putf (r := 121) hO (hz_X12_refuse hT _ _ rfl) rfl (fun hf2 => ?_)
    refine v_push (-1) (hz_X12_refuse hT _ _ rfl) rfl ?_
    refine v_ret (hz_X12_refuse hT _ _ rfl) (Or.inl rfl) ?_
    show vP D T N 337 54 (zset h 121 0 (0, 9)) [some (2, 121), some (0, (j : Int)), some (0, (u : Int)), some (0, (v : Int))] [(0, -1)] _
    refine v_goto (hz_X12_worth hT _ _ rfl) ?_
    refine v_ret (hz_X12_worth hT _ _ rfl) (Or.inl rfl) ?_
    exact k0 hc1
  · have hc1 : (P 3 (48 * j + q)) ≠ 1 := hc1
    refine v_load (v := (2, 121)) (hz_X12_worth hT _ _ rfl) rfl rfl ?_
    refine v_load (v := (0, (j : Int))) (hz_X12_worth hT _ _ rfl) rfl rfl ?_
    refine v_load (v := (2, 121)) (hz_X12_worth hT _ _ rfl) rfl rfl ?_
    refine v_load (v := (0, (u : Int))) (hz_X12_worth hT _ _ rfl) rfl rfl ?_
    refine v_load (v := (0, (v : Int))) (hz_X12_worth hT _ _ rfl) rfl rfl ?_
    refine v_call (w := 3) [some (2, 121), some (0, (u : Int)), some (0, (v : Int))] hO (hz_X12_worth hT _ _ rfl) rfl rfl (cb_eq2 eq (rb_at2 hT hO ((u : Int)) ((v : Int)) (by omega) (by omega) hR.w lb) ?_)
    show vP D T N 337 65 h [some (2, 121), some (0, (j : Int)), some (0, (u : Int)), some (0, (v : Int))] [(0, ((gJ P q : Nat) : Int)), (0, (j : Int)), (2, 121)] _
    refine v_call (w := 8) [some (2, 121), some (0, (j : Int)), some (0, ((gJ P q : Nat) : Int)), none, none, none, none, none] hO (hz_X12_worth hT _ _ rfl) rfl rfl ?_
    exact k1 hc1
theorem qs_wo68 {D : zD} {T : zT} (hT : hTab T) (hO : vOK T) {N : Nat} {h : zH} {Q : zR → Prop} {j u v : Nat} (w : Int) (hv0 : zHv h)
    (k0 : Q (h, some (0, w))) :
    vP D T N 337 68 h [some (2, 121), some (0, (j : Int)), some (0, (u : Int)), some (0, (v : Int))] [(0, w)] Q := by
  refine v_ret (hz_X12_worth hT _ _ rfl) (Or.inl rfl) ?_
  exact k0 
theorem qs_mw0 {D : zD} {T : zT} (hT : hTab T) (hO : vOK T) {N : Nat} {h : zH} {Q : zR → Prop} {P : PT} (x y : Int) (hv0 : zHv h) (p0 : h 126 0 = (0, P 0 0)) (p1 : h 126 1 = (0, P 0 1)) (p2 : h 126 2 = (0, P 0 2)) (p3 : h 126 3 = (0, P 0 3)) (lb : (0 ≤ P 0 0 ∧ P 0 0 ≤ 8) ∧ (0 ≤ P 0 1 ∧ P 0 1 ≤ 6) ∧ (0 ≤ P 0 2 ∧ P 0 2 ≤ 3) ∧ (0 ≤ P 0 3 ∧ P 0 3 ≤ 6))
    (k0 : (x < 0) → Q (zset (zset (zset h 121 1 (0, 0)) 121 0 (0, 0)) 121 0 (0, 2), some (0, -1)))
    (k1 : (0 ≤ x) → (((P 0 2) - 1) < x) → Q (zset (zset (zset h 121 1 (0, 0)) 121 0 (0, 0)) 121 0 (0, 2), some (0, -1)))
    (k2 : (0 ≤ x) → (x ≤ ((P 0 2) - 1)) → (y < 0) → Q (zset (zset (zset h 121 1 (0, 0)) 121 0 (0, 0)) 121 0 (0, 5), some (0, -1)))
    (k3 : (0 ≤ x) → (x ≤ ((P 0 2) - 1)) → (0 ≤ y) → (1 < y) → Q (zset (zset (zset h 121 1 (0, 0)) 121 0 (0, 0)) 121 0 (0, 5), some (0, -1)))
    (k4 : (0 ≤ x) → (x ≤ ((P 0 2) - 1)) → (0 ≤ y) → (y ≤ 1) → vP D T N 278 48 (zset (zset h 121 1 (0, 0)) 121 0 (0, 0)) [some (2, 121), some (0, x), some (0, y), some (0, -1), some (0, -1), some (0, 0)] [] Q) :
    vP D T N 278 0 h [some (2, 121), some (0, x), some (0, y), none, none, none] [] Q := by
  refine v_load (v := (2, 121)) (hz_X12_mostWorth hT _ _ rfl) rfl rfl ?_
  refine v_push (0) (hz_X12_mostWorth hT _ _ rfl) rfl ?_
  refine v_putf (r := 121) hO (hz_X12_mostWorth hT _ _ rfl) rfl (fun hf1 => ?_)
  refine v_load (v := (2, 121)) (hz_X12_mostWorth hT _ _ rfl) rfl rfl ?_
  refine v_push (0) (hz_X12_mostWorth hT _ _ rfl) rfl ?_
  refine v_putf (r := 121) hO (hz_X12_mostWorth hT _ _ rfl) rfl (fun hf2 => ?_)
  refine v_load (v := (2, 121)) (hz_X12_mostWorth hT _ _ rfl) rfl rfl ?_
  refine v_load (v := (0, x)) (hz_X12_mostWorth hT _ _ rfl) rfl rfl ?_
  refine v_call (w := 2) [some (2, 121), some (0, x)] hO (hz_X12_mostWorth hT _ _ rfl) rfl rfl ?_
  refine v_load (v := (0, x)) (hz_X12_isCopy hT _ _ rfl) rfl rfl ?_
  refine v_i2l (hz_X12_isCopy hT _ _ rfl) ?_
  refine v_push (0) (hz_X12_isCopy hT _ _ rfl) rfl ?_
  refine v_load (v := (2, 121)) (hz_X12_isCopy hT _ _ rfl) rfl rfl ?_
  refine v_getR (c := 126) (r := 121) (hz_X12_isCopy hT _ _ rfl) rfl rfl rfl ?_
  refine v_push (2) (hz_X12_isCopy hT _ _ rfl) rfl ?_
  refine v_aldV (v := (0, (P 0 2))) (r := 126) (hz_X12_isCopy hT _ _ rfl) rfl rfl (fun _ _ _ => (Eq.trans (Eq.trans (zset_ne (fun c => absurd c.1 (by decide))) (zset_ne (fun c => absurd c.1 (by decide)))) (p2))) (fun ha3 hb4 => ?_)
  refine v_push (1) (hz_X12_isCopy hT _ _ rfl) rfl ?_
  refine v_bin (w := ((P 0 2) - 1)) (hz_X12_isCopy hT _ _ rfl) (hq_sub (by omega) (by omega)) ?_
  refine v_i2l (hz_X12_isCopy hT _ _ rfl) ?_
  refine v_call (w := 6) [some (1, x), none, some (1, 0), none, some (1, ((P 0 2) - 1)), none] hO (hz_X12_isCopy hT _ _ rfl) rfl rfl ?_
  refine v_load (v := (1, x)) (hz_X12_isIn hT _ _ rfl) rfl rfl ?_
  refine v_load (v := (1, 0)) (hz_X12_isIn hT _ _ rfl) rfl rfl ?_
  refine v_lif (hz_X12_isIn hT _ _ rfl) (hz_X12_isIn hT _ _ rfl) (fun hc5 => ?_) (fun hc5 => ?_)
  · have hc5 : x < 0 := hc5
    refine v_push (0) (hz_X12_isIn hT _ _ rfl) rfl ?_
    refine v_ret (hz_X12_isIn hT _ _ rfl) (Or.inl rfl) ?_
    show vP D T N 248 15 (zset (zset h 121 1 (0, 0)) 121 0 (0, 0)) [some (2, 121), some (0, x)] [(0, 0)] _
    refine v_ret (hz_X12_isCopy hT _ _ rfl) (Or.inl rfl) ?_
    show vP D T N 278 15 (zset (zset h 121 1 (0, 0)) 121 0 (0, 0)) [some (2, 121), some (0, x), some (0, y), none, none, none] [(0, 0)] _
    refine v_if (hz_X12_mostWorth hT _ _ rfl) (fun _ => ?_) (fun hc6 => absurd (show (0 : Int) = 0 from (by omega)) hc6)
    refine v_load (v := (2, 121)) (hz_X12_mostWorth hT _ _ rfl) rfl rfl ?_
    refine v_push (2) (hz_X12_mostWorth hT _ _ rfl) rfl ?_
    refine v_call (w := 2) [some (2, 121), some (0, 2)] hO (hz_X12_mostWorth hT _ _ rfl) rfl rfl ?_
    refine v_load (v := (2, 121)) (hz_X12_refuse hT _ _ rfl) rfl rfl ?_
    refine v_load (v := (0, 2)) (hz_X12_refuse hT _ _ rfl) rfl rfl ?_
    refine v_putf (r := 121) hO (hz_X12_refuse hT _ _ rfl) rfl (fun hf7 => ?_)
    refine v_push (-1) (hz_X12_refuse hT _ _ rfl) rfl ?_
    refine v_ret (hz_X12_refuse hT _ _ rfl) (Or.inl rfl) ?_
    show vP D T N 278 23 (zset (zset (zset h 121 1 (0, 0)) 121 0 (0, 0)) 121 0 (0, 2)) [some (2, 121), some (0, x), some (0, y), none, none, none] [(0, -1)] _
    refine v_ret (hz_X12_mostWorth hT _ _ rfl) (Or.inl rfl) ?_
    exact k0 hc5
  · have hc5 : 0 ≤ x := Int.not_lt.mp hc5
    refine v_load (v := (1, x)) (hz_X12_isIn hT _ _ rfl) rfl rfl ?_
    refine v_load (v := (1, ((P 0 2) - 1))) (hz_X12_isIn hT _ _ rfl) rfl rfl ?_
    refine v_lif (hz_X12_isIn hT _ _ rfl) (hz_X12_isIn hT _ _ rfl) (fun hc8 => ?_) (fun hc8 => ?_)
    · have hc8 : ((P 0 2) - 1) < x := hc8
      refine v_push (0) (hz_X12_isIn hT _ _ rfl) rfl ?_
      refine v_ret (hz_X12_isIn hT _ _ rfl) (Or.inl rfl) ?_
      show vP D T N 248 15 (zset (zset h 121 1 (0, 0)) 121 0 (0, 0)) [some (2, 121), some (0, x)] [(0, 0)] _
      refine v_ret (hz_X12_isCopy hT _ _ rfl) (Or.inl rfl) ?_
      show vP D T N 278 15 (zset (zset h 121 1 (0, 0)) 121 0 (0, 0)) [some (2, 121), some (0, x), some (0, y), none, none, none] [(0, 0)] _
      refine v_if (hz_X12_mostWorth hT _ _ rfl) (fun _ => ?_) (fun hc9 => absurd (show (0 : Int) = 0 from (by omega)) hc9)
      refine v_load (v := (2, 121)) (hz_X12_mostWorth hT _ _ rfl) rfl rfl ?_
      refine v_push (2) (hz_X12_mostWorth hT _ _ rfl) rfl ?_
      refine v_call (w := 2) [some (2, 121), some (0, 2)] hO (hz_X12_mostWorth hT _ _ rfl) rfl rfl ?_
      refine v_load (v := (2, 121)) (hz_X12_refuse hT _ _ rfl) rfl rfl ?_
      refine v_load (v := (0, 2)) (hz_X12_refuse hT _ _ rfl) rfl rfl ?_
      refine v_putf (r := 121) hO (hz_X12_refuse hT _ _ rfl) rfl (fun hf10 => ?_)
      refine v_push (-1) (hz_X12_refuse hT _ _ rfl) rfl ?_
      refine v_ret (hz_X12_refuse hT _ _ rfl) (Or.inl rfl) ?_
      show vP D T N 278 23 (zset (zset (zset h 121 1 (0, 0)) 121 0 (0, 0)) 121 0 (0, 2)) [some (2, 121), some (0, x), some (0, y), none, none, none] [(0, -1)] _
      refine v_ret (hz_X12_mostWorth hT _ _ rfl) (Or.inl rfl) ?_
      exact k1 hc5 hc8
    · have hc8 : x ≤ ((P 0 2) - 1) := Int.not_lt.mp hc8
      refine v_push (1) (hz_X12_isIn hT _ _ rfl) rfl ?_
      refine v_goto (hz_X12_isIn hT _ _ rfl) ?_
      refine v_ret (hz_X12_isIn hT _ _ rfl) (Or.inl rfl) ?_
      show vP D T N 248 15 (zset (zset h 121 1 (0, 0)) 121 0 (0, 0)) [some (2, 121), some (0, x)] [(0, 1)] _
      refine v_ret (hz_X12_isCopy hT _ _ rfl) (Or.inl rfl) ?_
      show vP D T N 278 15 (zset (zset h 121 1 (0, 0)) 121 0 (0, 0)) [some (2, 121), some (0, x), some (0, y), none, none, none] [(0, 1)] _
      refine v_if (hz_X12_mostWorth hT _ _ rfl) (fun hc11 => absurd (show (1 : Int) = 0 from hc11) (by omega)) (fun _ => ?_)
      refine v_load (v := (0, y)) (hz_X12_mostWorth hT _ _ rfl) rfl rfl ?_
      refine v_i2l (hz_X12_mostWorth hT _ _ rfl) ?_
      refine v_push (0) (hz_X12_mostWorth hT _ _ rfl) rfl ?_
      refine v_push (1) (hz_X12_mostWorth hT _ _ rfl) rfl ?_
      refine v_call (w := 6) [some (1, y), none, some (1, 0), none, some (1, 1), none] hO (hz_X12_mostWorth hT _ _ rfl) rfl rfl ?_
      refine v_load (v := (1, y)) (hz_X12_isIn hT _ _ rfl) rfl rfl ?_
      refine v_load (v := (1, 0)) (hz_X12_isIn hT _ _ rfl) rfl rfl ?_
      refine v_lif (hz_X12_isIn hT _ _ rfl) (hz_X12_isIn hT _ _ rfl) (fun hc12 => ?_) (fun hc12 => ?_)
      · have hc12 : y < 0 := hc12
        refine v_push (0) (hz_X12_isIn hT _ _ rfl) rfl ?_
        refine v_ret (hz_X12_isIn hT _ _ rfl) (Or.inl rfl) ?_
        show vP D T N 278 31 (zset (zset h 121 1 (0, 0)) 121 0 (0, 0)) [some (2, 121), some (0, x), some (0, y), none, none, none] [(0, 0)] _
        refine v_if (hz_X12_mostWorth hT _ _ rfl) (fun _ => ?_) (fun hc13 => absurd (show (0 : Int) = 0 from (by omega)) hc13)
        refine v_load (v := (2, 121)) (hz_X12_mostWorth hT _ _ rfl) rfl rfl ?_
        refine v_push (5) (hz_X12_mostWorth hT _ _ rfl) rfl ?_
        refine v_call (w := 2) [some (2, 121), some (0, 5)] hO (hz_X12_mostWorth hT _ _ rfl) rfl rfl ?_
        refine v_load (v := (2, 121)) (hz_X12_refuse hT _ _ rfl) rfl rfl ?_
        refine v_load (v := (0, 5)) (hz_X12_refuse hT _ _ rfl) rfl rfl ?_
        refine v_putf (r := 121) hO (hz_X12_refuse hT _ _ rfl) rfl (fun hf14 => ?_)
        refine v_push (-1) (hz_X12_refuse hT _ _ rfl) rfl ?_
        refine v_ret (hz_X12_refuse hT _ _ rfl) (Or.inl rfl) ?_
        show vP D T N 278 39 (zset (zset (zset h 121 1 (0, 0)) 121 0 (0, 0)) 121 0 (0, 5)) [some (2, 121), some (0, x), some (0, y), none, none, none] [(0, -1)] _
        refine v_ret (hz_X12_mostWorth hT _ _ rfl) (Or.inl rfl) ?_
        exact k2 hc5 hc8 hc12
      · have hc12 : 0 ≤ y := Int.not_lt.mp hc12
        refine v_load (v := (1, y)) (hz_X12_isIn hT _ _ rfl) rfl rfl ?_
        refine v_load (v := (1, 1)) (hz_X12_isIn hT _ _ rfl) rfl rfl ?_
        refine v_lif (hz_X12_isIn hT _ _ rfl) (hz_X12_isIn hT _ _ rfl) (fun hc15 => ?_) (fun hc15 => ?_)
        · have hc15 : 1 < y := hc15
          refine v_push (0) (hz_X12_isIn hT _ _ rfl) rfl ?_
          refine v_ret (hz_X12_isIn hT _ _ rfl) (Or.inl rfl) ?_
          show vP D T N 278 31 (zset (zset h 121 1 (0, 0)) 121 0 (0, 0)) [some (2, 121), some (0, x), some (0, y), none, none, none] [(0, 0)] _
          refine v_if (hz_X12_mostWorth hT _ _ rfl) (fun _ => ?_) (fun hc16 => absurd (show (0 : Int) = 0 from (by omega)) hc16)
          refine v_load (v := (2, 121)) (hz_X12_mostWorth hT _ _ rfl) rfl rfl ?_
          refine v_push (5) (hz_X12_mostWorth hT _ _ rfl) rfl ?_
          refine v_call (w := 2) [some (2, 121), some (0, 5)] hO (hz_X12_mostWorth hT _ _ rfl) rfl rfl ?_
          refine v_load (v := (2, 121)) (hz_X12_refuse hT _ _ rfl) rfl rfl ?_
          refine v_load (v := (0, 5)) (hz_X12_refuse hT _ _ rfl) rfl rfl ?_
          refine v_putf (r := 121) hO (hz_X12_refuse hT _ _ rfl) rfl (fun hf17 => ?_)
          refine v_push (-1) (hz_X12_refuse hT _ _ rfl) rfl ?_
          refine v_ret (hz_X12_refuse hT _ _ rfl) (Or.inl rfl) ?_
          show vP D T N 278 39 (zset (zset (zset h 121 1 (0, 0)) 121 0 (0, 0)) 121 0 (0, 5)) [some (2, 121), some (0, x), some (0, y), none, none, none] [(0, -1)] _
          refine v_ret (hz_X12_mostWorth hT _ _ rfl) (Or.inl rfl) ?_
          exact k3 hc5 hc8 hc12 hc15
        · have hc15 : y ≤ 1 := Int.not_lt.mp hc15
          refine v_push (1) (hz_X12_isIn hT _ _ rfl) rfl ?_
          refine v_goto (hz_X12_isIn hT _ _ rfl) ?_
          refine v_ret (hz_X12_isIn hT _ _ rfl) (Or.inl rfl) ?_
          show vP D T N 278 31 (zset (zset h 121 1 (0, 0)) 121 0 (0, 0)) [some (2, 121), some (0, x), some (0, y), none, none, none] [(0, 1)] _
          refine v_if (hz_X12_mostWorth hT _ _ rfl) (fun hc18 => absurd (show (1 : Int) = 0 from hc18) (by omega)) (fun _ => ?_)
          refine v_push (-1) (hz_X12_mostWorth hT _ _ rfl) rfl ?_
          refine v_store1 [some (2, 121), some (0, x), some (0, y), some (0, -1), none, none] (hz_X12_mostWorth hT _ _ rfl) ⟨rfl, Nat.ne_of_beq_eq_false rfl⟩ (Nat.le_of_ble_eq_true rfl) rfl ?_
          refine v_push (-1) (hz_X12_mostWorth hT _ _ rfl) rfl ?_
          refine v_store1 [some (2, 121), some (0, x), some (0, y), some (0, -1), some (0, -1), none] (hz_X12_mostWorth hT _ _ rfl) ⟨rfl, Nat.ne_of_beq_eq_false rfl⟩ (Nat.le_of_ble_eq_true rfl) rfl ?_
          refine v_push (0) (hz_X12_mostWorth hT _ _ rfl) rfl ?_
          refine v_store1 [some (2, 121), some (0, x), some (0, y), some (0, -1), some (0, -1), some (0, 0)] (hz_X12_mostWorth hT _ _ rfl) ⟨rfl, Nat.ne_of_beq_eq_false rfl⟩ (Nat.le_of_ble_eq_true rfl) rfl ?_
          exact k4 hc5 hc8 hc12 hc15
theorem qs_mw48 {D : zD} {T : zT} (hT : hTab T) (hO : vOK T) {N : Nat} {h : zH} {Q : zR → Prop} {P : PT} {j q : Nat} (y b w : Int) (hv0 : zHv h) (p0 : h 126 0 = (0, P 0 0)) (p1 : h 126 1 = (0, P 0 1)) (hb : fB P) (gq : gIn P q) (hq : gJ P q < 48) (hj : j < 3) (hlt : ((gJ P q : Nat) : Int) < ((P 0 0) * (P 0 1)))
    (k0 : vP D T N 251 0 h [some (2, 121), some (0, (j : Int)), some (0, ((gJ P q : Nat) : Int))] [] (fun r1 => vP D T N 278 64 r1.1 [some (2, 121), some (0, (j : Int)), some (0, y), some (0, b), some (0, w), some (0, ((gJ P q : Nat) : Int))] (zpush r1.2 []) Q)) :
    vP D T N 278 48 h [some (2, 121), some (0, (j : Int)), some (0, y), some (0, b), some (0, w), some (0, ((gJ P q : Nat) : Int))] [] Q := by
  refine v_load (v := (0, ((gJ P q : Nat) : Int))) (hz_X12_mostWorth hT _ _ rfl) rfl rfl ?_
  refine v_load (v := (2, 121)) (hz_X12_mostWorth hT _ _ rfl) rfl rfl ?_
  refine v_call (w := 1) [some (2, 121)] hO (hz_X12_mostWorth hT _ _ rfl) rfl rfl (rb_cells hT hO p0 p1 hb.1 ?_)
  show vP D T N 278 54 h [some (2, 121), some (0, (j : Int)), some (0, y), some (0, b), some (0, w), some (0, ((gJ P q : Nat) : Int))] [(0, ((P 0 0) * (P 0 1))), (0, ((gJ P q : Nat) : Int))] _
  refine v_ic (hz_X12_mostWorth hT _ _ rfl) (fun _ => ?_) (fun hc1 => absurd (show ((gJ P q : Nat) : Int) < ((P 0 0) * (P 0 1)) from hlt) hc1)
  refine v_load (v := (2, 121)) (hz_X12_mostWorth hT _ _ rfl) rfl rfl ?_
  refine v_load (v := (0, (j : Int))) (hz_X12_mostWorth hT _ _ rfl) rfl rfl ?_
  refine v_load (v := (0, ((gJ P q : Nat) : Int))) (hz_X12_mostWorth hT _ _ rfl) rfl rfl ?_
  refine v_call (w := 3) [some (2, 121), some (0, (j : Int)), some (0, ((gJ P q : Nat) : Int))] hO (hz_X12_mostWorth hT _ _ rfl) rfl rfl ?_
  exact k0 
theorem qs_mw48x {D : zD} {T : zT} (hT : hTab T) (hO : vOK T) {N : Nat} {h : zH} {Q : zR → Prop} {P : PT} {j n : Nat} (y b w : Int) (hv0 : zHv h) (p0 : h 126 0 = (0, P 0 0)) (p1 : h 126 1 = (0, P 0 1)) (hb : fB P) (hge : ((P 0 0) * (P 0 1)) ≤ (n : Int))
    (k0 : vP D T N 278 100 h [some (2, 121), some (0, (j : Int)), some (0, y), some (0, b), some (0, w), some (0, (n : Int))] [] Q) :
    vP D T N 278 48 h [some (2, 121), some (0, (j : Int)), some (0, y), some (0, b), some (0, w), some (0, (n : Int))] [] Q := by
  refine v_load (v := (0, (n : Int))) (hz_X12_mostWorth hT _ _ rfl) rfl rfl ?_
  refine v_load (v := (2, 121)) (hz_X12_mostWorth hT _ _ rfl) rfl rfl ?_
  refine v_call (w := 1) [some (2, 121)] hO (hz_X12_mostWorth hT _ _ rfl) rfl rfl (rb_cells hT hO p0 p1 hb.1 ?_)
  show vP D T N 278 54 h [some (2, 121), some (0, (j : Int)), some (0, y), some (0, b), some (0, w), some (0, (n : Int))] [(0, ((P 0 0) * (P 0 1))), (0, (n : Int))] _
  refine v_ic (hz_X12_mostWorth hT _ _ rfl) (fun hc1 => absurd (show (n : Int) < ((P 0 0) * (P 0 1)) from hc1) (by omega)) (fun _ => ?_)
  exact k0 
theorem qs_mw64n {D : zD} {T : zT} (hT : hTab T) (hO : vOK T) {N : Nat} {h : zH} {Q : zR → Prop} {P : PT} {j q : Nat} (y b w : Int) (hv0 : zHv h) (hq : gJ P q < 48)
    (k0 : vP D T N 278 48 h [some (2, 121), some (0, (j : Int)), some (0, y), some (0, b), some (0, w), some (0, (((gJ P q : Nat) : Int) + 1))] [] Q) :
    vP D T N 278 64 h [some (2, 121), some (0, (j : Int)), some (0, y), some (0, b), some (0, w), some (0, ((gJ P q : Nat) : Int))] [(0, 0)] Q := by
  refine v_if (hz_X12_mostWorth hT _ _ rfl) (fun _ => ?_) (fun hc1 => absurd (show (0 : Int) = 0 from (by omega)) hc1)
  refine v_iinc (x := ((gJ P q : Nat) : Int)) (u := 1) (w := (((gJ P q : Nat) : Int) + 1)) [some (2, 121), some (0, (j : Int)), some (0, y), some (0, b), some (0, w), some (0, (((gJ P q : Nat) : Int) + 1))] (hz_X12_mostWorth hT _ _ rfl) rfl rfl (Nat.le_of_ble_eq_true rfl) (vz_inc (by omega) (by omega)) rfl ?_
  refine v_goto (hz_X12_mostWorth hT _ _ rfl) ?_
  exact k0 
theorem qs_mw64y {D : zD} {T : zT} (hT : hTab T) (hO : vOK T) {N : Nat} {h : zH} {Q : zR → Prop} {P : PT} {j q : Nat} (y b w : Int) (hv0 : zHv h)
    (k0 : vP D T N 338 0 h [some (2, 121), some (0, (j : Int)), some (0, ((gJ P q : Nat) : Int)), none, none, none, none, none] [] (fun r1 => vP D T N 278 74 r1.1 [some (2, 121), some (0, (j : Int)), some (0, y), some (0, b), some (0, w), some (0, ((gJ P q : Nat) : Int))] (zpush r1.2 []) Q)) :
    vP D T N 278 64 h [some (2, 121), some (0, (j : Int)), some (0, y), some (0, b), some (0, w), some (0, ((gJ P q : Nat) : Int))] [(0, 1)] Q := by
  refine v_if (hz_X12_mostWorth hT _ _ rfl) (fun hc1 => absurd (show (1 : Int) = 0 from hc1) (by omega)) (fun _ => ?_)
  refine v_load (v := (2, 121)) (hz_X12_mostWorth hT _ _ rfl) rfl rfl ?_
  refine v_load (v := (0, (j : Int))) (hz_X12_mostWorth hT _ _ rfl) rfl rfl ?_
  refine v_load (v := (0, ((gJ P q : Nat) : Int))) (hz_X12_mostWorth hT _ _ rfl) rfl rfl ?_
  refine v_call (w := 8) [some (2, 121), some (0, (j : Int)), some (0, ((gJ P q : Nat) : Int)), none, none, none, none, none] hO (hz_X12_mostWorth hT _ _ rfl) rfl rfl ?_
  exact k0 
theorem qs_mw74 {D : zD} {T : zT} (hT : hTab T) (hO : vOK T) {N : Nat} {h : zH} {Q : zR → Prop} {P : PT} {j q : Nat} (y b w v : Int) (hv0 : zHv h) (hq : gJ P q < 48)
    (k0 : (w < v) → vP D T N 338 0 h [some (2, 121), some (0, (j : Int)), some (0, ((gJ P q : Nat) : Int)), none, none, none, none, none] [] (fun r1 => vP D T N 278 89 r1.1 [some (2, 121), some (0, (j : Int)), some (0, y), some (0, b), some (0, w), some (0, ((gJ P q : Nat) : Int))] (zpush r1.2 []) Q))
    (k1 : (v ≤ w) → vP D T N 278 48 h [some (2, 121), some (0, (j : Int)), some (0, y), some (0, b), some (0, w), some (0, (((gJ P q : Nat) : Int) + 1))] [] Q) :
    vP D T N 278 74 h [some (2, 121), some (0, (j : Int)), some (0, y), some (0, b), some (0, w), some (0, ((gJ P q : Nat) : Int))] [(0, v)] Q := by
  refine v_load (v := (0, w)) (hz_X12_mostWorth hT _ _ rfl) rfl rfl ?_
  refine v_ic (hz_X12_mostWorth hT _ _ rfl) (fun hc1 => ?_) (fun hc1 => ?_)
  · have hc1 : w < v := hc1
    refine v_load (v := (2, 121)) (hz_X12_mostWorth hT _ _ rfl) rfl rfl ?_
    refine v_load (v := (0, (j : Int))) (hz_X12_mostWorth hT _ _ rfl) rfl rfl ?_
    refine v_load (v := (0, ((gJ P q : Nat) : Int))) (hz_X12_mostWorth hT _ _ rfl) rfl rfl ?_
    refine v_call (w := 8) [some (2, 121), some (0, (j : Int)), some (0, ((gJ P q : Nat) : Int)), none, none, none, none, none] hO (hz_X12_mostWorth hT _ _ rfl) rfl rfl ?_
    exact k0 hc1
  · have hc1 : v ≤ w := Int.not_lt.mp hc1
    refine v_goto (hz_X12_mostWorth hT _ _ rfl) ?_
    refine v_iinc (x := ((gJ P q : Nat) : Int)) (u := 1) (w := (((gJ P q : Nat) : Int) + 1)) [some (2, 121), some (0, (j : Int)), some (0, y), some (0, b), some (0, w), some (0, (((gJ P q : Nat) : Int) + 1))] (hz_X12_mostWorth hT _ _ rfl) rfl rfl (Nat.le_of_ble_eq_true rfl) (vz_inc (by omega) (by omega)) rfl ?_
    refine v_goto (hz_X12_mostWorth hT _ _ rfl) ?_
    exact k1 hc1
theorem qs_mw89 {D : zD} {T : zT} (hT : hTab T) (hO : vOK T) {N : Nat} {h : zH} {Q : zR → Prop} {P : PT} {j q : Nat} (y b w v : Int) (hv0 : zHv h) (hq : gJ P q < 48)
    (k0 : vP D T N 278 48 h [some (2, 121), some (0, (j : Int)), some (0, y), some (0, ((gJ P q : Nat) : Int)), some (0, v), some (0, (((gJ P q : Nat) : Int) + 1))] [] Q) :
    vP D T N 278 89 h [some (2, 121), some (0, (j : Int)), some (0, y), some (0, b), some (0, w), some (0, ((gJ P q : Nat) : Int))] [(0, v)] Q := by
  refine v_store1 [some (2, 121), some (0, (j : Int)), some (0, y), some (0, b), some (0, v), some (0, ((gJ P q : Nat) : Int))] (hz_X12_mostWorth hT _ _ rfl) ⟨rfl, Nat.ne_of_beq_eq_false rfl⟩ (Nat.le_of_ble_eq_true rfl) rfl ?_
  refine v_load (v := (0, ((gJ P q : Nat) : Int))) (hz_X12_mostWorth hT _ _ rfl) rfl rfl ?_
  refine v_store1 [some (2, 121), some (0, (j : Int)), some (0, y), some (0, ((gJ P q : Nat) : Int)), some (0, v), some (0, ((gJ P q : Nat) : Int))] (hz_X12_mostWorth hT _ _ rfl) ⟨rfl, Nat.ne_of_beq_eq_false rfl⟩ (Nat.le_of_ble_eq_true rfl) rfl ?_
  refine v_iinc (x := ((gJ P q : Nat) : Int)) (u := 1) (w := (((gJ P q : Nat) : Int) + 1)) [some (2, 121), some (0, (j : Int)), some (0, y), some (0, ((gJ P q : Nat) : Int)), some (0, v), some (0, (((gJ P q : Nat) : Int) + 1))] (hz_X12_mostWorth hT _ _ rfl) rfl rfl (Nat.le_of_ble_eq_true rfl) (vz_inc (by omega) (by omega)) rfl ?_
  refine v_goto (hz_X12_mostWorth hT _ _ rfl) ?_
  exact k0 
theorem qs_mw100 {D : zD} {T : zT} (hT : hTab T) (hO : vOK T) {N : Nat} {h : zH} {Q : zR → Prop} {j n : Nat} (y b w : Int) (hv0 : zHv h)
    (k0 : (b < 0) → Q (zset h 121 0 (0, 8), some (0, -1)))
    (k1 : (0 ≤ b) → (y = 0) → Q (h, some (0, b)))
    (k2 : (0 ≤ b) → (y ≠ 0) → Q (h, some (0, w))) :
    vP D T N 278 100 h [some (2, 121), some (0, (j : Int)), some (0, y), some (0, b), some (0, w), some (0, (n : Int))] [] Q := by
  refine v_load (v := (0, b)) (hz_X12_mostWorth hT _ _ rfl) rfl rfl ?_
  refine v_if (hz_X12_mostWorth hT _ _ rfl) (fun hc1 => ?_) (fun hc1 => ?_)
  · have hc1 : b < 0 := hc1
    refine v_load (v := (2, 121)) (hz_X12_mostWorth hT _ _ rfl) rfl rfl ?_
    refine v_push (8) (hz_X12_mostWorth hT _ _ rfl) rfl ?_
    refine v_call (w := 2) [some (2, 121), some (0, 8)] hO (hz_X12_mostWorth hT _ _ rfl) rfl rfl ?_
    refine v_load (v := (2, 121)) (hz_X12_refuse hT _ _ rfl) rfl rfl ?_
    refine v_load (v := (0, 8)) (hz_X12_refuse hT _ _ rfl) rfl rfl ?_
    refine v_putf (r := 121) hO (hz_X12_refuse hT _ _ rfl) rfl (fun hf2 => ?_)
    refine v_push (-1) (hz_X12_refuse hT _ _ rfl) rfl ?_
    refine v_ret (hz_X12_refuse hT _ _ rfl) (Or.inl rfl) ?_
    show vP D T N 278 110 (zset h 121 0 (0, 8)) [some (2, 121), some (0, (j : Int)), some (0, y), some (0, b), some (0, w), some (0, (n : Int))] [(0, -1)] _
    refine v_goto (hz_X12_mostWorth hT _ _ rfl) ?_
    refine v_ret (hz_X12_mostWorth hT _ _ rfl) (Or.inl rfl) ?_
    exact k0 hc1
  · have hc1 : 0 ≤ b := Int.not_lt.mp hc1
    refine v_load (v := (0, y)) (hz_X12_mostWorth hT _ _ rfl) rfl rfl ?_
    refine v_if (hz_X12_mostWorth hT _ _ rfl) (fun hc3 => ?_) (fun hc3 => ?_)
    · have hc3 : y = 0 := hc3
      refine v_load (v := (0, b)) (hz_X12_mostWorth hT _ _ rfl) rfl rfl ?_
      refine v_goto (hz_X12_mostWorth hT _ _ rfl) ?_
      refine v_ret (hz_X12_mostWorth hT _ _ rfl) (Or.inl rfl) ?_
      exact k1 hc1 hc3
    · have hc3 : y ≠ 0 := hc3
      refine v_load (v := (0, w)) (hz_X12_mostWorth hT _ _ rfl) rfl rfl ?_
      refine v_ret (hz_X12_mostWorth hT _ _ rfl) (Or.inl rfl) ?_
      exact k2 hc1 hc3
/-! worth, mostWorth: the reference -/
noncomputable def wtS (P : PT) (j q : Nat) : Nat → Int
  | 0 => 0
  | m + 1 => wtS P j q m + (if P 8 m = (j : Int) ∧ mC P m ≠ -1 then (if mC (pSt P j q 1) m = -1 then 100 else mC (pSt P j q 1) m - mC P m) else 0)
noncomputable def wtV (P : PT) (j q : Nat) : Int := wtS P j q (P 0 3).toNat
def wqF (h g : zH) : Prop := ∀ a b, ¬ (a = 130 ∨ (a = 126 ∧ 101 ≤ b ∧ b < 245)) → g a b = h a b
theorem wqF.rfl {h : zH} : wqF h h := fun _ _ _ => Eq.refl _
theorem wqF.trans {h g g2 : zH} (f : wqF h g) (f2 : wqF g g2) : wqF h g2 := fun a b hn => (f2 a b hn).trans (f a b hn)
theorem wqF.st {j q : Nat} {P : PT} {v : zV} {h : zH} (lb : lB P) (hj : j < 3) (gq : gIn P q) : wqF h (zset h 126 ((101 + (48 * (j : Int))) + ((gJ P q : Nat) : Int)).toNat v) := fun a b hn => by
  have := gJ_lt lb gq
  exact zset_ne (fun e => hn (by omega))
theorem rx_wtL {D : zD} {T : zT} (hT : hTab T) (hO : vOK T) {N : Nat} {Q : zR → Prop} {P : PT} {j q : Nat} (hb : fB P) (hj : j < 3) (gq : gIn P q) : ∀ (r m : Nat) (n : Int) (h : zH) (o6 o7 : Option zV), (m : Int) + (r : Int) = P 0 3 → rBk 0 P h → n = wtS P j q m → (-(1000000 * (m : Int)) ≤ n ∧ n ≤ 1000000 * (m : Int)) → (∀ g : zH, rBk 0 P g → wqF h g → Q (g, some (0, wtV P j q))) → vP D T N 338 13 h [some (2, 121), some (0, (j : Int)), some (0, ((gJ P q : Nat) : Int)), some (0, n), some (0, P 3 (48 * j + q)), some (0, (m : Int)), o6, o7] [] Q
  | 0, m, n, h, o6, o7, hm, hR, en, bd, k => by
    have e : n = wtV P j q := by
      rw [en]
      unfold wtV
      rw [show (P 0 3).toNat = m from by omega]
    exact vP_dn (vP_hv (fun hv => qr_wt9 hT hO n _ o6 o7 hv hR.m (by omega) (by rw [e]; exact k h hR wqF.rfl)))
  | r + 1, m, n, h, o6, o7, hm, hR, en, bd, k => by
    have lb := hb.1
    have lj := gJ_lt lb gq
    have h3 : (m : Int) < P 0 3 := by omega
    have m6 : m < 6 := by have := lb.2.2.2.2; omega
    have b1 : fB (pSt P j q 1) := hb.s3 (by decide)
    have s0 : ¬ (P 8 m = (j : Int) ∧ mC P m ≠ -1) → wtS P j q (m + 1) = wtS P j q m := fun c => by
      show wtS P j q m + (if P 8 m = (j : Int) ∧ mC P m ≠ -1 then (if mC (pSt P j q 1) m = -1 then 100 else mC (pSt P j q 1) m - mC P m) else 0) = _
      rw [if_neg c, Int.add_zero]
    have s1 : P 8 m = (j : Int) ∧ mC P m ≠ -1 → wtS P j q (m + 1) = wtS P j q m + (if mC (pSt P j q 1) m = -1 then 100 else mC (pSt P j q 1) m - mC P m) := fun c => by
      show wtS P j q m + (if P 8 m = (j : Int) ∧ mC P m ≠ -1 then (if mC (pSt P j q 1) m = -1 then 100 else mC (pSt P j q 1) m - mC P m) else 0) = _
      rw [if_pos c]
    refine vP_dn (vP_hv (fun hv => qr_wt13 hT hO n _ o6 o7 hv hR.m (hR.by h3) h3 m6 (fun _ _ c => ?_) (fun _ _ c => ?_)))
    · refine rx_cw hT hO m hR hb h3 (fun g u => ?_)
      have hR1 : rBk 0 P g := hR.eq lb (fun b _ _ => u 126 b (by decide))
      have F1 : wqF h g := fun a b hn => u a b (fun e => hn (Or.inl e))
      rcases mC_b hb h3 with w | ⟨w1, w2⟩
      · have e : cwC P m = 1000000 := if_pos w
        rw [e]
        show vP D T N 338 48 g [some (2, 121), some (0, (j : Int)), some (0, ((gJ P q : Nat) : Int)), some (0, n), some (0, P 3 (48 * j + q)), some (0, (m : Int)), o6, o7] [(0, 1000000)] Q
        refine vP_hv (fun hv => qr_wt48f hT hO n _ o6 o7 hv m6 ?_)
        exact rx_wtL hT hO hb hj gq r (m + 1) n g _ _ (by omega) hR1 (by rw [s0 (fun d => d.2 w)]; exact en) (by omega) (fun g2 x1 x2 => k g2 x1 (F1.trans x2))
      · have w0 : mC P m ≠ -1 := by omega
        have e : cwC P m = mC P m := if_neg w0
        rw [e]
        show vP D T N 338 48 g [some (2, 121), some (0, (j : Int)), some (0, ((gJ P q : Nat) : Int)), some (0, n), some (0, P 3 (48 * j + q)), some (0, (m : Int)), o6, o7] [(0, mC P m)] Q
        refine vP_hv (fun hv => qr_wt48 hT hO n _ (mC P m) o6 o7 hv m6 (by omega) gq lj hj (fun _ _ => ?_))
        have R1 := hR1.s3 lb hj gq (v := 1)
        refine rx_cw hT hO (P := pSt P j q 1) m R1 b1 h3 (fun g2 u2 => ?_)
        have Rg : rBk 0 (pSt P j q 1) g2 := R1.eq lb (fun b _ _ => u2 126 b (by decide))
        have R2 := Rg.s3 (show lB (pSt P j q 1) from lb) hj gq (v := P 3 (48 * j + q))
        rw [pSt_back] at R2
        have F2 : wqF h (zset g2 126 ((101 + (48 * (j : Int))) + ((gJ P q : Nat) : Int)).toNat (0, P 3 (48 * j + q))) := ((F1.trans (wqF.st lb hj gq)).trans (fun a b hn => u2 a b (fun e => hn (Or.inl e)))).trans (wqF.st lb hj gq)
        have mb := mC_b (P := pSt P j q 1) b1 (show (m : Int) < P 0 3 from h3)
        have cb : 0 ≤ cwC (pSt P j q 1) m ∧ cwC (pSt P j q 1) m ≤ 1000000 := by
          unfold cwC
          split <;> omega
        show vP D T N 338 78 g2 [some (2, 121), some (0, (j : Int)), some (0, ((gJ P q : Nat) : Int)), some (0, n), some (0, P 3 (48 * j + q)), some (0, (m : Int)), some (0, mC P m), o7] [(0, cwC (pSt P j q 1) m)] Q
        refine vP_hv (fun hv => qr_wt78 hT hO n _ (mC P m) (cwC (pSt P j q 1) m) o7 hv m6 gq lj hj (by omega) cb (by omega) (fun _ _ c2 => ?_) (fun _ _ c2 => ?_))
        · have q1 : mC (pSt P j q 1) m = -1 := by
            unfold cwC at c2
            rcases mb with d | d
            · exact d
            · rw [if_neg (by omega)] at c2
              omega
          exact rx_wtL hT hO hb hj gq r (m + 1) (n + 100) (zset g2 126 ((101 + (48 * (j : Int))) + ((gJ P q : Nat) : Int)).toNat (0, P 3 (48 * j + q))) _ _ (by omega) R2 (by rw [s1 ⟨c, w0⟩, if_pos q1, en]) (by omega) (fun g3 x1 x2 => k g3 x1 (F2.trans x2))
        · have q1 : mC (pSt P j q 1) m ≠ -1 := fun d => c2 (by unfold cwC; rw [if_pos d])
          have q2 : cwC (pSt P j q 1) m = mC (pSt P j q 1) m := if_neg q1
          exact rx_wtL hT hO hb hj gq r (m + 1) (n + (cwC (pSt P j q 1) m - mC P m)) (zset g2 126 ((101 + (48 * (j : Int))) + ((gJ P q : Nat) : Int)).toNat (0, P 3 (48 * j + q))) _ _ (by omega) R2 (by rw [s1 ⟨c, w0⟩, if_neg q1, en, q2]) (by omega) (fun g3 x1 x2 => k g3 x1 (F2.trans x2))
    · exact rx_wtL hT hO hb hj gq r (m + 1) n h _ _ (by omega) hR (by rw [s0 (fun d => c d.1)]; exact en) (by omega) k
theorem rx_wt {D : zD} {T : zT} (hT : hTab T) (hO : vOK T) {N : Nat} {h : zH} {Q : zR → Prop} {P : PT} {j q : Nat} (hR : rBk 0 P h) (hb : fB P) (hj : j < 3) (gq : gIn P q) (k : ∀ g : zH, rBk 0 P g → wqF h g → Q (g, some (0, wtV P j q))) : vP D T N 338 0 h [some (2, 121), some (0, (j : Int)), some (0, ((gJ P q : Nat) : Int)), none, none, none, none, none] [] Q := by
  have l0 := hb.1.2.2.2.1
  exact vP_hv (fun hv => qr_wt0 hT hO hv hR hb gq (gJ_lt hb.1 gq) hj (rx_wtL hT hO hb hj gq (P 0 3).toNat 0 0 h none none (by omega) hR rfl ⟨by decide, by decide⟩ k))
noncomputable def woV (P : PT) (x y z : Int) : Int := if okC P x y z ∧ P 3 (cI x y z) ≠ 1 then wtV P x.toNat (8 * z.toNat + y.toNat) else -1
theorem wqF.sf {h g : zH} (f : wqF h g) : rSF h g := fun a b hn => f a b (fun e => hn (by omega))
theorem rx_worth {D : zD} {T : zT} (hT : hTab T) (hO : vOK T) {N : Nat} {h : zH} {P : PT} (hR : rBk 0 P h) (hb : fB P) (x y z : Int) : vP D T N 337 0 h [some (2, 121), some (0, x), some (0, y), some (0, z)] [] (fun r => rBk 0 P r.1 ∧ rSF h r.1 ∧ r.2 = some (0, woV P x y z)) := by
  have lb := hb.1
  have l3 := lb.2.2.1.2
  have F2 : rSF h (zset (zset h 121 1 (0, 0)) 121 0 (0, 0)) := fun a b hn => (zset_ne (fun e => hn (by omega))).trans (zset_ne (fun e => hn (by omega)))
  have hR2 : rBk 0 P (zset (zset h 121 1 (0, 0)) 121 0 (0, 0)) := (hR.z1 lb).z1 lb
  have no : ∀ v : Int, ¬ (okC P x y z ∧ P 3 (cI x y z) ≠ 1) → rBk 0 P (zset (zset (zset h 121 1 (0, 0)) 121 0 (0, 0)) 121 0 (0, v)) ∧ rSF h (zset (zset (zset h 121 1 (0, 0)) 121 0 (0, 0)) 121 0 (0, v)) ∧ (some ((0, -1) : zV)) = some (0, woV P x y z) := fun v c => by
    unfold woV
    rw [if_neg c]
    exact ⟨hR2.z1 lb, fun a b hn => (zset_ne (fun e => hn (by omega))).trans (F2 a b hn), rfl⟩
  refine vP_hv (fun hv => qs_wo0 (P := P) hT hO x y z hv hR.w hR.r hR.c hR.m lb ?k0 ?k1 ?k2 ?k3 ?k4 ?k5 ?k6)
  case k6 =>
    intro c1 c2 c3 c4 c5 c6
    obtain ⟨j, rfl⟩ : ∃ j : Nat, x = (j : Int) := ⟨x.toNat, by omega⟩
    obtain ⟨u, rfl⟩ : ∃ u : Nat, y = (u : Int) := ⟨y.toNat, by omega⟩
    obtain ⟨v, rfl⟩ : ∃ v : Nat, z = (v : Int) := ⟨z.toNat, by omega⟩
    have w8 := lb.1.2
    have r6 := lb.2.1.2
    have gq : gIn P (8 * v + u) := ⟨by omega, by omega, by omega⟩
    have ok : okC P (j : Int) (u : Int) (v : Int) := ⟨c1, by omega, c3, by omega, c5, by omega⟩
    have ej := at2_J lb (u := u) (v := v) (by omega)
    refine vP_hv (fun hv => qs_wo33 hT hO hv ?_)
    refine rb_at2 hT hO _ _ (by omega) (by omega) hR2.w lb ?_
    rw [ej]
    show vP D T N 337 41 _ [some (2, 121), some (0, (j : Int)), some (0, (u : Int)), some (0, (v : Int))] [(0, ((gJ P (8 * v + u) : Nat) : Int)), (0, (j : Int)), (2, 121)] _
    refine vP_hv (fun hv => qs_wo41 hT hO hv hR2 hb (by omega) gq (gJ_lt lb gq) ej (by omega) (by omega) lb (fun c => ?_) (fun c => ?_))
    · exact no 9 (fun d => d.2 c)
    · refine rx_wt hT hO hR2 hb (by omega) gq (fun g g1 g2 => ?_)
      have e2 : woV P (j : Int) (u : Int) (v : Int) = wtV P j (8 * v + u) := if_pos ⟨ok, c⟩
      rw [e2]
      exact vP_hv (fun hv => qs_wo68 hT hO _ hv ⟨g1, fun a b hn => (g2.sf a b hn).trans (F2 a b hn), rfl⟩)
  all_goals
    intros
    exact no 2 (by rintro ⟨⟨o1, o2, o3, o4, o5, o6⟩, _⟩; omega)
noncomputable def mwT (P : PT) (j : Nat) : Nat → Nat → Int × Int → Int × Int
  | 0, _, K => K
  | r + 1, n, K => mwT P j r (n + 1) (@ite (Int × Int) (ifP P j (gQ P n) ∧ K.2 < wtV P j (gQ P n)) (Classical.propDecidable _) ((n : Int), wtV P j (gQ P n)) K)
theorem rx_mwT {D : zD} {T : zT} (hT : hTab T) (hO : vOK T) {N : Nat} {Q : zR → Prop} {P : PT} {j : Nat} {y : Int} (hb : fB P) (hj : j < 3) : ∀ (r n : Nat) (h : zH) (K : Int × Int), n + r = (P 0 0).toNat * (P 0 1).toNat → rBk 0 P h → (∀ (g : zH) (n' : Nat), rBk 0 P g → wqF h g → vP D T N 278 100 g [some (2, 121), some (0, (j : Int)), some (0, y), some (0, (mwT P j r n K).1), some (0, (mwT P j r n K).2), some (0, (n' : Int))] [] Q) → vP D T N 278 48 h [some (2, 121), some (0, (j : Int)), some (0, y), some (0, K.1), some (0, K.2), some (0, (n : Int))] [] Q
  | 0, n, h, K, hn, hR, k => by
    have e := wr_i hb.1
    have hn : n = (P 0 0).toNat * (P 0 1).toNat := hn
    exact vP_hv (fun hv => qs_mw48x (P := P) hT hO y K.1 K.2 hv hR.w hR.r hb (by rw [← e, hn]; exact Int.le_refl _) (k h n hR wqF.rfl))
  | r + 1, n, h, K, hn, hR, k => by
    have e := wr_i hb.1
    have lb := hb.1
    have w48 := wr_48 hb.1
    obtain ⟨gq, ej⟩ := gQ_ok hb.1 (n := n) (by omega)
    have lj := gJ_lt lb gq
    have e1 : (((gJ P (gQ P n) : Nat) : Int) + 1) = ((n + 1 : Nat) : Int) := by rw [ej]; rfl
    have e0 : ((gJ P (gQ P n) : Nat) : Int) = (n : Int) := by rw [ej]
    have nx : ∀ (g : zH) (K' : Int × Int), (@ite (Int × Int) (ifP P j (gQ P n) ∧ K.2 < wtV P j (gQ P n)) (Classical.propDecidable _) ((n : Int), wtV P j (gQ P n)) K) = K' → rBk 0 P g → wqF h g → vP D T N 278 48 g [some (2, 121), some (0, (j : Int)), some (0, y), some (0, K'.1), some (0, K'.2), some (0, (((gJ P (gQ P n) : Nat) : Int) + 1))] [] Q := fun g K' ek hR' F => by
      rw [e1]
      refine rx_mwT hT hO hb hj r (n + 1) g K' (by omega) hR' (fun g2 n' x1 x2 => ?_)
      have q := k g2 n' x1 (F.trans x2)
      have em : mwT P j (r + 1) n K = mwT P j r (n + 1) K' := by
        show mwT P j r (n + 1) (@ite (Int × Int) (ifP P j (gQ P n) ∧ K.2 < wtV P j (gQ P n)) (Classical.propDecidable _) ((n : Int), wtV P j (gQ P n)) K) = _
        rw [ek]
      rw [em] at q
      exact q
    have go : vP D T N 278 48 h [some (2, 121), some (0, (j : Int)), some (0, y), some (0, K.1), some (0, K.2), some (0, ((gJ P (gQ P n) : Nat) : Int))] [] Q := by
      refine vP_hv (fun hv => qs_mw48 (P := P) (q := gQ P n) hT hO y K.1 K.2 hv hR.w hR.r hb gq lj hj (by rw [ej, ← e]; omega) ?_)
      refine rx_if hT hO hR hb hj gq (fun c => ?_) (fun c => ?_)
      · show vP D T N 278 64 h [some (2, 121), some (0, (j : Int)), some (0, y), some (0, K.1), some (0, K.2), some (0, ((gJ P (gQ P n) : Nat) : Int))] [(0, 1)] Q
        refine vP_hv (fun hv => qs_mw64y (P := P) hT hO y K.1 K.2 hv ?_)
        refine rx_wt hT hO hR hb hj gq (fun g g1 g2 => ?_)
        show vP D T N 278 74 g [some (2, 121), some (0, (j : Int)), some (0, y), some (0, K.1), some (0, K.2), some (0, ((gJ P (gQ P n) : Nat) : Int))] [(0, wtV P j (gQ P n))] Q
        refine vP_hv (fun hv => qs_mw74 (P := P) hT hO y K.1 K.2 _ hv lj (fun c2 => ?_) (fun c2 => ?_))
        · refine rx_wt hT hO g1 hb hj gq (fun g' g1' g2' => ?_)
          show vP D T N 278 89 g' [some (2, 121), some (0, (j : Int)), some (0, y), some (0, K.1), some (0, K.2), some (0, ((gJ P (gQ P n) : Nat) : Int))] [(0, wtV P j (gQ P n))] Q
          have q := nx g' ((n : Int), wtV P j (gQ P n)) (if_pos ⟨c, c2⟩) g1' (g2.trans g2')
          refine vP_hv (fun hv => qs_mw89 (P := P) hT hO y K.1 K.2 _ hv lj ?_)
          rw [e0] at q ⊢
          exact q
        · exact nx g K (if_neg (fun d => by have := d.2; omega)) g1 g2
      · show vP D T N 278 64 h [some (2, 121), some (0, (j : Int)), some (0, y), some (0, K.1), some (0, K.2), some (0, ((gJ P (gQ P n) : Nat) : Int))] [(0, 0)] Q
        exact vP_hv (fun hv => qs_mw64n (P := P) hT hO y K.1 K.2 hv lj (nx h K (if_neg (fun d => c d.1)) hR wqF.rfl))
    rw [ej] at go
    exact go
abbrev okW (P : PT) (x y : Int) : Prop := 0 ≤ x ∧ x < P 0 2 ∧ 0 ≤ y ∧ y ≤ 1
noncomputable def mwV (P : PT) (x y : Int) : Int := if okW P x y ∧ 0 ≤ (mwT P x.toNat ((P 0 0).toNat * (P 0 1).toNat) 0 (-1, -1)).1 then (if y = 0 then (mwT P x.toNat ((P 0 0).toNat * (P 0 1).toNat) 0 (-1, -1)).1 else (mwT P x.toNat ((P 0 0).toNat * (P 0 1).toNat) 0 (-1, -1)).2) else -1
theorem rx_mostWorth {D : zD} {T : zT} (hT : hTab T) (hO : vOK T) {N : Nat} {h : zH} {P : PT} (hR : rBk 0 P h) (hb : fB P) (x y : Int) : vP D T N 278 0 h [some (2, 121), some (0, x), some (0, y), none, none, none] [] (fun r => rBk 0 P r.1 ∧ rSF h r.1 ∧ r.2 = some (0, mwV P x y)) := by
  have lb := hb.1
  have l3 := lb.2.2.1.2
  have F2 : rSF h (zset (zset h 121 1 (0, 0)) 121 0 (0, 0)) := fun a b hn => (zset_ne (fun e => hn (by omega))).trans (zset_ne (fun e => hn (by omega)))
  have hR2 : rBk 0 P (zset (zset h 121 1 (0, 0)) 121 0 (0, 0)) := (hR.z1 lb).z1 lb
  have no : ∀ (g : zH) (v : Int), rBk 0 P g → rSF h g → ¬ (okW P x y ∧ 0 ≤ (mwT P x.toNat ((P 0 0).toNat * (P 0 1).toNat) 0 (-1, -1)).1) → rBk 0 P (zset g 121 0 (0, v)) ∧ rSF h (zset g 121 0 (0, v)) ∧ (some ((0, -1) : zV)) = some (0, mwV P x y) := fun g v r f c => by
    unfold mwV
    rw [if_neg c]
    exact ⟨r.z1 lb, fun a b hn => (zset_ne (fun e => hn (by omega))).trans (f a b hn), rfl⟩
  refine vP_hv (fun hv => qs_mw0 (P := P) hT hO x y hv hR.w hR.r hR.c hR.m lb ?k0 ?k1 ?k2 ?k3 ?k4)
  case k4 =>
    intro c1 c2 c3 c4
    obtain ⟨j, rfl⟩ : ∃ j : Nat, x = (j : Int) := ⟨x.toNat, by omega⟩
    have ok : okW P (j : Int) y := ⟨c1, by omega, c3, c4⟩
    refine rx_mwT hT hO hb (show j < 3 by omega) ((P 0 0).toNat * (P 0 1).toNat) 0 _ (-1, -1) (Nat.zero_add _) hR2 (fun g n' g1 g2 => ?_)
    have F3 : rSF h g := fun a b hn => (g2.sf a b hn).trans (F2 a b hn)
    generalize eK : mwT P j ((P 0 0).toNat * (P 0 1).toNat) 0 (-1, -1) = K
    have eK' : mwT P ((j : Int)).toNat ((P 0 0).toNat * (P 0 1).toNat) 0 (-1, -1) = K := eK
    refine vP_hv (fun hv => qs_mw100 hT hO y K.1 K.2 hv (fun q => no g 8 g1 F3 (fun d => by have := d.2; rw [eK'] at this; omega)) (fun q1 q2 => ⟨g1, F3, ?_⟩) (fun q1 q2 => ⟨g1, F3, ?_⟩))
    · unfold mwV
      rw [eK', if_pos ⟨ok, q1⟩, if_pos q2]
    · unfold mwV
      rw [eK', if_pos ⟨ok, q1⟩, if_neg q2]
  all_goals
    intros
    exact no _ _ hR2 F2 (by rintro ⟨⟨o1, o2, o3, o4⟩, _⟩; omega)
