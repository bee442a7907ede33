theorem qr_wo0 {D : zD} {T : zT} (hT : hTab T) (hO : vOK T) {N : Nat} {h : zH} {Q : zR → Prop} (cp x y : Int) (hv0 : zHv h)
    (k0 : vP D T N 336 3 h [some (2, 121), some (0, cp), some (0, x), some (0, y), some (0, 0), none, none, none] [] Q) :
    vP D T N 336 0 h [some (2, 121), some (0, cp), some (0, x), some (0, y), none, none, none, none] [] Q := by
  refine v_push (0) (hz_X12_wayOf hT _ _ rfl) rfl ?_
  refine v_store1 [some (2, 121), some (0, cp), some (0, x), some (0, y), some (0, 0), none, none, none] (hz_X12_wayOf hT _ _ rfl) ⟨rfl, Nat.ne_of_beq_eq_false rfl⟩ (Nat.le_of_ble_eq_true rfl) rfl ?_
  exact k0 
theorem qr_wo3 {D : zD} {T : zT} (hT : hTab T) (hO : vOK T) {N : Nat} {h : zH} {Q : zR → Prop} {P : PT} {q i : Nat} (cp x : Int) (o5 o6 o7 : Option zV) (hv0 : zHv h) (hR : rBk 0 P h) (hb : fB P) (hq : gJ P q < 48) (hi : i ≤ 64)
    (k0 : ((i : Int) < ((P 0 0) * (P 0 1))) → (0 ≤ (i : Int)) → ((i : Int) < 48) → vP D T N 336 3 (zset h 130 (((i : Int)).toNat) (0, 1000000)) [some (2, 121), some (0, cp), some (0, x), some (0, ((gJ P q : Nat) : Int)), some (0, ((i : Int) + 1)), o5, o6, o7] [] Q)
    (k1 : (((P 0 0) * (P 0 1)) ≤ (i : Int)) → (0 ≤ ((gJ P q : Nat) : Int)) → (((gJ P q : Nat) : Int) < 48) → vP D T N 336 38 (zset h 130 ((((gJ P q : Nat) : Int)).toNat) (0, 0)) [some (2, 121), some (0, cp), some (0, x), some (0, ((gJ P q : Nat) : Int)), some (0, 1), o5, o6, o7] [] Q) :
    vP D T (N + 1) 336 3 h [some (2, 121), some (0, cp), some (0, x), some (0, ((gJ P q : Nat) : Int)), some (0, (i : Int)), o5, o6, o7] [] Q := by
  refine v_loadS (v := (0, (i : Int))) (hz_X12_wayOf hT _ _ rfl) rfl rfl ?_
  refine v_load (v := (2, 121)) (hz_X12_wayOf hT _ _ rfl) rfl rfl ?_
  refine v_call (w := 1) [some (2, 121)] hO (hz_X12_wayOf hT _ _ rfl) rfl rfl (rb_cells hT hO hR.w hR.r hb.1 ?_)
  show vP D T N 336 9 h [some (2, 121), some (0, cp), some (0, x), some (0, ((gJ P q : Nat) : Int)), some (0, (i : Int)), o5, o6, o7] [(0, ((P 0 0) * (P 0 1))), (0, (i : Int))] _
  refine v_ic (hz_X12_wayOf hT _ _ rfl) (fun hc1 => ?_) (fun hc1 => ?_)
  · have hc1 : (i : Int) < ((P 0 0) * (P 0 1)) := hc1
    refine v_load (v := (2, 121)) (hz_X12_wayOf hT _ _ rfl) rfl rfl ?_
    refine v_getR (c := 130) (r := 121) (hz_X12_wayOf hT _ _ rfl) rfl rfl rfl ?_
    refine v_load (v := (0, (i : Int))) (hz_X12_wayOf hT _ _ rfl) rfl rfl ?_
    refine v_push (1000000) (hz_X12_wayOf hT _ _ rfl) rfl ?_
    refine v_ast (r := 130) (hz_X12_wayOf hT _ _ rfl) rfl rfl (fun ha2 hb3 hf4 => ?_)
    refine v_iinc (x := (i : Int)) (u := 1) (w := ((i : Int) + 1)) [some (2, 121), some (0, cp), some (0, x), some (0, ((gJ P q : Nat) : Int)), some (0, ((i : Int) + 1)), o5, o6, o7] (hz_X12_wayOf hT _ _ rfl) rfl rfl (Nat.le_of_ble_eq_true rfl) (vz_inc (by omega) (by omega)) rfl ?_
    refine v_goto (hz_X12_wayOf hT _ _ rfl) ?_
    exact k0 hc1 ha2 hb3
  · have hc1 : ((P 0 0) * (P 0 1)) ≤ (i : Int) := Int.not_lt.mp hc1
    refine v_load (v := (2, 121)) (hz_X12_wayOf hT _ _ rfl) rfl rfl ?_
    refine v_getR (c := 130) (r := 121) (hz_X12_wayOf hT _ _ rfl) rfl rfl rfl ?_
    refine v_load (v := (0, ((gJ P q : Nat) : Int))) (hz_X12_wayOf hT _ _ rfl) rfl rfl ?_
    refine v_push (0) (hz_X12_wayOf hT _ _ rfl) rfl ?_
    refine v_ast (r := 130) (hz_X12_wayOf hT _ _ rfl) rfl rfl (fun ha5 hb6 hf7 => ?_)
    refine v_push (1) (hz_X12_wayOf hT _ _ rfl) rfl ?_
    refine v_store1 [some (2, 121), some (0, cp), some (0, x), some (0, ((gJ P q : Nat) : Int)), some (0, 1), o5, o6, o7] (hz_X12_wayOf hT _ _ rfl) ⟨rfl, Nat.ne_of_beq_eq_false rfl⟩ (Nat.le_of_ble_eq_true rfl) rfl ?_
    exact k1 hc1 ha5 hb6
theorem qr_wo38 {D : zD} {T : zT} (hT : hTab T) (hO : vOK T) {N : Nat} {h : zH} {Q : zR → Prop} (cp x y m : Int) (o5 o6 o7 : Option zV) (hv0 : zHv h)
    (k0 : (m = 0) → vP D T N 336 120 h [some (2, 121), some (0, cp), some (0, x), some (0, y), some (0, m), o5, o6, o7] [] Q)
    (k1 : (m ≠ 0) → vP D T N 336 49 h [some (2, 121), some (0, cp), some (0, x), some (0, y), some (0, 0), some (0, 0), o6, o7] [] Q) :
    vP D T (N + 1) 336 38 h [some (2, 121), some (0, cp), some (0, x), some (0, y), some (0, m), o5, o6, o7] [] Q := by
  refine v_loadS (v := (0, m)) (hz_X12_wayOf hT _ _ rfl) rfl rfl ?_
  refine v_if (hz_X12_wayOf hT _ _ rfl) (fun hc1 => ?_) (fun hc1 => ?_)
  · have hc1 : m = 0 := hc1
    exact k0 hc1
  · have hc1 : m ≠ 0 := hc1
    refine v_push (0) (hz_X12_wayOf hT _ _ rfl) rfl ?_
    refine v_store1 [some (2, 121), some (0, cp), some (0, x), some (0, y), some (0, 0), o5, o6, o7] (hz_X12_wayOf hT _ _ rfl) ⟨rfl, Nat.ne_of_beq_eq_false rfl⟩ (Nat.le_of_ble_eq_true rfl) rfl ?_
    refine v_push (0) (hz_X12_wayOf hT _ _ rfl) rfl ?_
    refine v_store1 [some (2, 121), some (0, cp), some (0, x), some (0, y), some (0, 0), some (0, 0), o6, o7] (hz_X12_wayOf hT _ _ rfl) ⟨rfl, Nat.ne_of_beq_eq_false rfl⟩ (Nat.le_of_ble_eq_true rfl) rfl ?_
    exact k1 hc1
theorem qr_wo49 {D : zD} {T : zT} (hT : hTab T) (hO : vOK T) {N : Nat} {h : zH} {Q : zR → Prop} {P : PT} {n : Nat} (cp x y m : Int) (o6 o7 : Option zV) (hv0 : zHv h) (hR : rBk 0 P h) (hb : fB P)
    (k0 : ((n : Int) < ((P 0 0) * (P 0 1))) → vP D T N 336 61 h [some (2, 121), some (0, cp), some (0, x), some (0, y), some (0, m), some (0, (n : Int)), some (0, 0), o7] [] Q)
    (k1 : (((P 0 0) * (P 0 1)) ≤ (n : Int)) → vP D T N 336 38 h [some (2, 121), some (0, cp), some (0, x), some (0, y), some (0, m), some (0, (n : Int)), o6, o7] [] Q) :
    vP D T (N + 1) 336 49 h [some (2, 121), some (0, cp), some (0, x), some (0, y), some (0, m), some (0, (n : Int)), o6, o7] [] Q := by
  refine v_loadS (v := (0, (n : Int))) (hz_X12_wayOf hT _ _ rfl) rfl rfl ?_
  refine v_load (v := (2, 121)) (hz_X12_wayOf hT _ _ rfl) rfl rfl ?_
  refine v_call (w := 1) [some (2, 121)] hO (hz_X12_wayOf hT _ _ rfl) rfl rfl (rb_cells hT hO hR.w hR.r hb.1 ?_)
  show vP D T N 336 55 h [some (2, 121), some (0, cp), some (0, x), some (0, y), some (0, m), some (0, (n : Int)), o6, o7] [(0, ((P 0 0) * (P 0 1))), (0, (n : Int))] _
  refine v_ic (hz_X12_wayOf hT _ _ rfl) (fun hc1 => ?_) (fun hc1 => ?_)
  · have hc1 : (n : Int) < ((P 0 0) * (P 0 1)) := hc1
    refine v_push (0) (hz_X12_wayOf hT _ _ rfl) rfl ?_
    refine v_store1 [some (2, 121), some (0, cp), some (0, x), some (0, y), some (0, m), some (0, (n : Int)), some (0, 0), o7] (hz_X12_wayOf hT _ _ rfl) ⟨rfl, Nat.ne_of_beq_eq_false rfl⟩ (Nat.le_of_ble_eq_true rfl) rfl ?_
    exact k0 hc1
  · have hc1 : ((P 0 0) * (P 0 1)) ≤ (n : Int) := Int.not_lt.mp hc1
    refine v_goto (hz_X12_wayOf hT _ _ rfl) ?_
    exact k1 hc1
theorem qr_wo61 {D : zD} {T : zT} (hT : hTab T) (hO : vOK T) {N : Nat} {h : zH} {Q : zR → Prop} {P : PT} {q e : Nat} {d : Nat → Int} (cp x y m : Int) (o7 : Option zV) (hv0 : zHv h) (hR : rBk 0 P h) (hb : fB P) (gq : gIn P q) (hq : gJ P q < 48) (he : e ≤ 4) (h1 : -1 ≤ cp) (h3 : cp < 3) (hd : ∀ r, gIn P r → h 130 (gJ P r) = (0, d r) ∧ 0 ≤ d r ∧ d r ≤ 1000000) (eq : h 130 (gJ P q) = (0, d q))
    (k0 : ((e : Int) < 4) → (0 ≤ ((gJ P q : Nat) : Int)) → (((gJ P q : Nat) : Int) < 48) → ((gGo P cp d q e) < (d q)) → vP D T N 336 61 (zset h 130 ((((gJ P q : Nat) : Int)).toNat) (0, (gGo P cp d q e))) [some (2, 121), some (0, cp), some (0, x), some (0, y), some (0, 1), some (0, ((gJ P q : Nat) : Int)), some (0, ((e : Int) + 1)), some (0, (gGo P cp d q e))] [] Q)
    (k1 : ((e : Int) < 4) → (0 ≤ ((gJ P q : Nat) : Int)) → (((gJ P q : Nat) : Int) < 48) → ((d q) ≤ (gGo P cp d q e)) → vP D T N 336 61 h [some (2, 121), some (0, cp), some (0, x), some (0, y), some (0, m), some (0, ((gJ P q : Nat) : Int)), some (0, ((e : Int) + 1)), some (0, (gGo P cp d q e))] [] Q)
    (k2 : (4 ≤ (e : Int)) → vP D T N 336 49 h [some (2, 121), some (0, cp), some (0, x), some (0, y), some (0, m), some (0, (((gJ P q : Nat) : Int) + 1)), some (0, (e : Int)), o7] [] Q) :
    vP D T (N + 1) 336 61 h [some (2, 121), some (0, cp), some (0, x), some (0, y), some (0, m), some (0, ((gJ P q : Nat) : Int)), some (0, (e : Int)), o7] [] Q := by
  refine v_loadS (v := (0, (e : Int))) (hz_X12_wayOf hT _ _ rfl) rfl rfl ?_
  refine v_push (4) (hz_X12_wayOf hT _ _ rfl) rfl ?_
  refine v_ic (hz_X12_wayOf hT _ _ rfl) (fun hc1 => ?_) (fun hc1 => ?_)
  · have hc1 : (e : Int) < 4 := hc1
    refine v_load (v := (2, 121)) (hz_X12_wayOf hT _ _ rfl) rfl rfl ?_
    refine v_load (v := (0, cp)) (hz_X12_wayOf hT _ _ rfl) rfl rfl ?_
    refine v_load (v := (0, ((gJ P q : Nat) : Int))) (hz_X12_wayOf hT _ _ rfl) rfl rfl ?_
    refine v_load (v := (0, (e : Int))) (hz_X12_wayOf hT _ _ rfl) rfl rfl ?_
    refine v_call (w := 5) [some (2, 121), some (0, cp), some (0, ((gJ P q : Nat) : Int)), some (0, (e : Int)), none] hO (hz_X12_wayOf hT _ _ rfl) rfl rfl (rb_go hT hO cp ((e : Int)) q e rfl (by omega) gq hR hb (by omega) (by omega) hd ?_)
    show vP D T N 336 76 h [some (2, 121), some (0, cp), some (0, x), some (0, y), some (0, m), some (0, ((gJ P q : Nat) : Int)), some (0, (e : Int)), o7] [(0, (gGo P cp d q e))] _
    refine v_store1 [some (2, 121), some (0, cp), some (0, x), some (0, y), some (0, m), some (0, ((gJ P q : Nat) : Int)), some (0, (e : Int)), some (0, (gGo P cp d q e))] (hz_X12_wayOf hT _ _ rfl) ⟨rfl, Nat.ne_of_beq_eq_false rfl⟩ (Nat.le_of_ble_eq_true rfl) rfl ?_
    refine v_load (v := (0, (gGo P cp d q e))) (hz_X12_wayOf hT _ _ rfl) rfl rfl ?_
    refine v_load (v := (2, 121)) (hz_X12_wayOf hT _ _ rfl) rfl rfl ?_
    refine v_getR (c := 130) (r := 121) (hz_X12_wayOf hT _ _ rfl) rfl rfl rfl ?_
    refine v_load (v := (0, ((gJ P q : Nat) : Int))) (hz_X12_wayOf hT _ _ rfl) rfl rfl ?_
    refine v_aldB (t := 0) (r := 130) (w := (d q)) (hz_X12_wayOf hT _ _ rfl) rfl rfl rfl (fun _ _ => (congrArg Prod.snd eq)) (fun ha2 hb3 => ?_)
    refine v_ic (hz_X12_wayOf hT _ _ rfl) (fun hc4 => ?_) (fun hc4 => ?_)
    · have hc4 : (gGo P cp d q e) < (d q) := hc4
      refine v_load (v := (2, 121)) (hz_X12_wayOf hT _ _ rfl) rfl rfl ?_
      refine v_getR (c := 130) (r := 121) (hz_X12_wayOf hT _ _ rfl) rfl rfl rfl ?_
      refine v_load (v := (0, ((gJ P q : Nat) : Int))) (hz_X12_wayOf hT _ _ rfl) rfl rfl ?_
      refine v_load (v := (0, (gGo P cp d q e))) (hz_X12_wayOf hT _ _ rfl) rfl rfl ?_
      refine v_ast (r := 130) (hz_X12_wayOf hT _ _ rfl) rfl rfl (fun ha5 hb6 hf7 => ?_)
      refine v_push (1) (hz_X12_wayOf hT _ _ rfl) rfl ?_
      refine v_store1 [some (2, 121), some (0, cp), some (0, x), some (0, y), some (0, 1), some (0, ((gJ P q : Nat) : Int)), some (0, (e : Int)), some (0, (gGo P cp d q e))] (hz_X12_wayOf hT _ _ rfl) ⟨rfl, Nat.ne_of_beq_eq_false rfl⟩ (Nat.le_of_ble_eq_true rfl) rfl ?_
      refine v_iinc (x := (e : Int)) (u := 1) (w := ((e : Int) + 1)) [some (2, 121), some (0, cp), some (0, x), some (0, y), some (0, 1), some (0, ((gJ P q : Nat) : Int)), some (0, ((e : Int) + 1)), some (0, (gGo P cp d q e))] (hz_X12_wayOf hT _ _ rfl) rfl rfl (Nat.le_of_ble_eq_true rfl) (vz_inc (by omega) (by omega)) rfl ?_
      refine v_goto (hz_X12_wayOf hT _ _ rfl) ?_
      exact k0 hc1 ha2 hb3 hc4
    · have hc4 : (d q) ≤ (gGo P cp d q e) := Int.not_lt.mp hc4
      refine v_goto (hz_X12_wayOf hT _ _ rfl) ?_
      refine v_iinc (x := (e : Int)) (u := 1) (w := ((e : Int) + 1)) [some (2, 121), some (0, cp), some (0, x), some (0, y), some (0, m), some (0, ((gJ P q : Nat) : Int)), some (0, ((e : Int) + 1)), some (0, (gGo P cp d q e))] (hz_X12_wayOf hT _ _ rfl) rfl rfl (Nat.le_of_ble_eq_true rfl) (vz_inc (by omega) (by omega)) rfl ?_
      refine v_goto (hz_X12_wayOf hT _ _ rfl) ?_
      exact k1 hc1 ha2 hb3 hc4
  · have hc1 : 4 ≤ (e : Int) := Int.not_lt.mp hc1
    refine v_iinc (x := ((gJ P q : Nat) : Int)) (u := 1) (w := (((gJ P q : Nat) : Int) + 1)) [some (2, 121), some (0, cp), some (0, x), some (0, y), some (0, m), some (0, (((gJ P q : Nat) : Int) + 1)), some (0, (e : Int)), o7] (hz_X12_wayOf hT _ _ rfl) rfl rfl (Nat.le_of_ble_eq_true rfl) (vz_inc (by omega) (by omega)) rfl ?_
    refine v_goto (hz_X12_wayOf hT _ _ rfl) ?_
    exact k2 hc1
theorem qr_wo120 {D : zD} {T : zT} (hT : hTab T) (hO : vOK T) {N : Nat} {h : zH} {Q : zR → Prop} {P : PT} {q : Nat} {d : Nat → Int} (cp y m : Int) (o5 o6 o7 : Option zV) (hv0 : zHv h) (eq : h 130 (gJ P q) = (0, d q)) (hq : gJ P q < 48) (bd : 0 ≤ d q ∧ d q ≤ 1000000)
    (k0 : (0 ≤ ((gJ P q : Nat) : Int)) → (((gJ P q : Nat) : Int) < 48) → ((d q) = 1000000) → Q (h, some (0, 1000000)))
    (k1 : (0 ≤ ((gJ P q : Nat) : Int)) → (((gJ P q : Nat) : Int) < 48) → ((d q) ≠ 1000000) → Q (h, some (0, ((d q) / 100)))) :
    vP D T N 336 120 h [some (2, 121), some (0, cp), some (0, ((gJ P q : Nat) : Int)), some (0, y), some (0, m), o5, o6, o7] [] Q := by
  refine v_load (v := (2, 121)) (hz_X12_wayOf hT _ _ rfl) rfl rfl ?_
  refine v_getR (c := 130) (r := 121) (hz_X12_wayOf hT _ _ rfl) rfl rfl rfl ?_
  refine v_load (v := (0, ((gJ P q : Nat) : Int))) (hz_X12_wayOf hT _ _ rfl) rfl rfl ?_
  refine v_aldB (t := 0) (r := 130) (w := (d q)) (hz_X12_wayOf hT _ _ rfl) rfl rfl rfl (fun _ _ => (congrArg Prod.snd eq)) (fun ha1 hb2 => ?_)
  refine v_push (1000000) (hz_X12_wayOf hT _ _ rfl) rfl ?_
  refine v_ic (hz_X12_wayOf hT _ _ rfl) (fun hc3 => ?_) (fun hc3 => ?_)
  · have hc3 : (d q) = 1000000 := hc3
    refine v_push (1000000) (hz_X12_wayOf hT _ _ rfl) rfl ?_
    refine v_goto (hz_X12_wayOf hT _ _ rfl) ?_
    refine v_ret (hz_X12_wayOf hT _ _ rfl) (Or.inl rfl) ?_
    exact k0 ha1 hb2 hc3
  · have hc3 : (d q) ≠ 1000000 := hc3
    refine v_load (v := (2, 121)) (hz_X12_wayOf hT _ _ rfl) rfl rfl ?_
    refine v_getR (c := 130) (r := 121) (hz_X12_wayOf hT _ _ rfl) rfl rfl rfl ?_
    refine v_load (v := (0, ((gJ P q : Nat) : Int))) (hz_X12_wayOf hT _ _ rfl) rfl rfl ?_
    refine v_aldB (t := 0) (r := 130) (w := (d q)) (hz_X12_wayOf hT _ _ rfl) rfl rfl rfl (fun _ _ => (congrArg Prod.snd eq)) (fun ha4 hb5 => ?_)
    refine v_push (100) (hz_X12_wayOf hT _ _ rfl) rfl ?_
    refine v_div (w := ((d q) / 100)) (hz_X12_wayOf hT _ _ rfl) (fun _ => hq_quo (by omega) (by omega) (by omega) (by omega)) (fun hc6 => ?_)
    refine v_ret (hz_X12_wayOf hT _ _ rfl) (Or.inl rfl) ?_
    exact k1 ha1 hb2 hc3
theorem qr_tw0 {D : zD} {T : zT} (hT : hTab T) (hO : vOK T) {N : Nat} {h : zH} {Q : zR → Prop} (cp x y : Int) (hv0 : zHv h)
    (k0 : vP D T N 336 0 h [some (2, 121), some (0, cp), some (0, x), some (0, y), none, none, none, none] [] (fun r1 => vP D T N 324 7 r1.1 [some (2, 121), some (0, cp), some (0, x), some (0, y), none, none, none] (zpush r1.2 []) Q)) :
    vP D T N 324 0 h [some (2, 121), some (0, cp), some (0, x), some (0, y), none, none, none] [] Q := by
  refine v_load (v := (2, 121)) (hz_X12_tellWay hT _ _ rfl) rfl rfl ?_
  refine v_load (v := (0, cp)) (hz_X12_tellWay hT _ _ rfl) rfl rfl ?_
  refine v_load (v := (0, x)) (hz_X12_tellWay hT _ _ rfl) rfl rfl ?_
  refine v_load (v := (0, y)) (hz_X12_tellWay hT _ _ rfl) rfl rfl ?_
  refine v_call (w := 8) [some (2, 121), some (0, cp), some (0, x), some (0, y), none, none, none, none] hO (hz_X12_tellWay hT _ _ rfl) rfl rfl ?_
  exact k0 
theorem qr_tw7 {D : zD} {T : zT} (hT : hTab T) (hO : vOK T) {N : Nat} {h : zH} {Q : zR → Prop} (cp x y p : Int) (hv0 : zHv h)
    (k0 : (p = 1000000) → Q (zset h 121 31 (0, 0), some (0, 1000000)))
    (k1 : (p ≠ 1000000) → vP D T N 324 41 (zset (zset (zset h 121 31 (0, 0)) 132 0 (0, x)) 121 31 (0, 1)) [some (2, 121), some (0, cp), some (0, x), some (0, y), some (0, p), some (0, x), none] [] Q) :
    vP D T N 324 7 h [some (2, 121), some (0, cp), some (0, x), some (0, y), none, none, none] [(0, p)] Q := by
  refine v_store1 [some (2, 121), some (0, cp), some (0, x), some (0, y), some (0, p), none, none] (hz_X12_tellWay hT _ _ rfl) ⟨rfl, Nat.ne_of_beq_eq_false rfl⟩ (Nat.le_of_ble_eq_true rfl) rfl ?_
  refine v_load (v := (2, 121)) (hz_X12_tellWay hT _ _ rfl) rfl rfl ?_
  refine v_push (0) (hz_X12_tellWay hT _ _ rfl) rfl ?_
  refine v_putf (r := 121) hO (hz_X12_tellWay hT _ _ rfl) rfl (fun hf1 => ?_)
  refine v_load (v := (0, p)) (hz_X12_tellWay hT _ _ rfl) rfl rfl ?_
  refine v_push (1000000) (hz_X12_tellWay hT _ _ rfl) rfl ?_
  refine v_ic (hz_X12_tellWay hT _ _ rfl) (fun hc2 => ?_) (fun hc2 => ?_)
  · have hc2 : p = 1000000 := hc2
    refine v_push (1000000) (hz_X12_tellWay hT _ _ rfl) rfl ?_
    refine v_ret (hz_X12_tellWay hT _ _ rfl) (Or.inl rfl) ?_
    exact k0 hc2
  · have hc2 : p ≠ 1000000 := hc2
    refine v_load (v := (0, x)) (hz_X12_tellWay hT _ _ rfl) rfl rfl ?_
    refine v_store1 [some (2, 121), some (0, cp), some (0, x), some (0, y), some (0, p), some (0, x), none] (hz_X12_tellWay hT _ _ rfl) ⟨rfl, Nat.ne_of_beq_eq_false rfl⟩ (Nat.le_of_ble_eq_true rfl) rfl ?_
    refine v_load (v := (2, 121)) (hz_X12_tellWay hT _ _ rfl) rfl rfl ?_
    refine v_getR (c := 132) (r := 121) (hz_X12_tellWay hT _ _ rfl) rfl rfl rfl ?_
    refine v_push (0) (hz_X12_tellWay hT _ _ rfl) rfl ?_
    refine v_load (v := (0, x)) (hz_X12_tellWay hT _ _ rfl) rfl rfl ?_
    refine v_ast (r := 132) (hz_X12_tellWay hT _ _ rfl) rfl rfl (fun ha3 hb4 hf5 => ?_)
    refine v_load (v := (2, 121)) (hz_X12_tellWay hT _ _ rfl) rfl rfl ?_
    refine v_push (1) (hz_X12_tellWay hT _ _ rfl) rfl ?_
    refine v_putf (r := 121) hO (hz_X12_tellWay hT _ _ rfl) rfl (fun hf6 => ?_)
    exact k1 hc2
theorem qr_tw41_ {D : zD} {T : zT} (hT : hTab T) (hO : vOK T) {N : Nat} {h : zH} {Q : zR → Prop} {P : PT} (cp x y p a : Int) (o6 : Option zV) (hv0 : zHv h)
    (k0 : (a = y) → Q (h, some (0, p)))
    (k1 : (a ≠ y) → vP D T N 324 50 h [some (2, 121), some (0, cp), some (0, x), some (0, y), some (0, p), some (0, a), some (0, 0)] [] Q) :
    vP D T (N + 1) 324 41 h [some (2, 121), some (0, cp), some (0, x), some (0, y), some (0, p), some (0, a), o6] [] Q := by
  refine v_loadS (v := (0, a)) (hz_X12_tellWay hT _ _ rfl) rfl rfl ?_
  refine v_load (v := (0, y)) (hz_X12_tellWay hT _ _ rfl) rfl rfl ?_
  refine v_ic (hz_X12_tellWay hT _ _ rfl) (fun hc1 => ?_) (fun hc1 => ?_)
  · have hc1 : a = y := hc1
    refine v_load (v := (0, p)) (hz_X12_tellWay hT _ _ rfl) rfl rfl ?_
    refine v_ret (hz_X12_tellWay hT _ _ rfl) (Or.inl rfl) ?_
    exact k0 hc1
  · have hc1 : a ≠ y := hc1
    refine v_push (0) (hz_X12_tellWay hT _ _ rfl) rfl ?_
    refine v_store1 [some (2, 121), some (0, cp), some (0, x), some (0, y), some (0, p), some (0, a), some (0, 0)] (hz_X12_tellWay hT _ _ rfl) ⟨rfl, Nat.ne_of_beq_eq_false rfl⟩ (Nat.le_of_ble_eq_true rfl) rfl ?_
    exact k1 hc1
theorem qr_tw50 {D : zD} {T : zT} (hT : hTab T) (hO : vOK T) {N : Nat} {h : zH} {Q : zR → Prop} {P : PT} {q e : Nat} {d : Nat → Int} (cp x y p : Int) (hv0 : zHv h) (hR : rBk 0 P h) (hb : fB P) (gq : gIn P q) (hq : gJ P q < 48) (he : e < 4) (h1 : -1 ≤ cp) (h3 : cp < 3) (hd : ∀ r, gIn P r → h 130 (gJ P r) = (0, d r) ∧ 0 ≤ d r ∧ d r ≤ 1000000) (eq : h 130 (gJ P q) = (0, d q))
    (k0 : (0 ≤ ((gJ P q : Nat) : Int)) → (((gJ P q : Nat) : Int) < 48) → ((gGo P cp d q e) = (d q)) → vP D T N 324 75 h [some (2, 121), some (0, cp), some (0, x), some (0, y), some (0, p), some (0, ((gJ P q : Nat) : Int)), some (0, (e : Int))] [] Q)
    (k1 : (0 ≤ ((gJ P q : Nat) : Int)) → (((gJ P q : Nat) : Int) < 48) → ((gGo P cp d q e) ≠ (d q)) → vP D T N 324 50 h [some (2, 121), some (0, cp), some (0, x), some (0, y), some (0, p), some (0, ((gJ P q : Nat) : Int)), some (0, ((e : Int) + 1))] [] Q) :
    vP D T (N + 1) 324 50 h [some (2, 121), some (0, cp), some (0, x), some (0, y), some (0, p), some (0, ((gJ P q : Nat) : Int)), some (0, (e : Int))] [] Q := by
  refine v_loadS (v := (2, 121)) (hz_X12_tellWay hT _ _ rfl) rfl rfl ?_
  refine v_load (v := (0, cp)) (hz_X12_tellWay hT _ _ rfl) rfl rfl ?_
  refine v_load (v := (0, ((gJ P q : Nat) : Int))) (hz_X12_tellWay hT _ _ rfl) rfl rfl ?_
  refine v_load (v := (0, (e : Int))) (hz_X12_tellWay hT _ _ rfl) rfl rfl ?_
  refine v_call (w := 5) [some (2, 121), some (0, cp), some (0, ((gJ P q : Nat) : Int)), some (0, (e : Int)), none] hO (hz_X12_tellWay hT _ _ rfl) rfl rfl (rb_go hT hO cp ((e : Int)) q e rfl (by omega) gq hR hb (by omega) (by omega) hd ?_)
  show vP D T N 324 59 h [some (2, 121), some (0, cp), some (0, x), some (0, y), some (0, p), some (0, ((gJ P q : Nat) : Int)), some (0, (e : Int))] [(0, (gGo P cp d q e))] _
  refine v_load (v := (2, 121)) (hz_X12_tellWay hT _ _ rfl) rfl rfl ?_
  refine v_getR (c := 130) (r := 121) (hz_X12_tellWay hT _ _ rfl) rfl rfl rfl ?_
  refine v_load (v := (0, ((gJ P q : Nat) : Int))) (hz_X12_tellWay hT _ _ rfl) rfl rfl ?_
  refine v_aldB (t := 0) (r := 130) (w := (d q)) (hz_X12_tellWay hT _ _ rfl) rfl rfl rfl (fun _ _ => (congrArg Prod.snd eq)) (fun ha1 hb2 => ?_)
  refine v_ic (hz_X12_tellWay hT _ _ rfl) (fun hc3 => ?_) (fun hc3 => ?_)
  · have hc3 : (gGo P cp d q e) = (d q) := hc3
    exact k0 ha1 hb2 hc3
  · have hc3 : (gGo P cp d q e) ≠ (d q) := hc3
    refine v_iinc (x := (e : Int)) (u := 1) (w := ((e : Int) + 1)) [some (2, 121), some (0, cp), some (0, x), some (0, y), some (0, p), some (0, ((gJ P q : Nat) : Int)), some (0, ((e : Int) + 1))] (hz_X12_tellWay hT _ _ rfl) rfl rfl (Nat.le_of_ble_eq_true rfl) (vz_inc (by omega) (by omega)) rfl ?_
    refine v_goto (hz_X12_tellWay hT _ _ rfl) ?_
    exact k1 ha1 hb2 hc3
theorem qr_tw75 {D : zD} {T : zT} (hT : hTab T) (hO : vOK T) {N : Nat} {h : zH} {Q : zR → Prop} {P : PT} {q e n : Nat} (cp x y p : Int) (hv0 : zHv h) (hR : rBk 0 P h) (hb : fB P) (gq : gIn P q) (he : e < 4) (en : h 121 31 = (0, (n : Int))) (bn : n < 49)
    (k0 : (gNb P q e = -1) → (0 ≤ (n : Int)) → ((n : Int) < 49) → vP D T N 324 41 (zset (zset h 132 (((n : Int)).toNat) (0, -1)) 121 31 (0, ((n : Int) + 1))) [some (2, 121), some (0, cp), some (0, x), some (0, y), some (0, p), some (0, -1), some (0, (e : Int))] [] Q)
    (k1 : ∀ (q1 : Nat), (gNb P q e = (q1 : Int)) → (gIn P q1) → (0 ≤ (n : Int)) → ((n : Int) < 49) → vP D T N 324 41 (zset (zset h 132 (((n : Int)).toNat) (0, ((gJ P q1 : Nat) : Int))) 121 31 (0, ((n : Int) + 1))) [some (2, 121), some (0, cp), some (0, x), some (0, y), some (0, p), some (0, ((gJ P q1 : Nat) : Int)), some (0, (e : Int))] [] Q) :
    vP D T N 324 75 h [some (2, 121), some (0, cp), some (0, x), some (0, y), some (0, p), some (0, ((gJ P q : Nat) : Int)), some (0, (e : Int))] [] Q := by
  refine v_load (v := (2, 121)) (hz_X12_tellWay hT _ _ rfl) rfl rfl ?_
  refine v_load (v := (0, ((gJ P q : Nat) : Int))) (hz_X12_tellWay hT _ _ rfl) rfl rfl ?_
  refine v_load (v := (0, (e : Int))) (hz_X12_tellWay hT _ _ rfl) rfl rfl ?_
  refine v_call (w := 5) [some (2, 121), some (0, ((gJ P q : Nat) : Int)), some (0, (e : Int)), none, none] hO (hz_X12_tellWay hT _ _ rfl) rfl rfl (rb_bes hT hO ((e : Int)) q e rfl gq (by omega) hR.w hR.r hb.1 (fun en1 => ?_) (fun q1 en1 hg1 => ?_))
  · show vP D T N 324 83 h [some (2, 121), some (0, cp), some (0, x), some (0, y), some (0, p), some (0, ((gJ P q : Nat) : Int)), some (0, (e : Int))] [(0, -1)] _
    refine v_store1 [some (2, 121), some (0, cp), some (0, x), some (0, y), some (0, p), some (0, -1), some (0, (e : Int))] (hz_X12_tellWay hT _ _ rfl) ⟨rfl, Nat.ne_of_beq_eq_false rfl⟩ (Nat.le_of_ble_eq_true rfl) rfl ?_
    refine v_load (v := (2, 121)) (hz_X12_tellWay hT _ _ rfl) rfl rfl ?_
    refine v_getR (c := 132) (r := 121) (hz_X12_tellWay hT _ _ rfl) rfl rfl rfl ?_
    refine v_load (v := (2, 121)) (hz_X12_tellWay hT _ _ rfl) rfl rfl ?_
    refine v_getf (v := (0, (n : Int))) (r := 121) (hz_X12_tellWay hT _ _ rfl) rfl rfl (fun _ => en) ?_
    refine v_load (v := (0, -1)) (hz_X12_tellWay hT _ _ rfl) rfl rfl ?_
    refine v_ast (r := 132) (hz_X12_tellWay hT _ _ rfl) rfl rfl (fun ha2 hb3 hf4 => ?_)
    refine v_load (v := (2, 121)) (hz_X12_tellWay hT _ _ rfl) rfl rfl ?_
    refine v_dup (hz_X12_tellWay hT _ _ rfl) (Nat.ne_of_beq_eq_false rfl) ?_
    refine v_getf (v := (0, (n : Int))) (r := 121) (hz_X12_tellWay hT _ _ rfl) rfl rfl (fun _ => Eq.trans (zset_ne (fun c => absurd c.1 (by decide))) (en)) ?_
    refine v_push (1) (hz_X12_tellWay hT _ _ rfl) rfl ?_
    refine v_bin (w := ((n : Int) + 1)) (hz_X12_tellWay hT _ _ rfl) (hq_add (by omega) (by omega)) ?_
    refine v_putf (r := 121) hO (hz_X12_tellWay hT _ _ rfl) rfl (fun hf5 => ?_)
    refine v_goto (hz_X12_tellWay hT _ _ rfl) ?_
    exact k0 en1 ha2 hb3
  · show vP D T N 324 83 h [some (2, 121), some (0, cp), some (0, x), some (0, y), some (0, p), some (0, ((gJ P q : Nat) : Int)), some (0, (e : Int))] [(0, ((gJ P q1 : Nat) : Int))] _
    refine v_store1 [some (2, 121), some (0, cp), some (0, x), some (0, y), some (0, p), some (0, ((gJ P q1 : Nat) : Int)), some (0, (e : Int))] (hz_X12_tellWay hT _ _ rfl) ⟨rfl, Nat.ne_of_beq_eq_false rfl⟩ (Nat.le_of_ble_eq_true rfl) rfl ?_
    refine v_load (v := (2, 121)) (hz_X12_tellWay hT _ _ rfl) rfl rfl ?_
    refine v_getR (c := 132) (r := 121) (hz_X12_tellWay hT _ _ rfl) rfl rfl rfl ?_
    refine v_load (v := (2, 121)) (hz_X12_tellWay hT _ _ rfl) rfl rfl ?_
    refine v_getf (v := (0, (n : Int))) (r := 121) (hz_X12_tellWay hT _ _ rfl) rfl rfl (fun _ => en) ?_
    refine v_load (v := (0, ((gJ P q1 : Nat) : Int))) (hz_X12_tellWay hT _ _ rfl) rfl rfl ?_
    refine v_ast (r := 132) (hz_X12_tellWay hT _ _ rfl) rfl rfl (fun ha6 hb7 hf8 => ?_)
    refine v_load (v := (2, 121)) (hz_X12_tellWay hT _ _ rfl) rfl rfl ?_
    refine v_dup (hz_X12_tellWay hT _ _ rfl) (Nat.ne_of_beq_eq_false rfl) ?_
    refine v_getf (v := (0, (n : Int))) (r := 121) (hz_X12_tellWay hT _ _ rfl) rfl rfl (fun _ => Eq.trans (zset_ne (fun c => absurd c.1 (by decide))) (en)) ?_
    refine v_push (1) (hz_X12_tellWay hT _ _ rfl) rfl ?_
    refine v_bin (w := ((n : Int) + 1)) (hz_X12_tellWay hT _ _ rfl) (hq_add (by omega) (by omega)) ?_
    refine v_putf (r := 121) hO (hz_X12_tellWay hT _ _ rfl) rfl (fun hf9 => ?_)
    refine v_goto (hz_X12_tellWay hT _ _ rfl) ?_
    exact k1 q1 en1 hg1 ha6 hb7
/-- wayOf(): all weights, round by round -/
theorem rx_woL {D : zD} {T : zT} (hT : hTab T) (hO : vOK T) {h : zH} {Q : zR → Prop} {P : PT} {co : Nat → Int} {cp : Int} {fr to : Nat} (hR : rBk 0 P h) (hb : fB P) (h1 : -1 ≤ cp) (h3 : cp < 3) (gf : gIn P fr) (hco : ∀ q, gIn P q → rC P cp q = co q) (k : ∀ (g : zH) (d : Nat → Int), (∀ a b, a ≠ 130 → g a b = h a b) → wD (gIn P) (gNb P) co g100 to d → oHp P d g → Q (g, some (0, if d fr = 1000000 then 1000000 else d fr / 100))) : ∀ N, (∀ (h' : zH) (d : Nat → Int) (m : Int) (o5 o6 o7 : Option zV), (m = 0 → ∀ q : Nat, gIn P q → ∀ e : Nat, e < 4 → d q ≤ gGo P cp d q e) → oU P cp to d → oHp P d h' → (∀ a b, a ≠ 130 → h' a b = h a b) → vP D T N 336 38 h' [some (2, 121), some (0, cp), some (0, ((gJ P fr : Nat) : Int)), some (0, ((gJ P to : Nat) : Int)), some (0, m), o5, o6, o7] [] Q) ∧ (∀ (h' : zH) (d : Nat → Int) (m : Int) (n : Nat) (o6 o7 : Option zV), n ≤ (P 0 0).toNat * (P 0 1).toNat → oRL P cp d m n 0 → oU P cp to d → oHp P d h' → (∀ a b, a ≠ 130 → h' a b = h a b) → vP D T N 336 49 h' [some (2, 121), some (0, cp), some (0, ((gJ P fr : Nat) : Int)), some (0, ((gJ P to : Nat) : Int)), some (0, m), some (0, (n : Int)), o6, o7] [] Q) ∧ (∀ (h' : zH) (d : Nat → Int) (m : Int) (q e : Nat) (o7 : Option zV), gIn P q → e ≤ 4 → oRL P cp d m (gJ P q) e → oU P cp to d → oHp P d h' → (∀ a b, a ≠ 130 → h' a b = h a b) → vP D T N 336 61 h' [some (2, 121), some (0, cp), some (0, ((gJ P fr : Nat) : Int)), some (0, ((gJ P to : Nat) : Int)), some (0, m), some (0, ((gJ P q : Nat) : Int)), some (0, (e : Int)), o7] [] Q) := by
  have lb := hb.1
  have w6 : wFar = 1000000 := rfl
  have wr : (((P 0 0).toNat * (P 0 1).toNat : Nat) : Int) = P 0 0 * P 0 1 := by rw [Int.natCast_mul, Int.toNat_of_nonneg lb.1.1, Int.toNat_of_nonneg lb.2.1.1]
  have c0 : ∀ q, gIn P q → 0 ≤ rC P cp q := fun q g => (rC_b hb g.1).1
  have fR : ∀ h' : zH, (∀ a b, a ≠ 130 → h' a b = h a b) → rBk 0 P h' := fun h' f => hR.eq lb (fun b _ _ => f 126 b (by decide))
  intro N
  induction N with
  | zero => exact ⟨fun _ _ _ _ _ _ _ _ _ _ _ n r hn => absurd hn (Nat.not_lt_zero _), fun _ _ _ _ _ _ _ _ _ _ _ _ n r hn => absurd hn (Nat.not_lt_zero _), fun _ _ _ _ _ _ _ _ _ _ _ _ _ n r hn => absurd hn (Nat.not_lt_zero _)⟩
  | succ N ih =>
    obtain ⟨ihA, ihB, ihC⟩ := ih
    refine ⟨?_, ?_, ?_⟩
    · intro h' d m o5 o6 o7 hm hu hp hf
      refine vP_hv (fun hv => qr_wo38 hT hO cp ((gJ P fr : Nat) : Int) ((gJ P to : Nat) : Int) m o5 o6 o7 hv ?_ ?_)
      · intro c
        have hd := oU_D hu hco (hm c)
        have kk := k h' d hf hd hp
        refine vP_hv (fun hv => qr_wo120 hT hO (P := P) (q := fr) (d := d) cp ((gJ P to : Nat) : Int) m o5 o6 o7 hv (hp fr gf) (gJ_lt lb gf) (hu.2.1 fr gf) ?_ ?_)
        · intro _ _ c
          exact cb_eq kk (if_pos c)
        · intro _ _ c
          exact cb_eq kk (if_neg c)
      · intro c
        exact ihB h' d 0 0 _ _ (Nat.zero_le _) (fun _ q' _ e' _ c => by omega) hu hp hf
    · intro h' d m n o6 o7 hn hr hu hp hf
      have hR' := fR h' hf
      refine vP_hv (fun hv => qr_wo49 hT hO (P := P) (n := n) cp ((gJ P fr : Nat) : Int) ((gJ P to : Nat) : Int) m o6 o7 hv hR' hb ?_ ?_)
      · intro c
        obtain ⟨g1, g2⟩ := gQ_ok lb (n := n) (by omega)
        have := ihC h' d m (gQ P n) 0 o7 g1 (by decide) (by rw [g2]; exact hr) hu hp hf
        rw [g2] at this
        exact this
      · intro c
        refine ihA h' d m _ _ _ (fun em q gq e he => hr em q gq e he (Or.inl ?_)) hu hp hf
        have := gJ_all lb gq
        omega
    · intro h' d m q e o7 gq he hr hu hp hf
      have hR' := fR h' hf
      refine vP_hv (fun hv => qr_wo61 hT hO (P := P) (q := q) (e := e) (d := d) cp ((gJ P fr : Nat) : Int) ((gJ P to : Nat) : Int) m o7 hv hR' hb gq (gJ_lt lb gq) he h1 h3 (oU_b hu hp) (hp q gq) ?_ ?_ ?_)
      · intro c1 _ _ c2
        have hu2 := oU_set lb hu c0 gq (by omega) c2
        refine ihC _ (fun x => if x = q then gGo P cp d q e else d x) 1 q (e + 1) _ gq (by omega) (fun em => by omega) hu2 (fun r gr => ?_) (fun a b ha => (zset_ne (fun c => ha c.1)).trans (hf a b ha))
        show zset h' 130 (((gJ P q : Nat) : Int)).toNat (0, gGo P cp d q e) 130 (gJ P r) = (0, if r = q then gGo P cp d q e else d r)
        rw [Int.toNat_natCast]
        by_cases c : r = q
        · rw [c, if_pos rfl]; exact zset_same
        · rw [if_neg c]
          exact (zset_ne (fun f => c (gJ_inj lb gr gq f.2))).trans (hp r gr)
      · intro c1 _ _ c2
        refine ihC h' d m q (e + 1) _ gq (by omega) (fun em q' g' e' he' c => ?_) hu hp hf
        by_cases cc : gJ P q' = gJ P q ∧ e' = e
        · have := gJ_inj lb g' gq cc.1
          rw [this, cc.2]
          exact c2
        · exact hr em q' g' e' he' (by omega)
      · intro c1
        have hn := gJ_all lb gq
        exact ihB h' d m (gJ P q + 1) _ _ (by omega) (fun em q' g' e' he' c => hr em q' g' e' he' (by omega)) hu hp hf
theorem rx_wo {D : zD} {T : zT} (hT : hTab T) (hO : vOK T) {N : Nat} {h : zH} {Q : zR → Prop} {P : PT} {co : Nat → Int} (cp : Int) (fr to : Nat) (hR : rBk 0 P h) (hb : fB P) (h1 : -1 ≤ cp) (h3 : cp < 3) (gf : gIn P fr) (gt : gIn P to) (hco : ∀ q, gIn P q → rC P cp q = co q) (k : ∀ (g : zH) (d : Nat → Int), (∀ a b, a ≠ 130 → g a b = h a b) → wD (gIn P) (gNb P) co g100 to d → oHp P d g → Q (g, some (0, if d fr = 1000000 then 1000000 else d fr / 100))) : vP D T N 336 0 h [some (2, 121), some (0, cp), some (0, ((gJ P fr : Nat) : Int)), some (0, ((gJ P to : Nat) : Int)), none, none, none, none] [] Q := by
  have lb := hb.1
  have wr : (((P 0 0).toNat * (P 0 1).toNat : Nat) : Int) = P 0 0 * P 0 1 := by rw [Int.natCast_mul, Int.toNat_of_nonneg lb.1.1, Int.toNat_of_nonneg lb.2.1.1]
  refine vP_hv (fun hv => qr_wo0 hT hO cp ((gJ P fr : Nat) : Int) ((gJ P to : Nat) : Int) hv ?_)
  refine vP_loop (fun h' l => ∃ (i : Nat) (o5 o6 o7 : Option zV), l = [some (2, 121), some (0, cp), some (0, ((gJ P fr : Nat) : Int)), some (0, ((gJ P to : Nat) : Int)), some (0, (i : Int)), o5, o6, o7] ∧ i ≤ (P 0 0).toNat * (P 0 1).toNat ∧ (∀ j, j < i → h' 130 j = (0, 1000000)) ∧ (∀ a b, a ≠ 130 → h' a b = h a b)) ?_ N h _ ⟨0, none, none, none, rfl, Nat.zero_le _, fun j hj => absurd hj (Nat.not_lt_zero _), fun _ _ _ => rfl⟩
  rintro N h' l ⟨i, o5, o6, o7, rfl, hi, hj, hf⟩ ih
  have hR' : rBk 0 P h' := hR.eq lb (fun b _ _ => hf 126 b (by decide))
  have l64 := wy_b lb.1 (y := P 0 1) ⟨lb.2.1.1, by have := lb.2.1.2; omega⟩
  refine vP_hv (fun hv => qr_wo3 hT hO (P := P) (q := to) (i := i) cp ((gJ P fr : Nat) : Int) o5 o6 o7 hv hR' hb (gJ_lt lb gt) (by omega) ?_ ?_)
  · intro c1 _ _
    refine ih _ _ ⟨i + 1, o5, o6, o7, rfl, by omega, fun j hj' => ?_, fun a b ha => (zset_ne (fun c => ha c.1)).trans (hf a b ha)⟩
    rw [Int.toNat_natCast]
    by_cases c : j = i
    · rw [c]; exact zset_same
    · exact (zset_ne (fun f => c f.2)).trans (hj j (by omega))
  · intro c1 _ _
    refine (rx_woL hT hO hR hb h1 h3 gf hco k N).1 _ (fun x => if x = to then 0 else 1000000) 1 _ _ _ (fun c => by omega) oU_ini (fun r gr => ?_) (fun a b ha => (zset_ne (fun c => ha c.1)).trans (hf a b ha))
    show zset h' 130 (((gJ P to : Nat) : Int)).toNat (0, 0) 130 (gJ P r) = (0, if r = to then (0 : Int) else 1000000)
    rw [Int.toNat_natCast]
    by_cases c : r = to
    · rw [c, if_pos rfl]; exact zset_same
    · rw [if_neg c]
      have := gJ_all lb gr
      exact (zset_ne (fun f => c (gJ_inj lb gr gt f.2))).trans (hj _ (by omega))
/-- tellWay(): the row itself -/
theorem rx_twL {D : zD} {T : zT} (hT : hTab T) (hO : vOK T) {h : zH} {Q : zR → Prop} {P : PT} {co d : Nat → Int} {cp p : Int} {fr to : Nat} (hR : rBk 0 P h) (hb : fB P) (h1 : -1 ≤ cp) (h3 : cp < 3) (gf : gIn P fr) (ff : d fr < wFar) (hco : ∀ q, gIn P q → rC P cp q = co q) (hD : wD (gIn P) (gNb P) co g100 to d) (hp : oHp P d h) (gt : gIn P to) (k : ∀ g : zH, rwF h g → rHp P (wPt (gNb P) co d fr) (d fr % 100).toNat g → Q (g, some (0, p))) : ∀ N, (∀ (h' : zH) (n : Nat) (o6 : Option zV), (n : Int) ≤ d fr % 100 → rwF h h' → (∀ r, gIn P r → h' 130 (gJ P r) = h 130 (gJ P r)) → rHp P (wPt (gNb P) co d fr) n h' → vP D T N 324 41 h' [some (2, 121), some (0, cp), some (0, ((gJ P fr : Nat) : Int)), some (0, ((gJ P to : Nat) : Int)), some (0, p), some (0, ((gJ P (wPt (gNb P) co d fr n) : Nat) : Int)), o6] [] Q) ∧ (∀ (h' : zH) (n m : Nat), (n : Int) < d fr % 100 → m ≤ wDr (gNb P) co d (wPt (gNb P) co d fr n) → rwF h h' → (∀ r, gIn P r → h' 130 (gJ P r) = h 130 (gJ P r)) → rHp P (wPt (gNb P) co d fr) n h' → vP D T N 324 50 h' [some (2, 121), some (0, cp), some (0, ((gJ P fr : Nat) : Int)), some (0, ((gJ P to : Nat) : Int)), some (0, p), some (0, ((gJ P (wPt (gNb P) co d fr n) : Nat) : Int)), some (0, (m : Int))] [] Q) := by
  have lb := hb.1
  have hok := gOk lb
  have hcol : ∀ a, gIn P a → co a ≤ 14 := fun a ga => by rw [← hco a ga]; exact (rC_b hb ga.1).2
  have c0 : ∀ q, gIn P q → 0 ≤ rC P cp q := fun q g => (rC_b hb g.1).1
  have r47 := wrank2 hok.1 hcol hD gf ff
  have pt : ∀ n : Nat, (n : Int) ≤ d fr % 100 → gIn P (wPt (gNb P) co d fr n) ∧ d (wPt (gNb P) co d fr n) < wFar := fun n hn => ⟨(wPt_ok hok hcol hD gf ff n hn).1, (wPt_ok hok hcol hD gf ff n hn).2.1⟩
  have fR : ∀ h' : zH, rwF h h' → rBk 0 P h' := fun h' f => hR.eq lb (fun b _ _ => f 126 b (by omega))
  intro N
  induction N with
  | zero => exact ⟨fun _ _ _ _ _ _ _ _ n r hn => absurd hn (Nat.not_lt_zero _), fun _ _ _ _ _ _ _ _ _ n r hn => absurd hn (Nat.not_lt_zero _)⟩
  | succ N ih =>
    constructor
    · intro h' n o6 hn hm he hh
      have wt := wPt_to hok hcol hD gf ff (i := n) hn
      refine vP_hv (fun hv => qr_tw41_ hT hO (P := P) cp ((gJ P fr : Nat) : Int) ((gJ P to : Nat) : Int) p ((gJ P (wPt (gNb P) co d fr n) : Nat) : Int) o6 hv ?_ ?_)
      · intro c
        have e := wt.mp (gJ_inj lb (pt n hn).1 gt (by omega))
        refine k h' hm ?_
        rw [show (d fr % 100).toNat = n by omega]
        exact hh
      · intro c
        have : (n : Int) ≠ d fr % 100 := fun e => c (by rw [wt.mpr e])
        exact ih.2 h' n 0 (by omega) (Nat.zero_le _) hm he hh
    · intro h' n m hn hm4 hm he hh
      obtain ⟨c1, f1⟩ := pt n (by omega)
      have nt : wPt (gNb P) co d fr n ≠ to := fun c => by
        have := (wPt_to hok hcol hD gf ff (i := n) (by omega)).mp c
        omega
      obtain ⟨k1, k2, k3, k4, k5, k6, k7, k8⟩ := wNx_ok hok hD c1 nt f1
      have hd' : ∀ r, gIn P r → h' 130 (gJ P r) = (0, d r) ∧ 0 ≤ d r ∧ d r ≤ 1000000 := fun r g => ⟨(he r g).trans (hp r g), hD.2.1.1 r g⟩
      have hR' := fR h' hm
      have hit := gGo_hit (P := P) (cp := cp) (co := co) lb hco c0 (fun q g => hD.2.1.1 q g) c1 f1 (k := m) (by omega)
      refine vP_hv (fun hv => qr_tw50 hT hO (P := P) (q := wPt (gNb P) co d fr n) (e := m) (d := d) cp ((gJ P fr : Nat) : Int) ((gJ P to : Nat) : Int) p hv hR' hb c1 (gJ_lt lb c1) (by omega) h1 h3 hd' (hd' _ c1).1 ?_ ?_)
      · intro _ _ c
        have em : m = wDr (gNb P) co d (wPt (gNb P) co d fr n) := by
          by_cases cc : m = wDr (gNb P) co d (wPt (gNb P) co d fr n)
          · exact cc
          · exact absurd (hit.mp c) (k3 m (by omega))
        refine vP_hv (fun hv => qr_tw75 hT hO (P := P) (q := wPt (gNb P) co d fr n) (e := m) (n := n + 1) cp ((gJ P fr : Nat) : Int) ((gJ P to : Nat) : Int) p hv hR' hb c1 (by omega) hh.2 (by omega) ?_ ?_)
        · intro f _ _
          rw [← em, f] at k5
          omega
        · intro q5 f g5 _ _
          have e5 : q5 = wPt (gNb P) co d fr (n + 1) := by
            rw [← em, f] at k5
            show q5 = wNx (gNb P) co d (wPt (gNb P) co d fr n)
            omega
          subst e5
          refine ih.1 _ (n + 1) _ (by omega) ((hm.z (by omega)).z (by omega)) (fun r g => (zset_ne (by omega)).trans ((zset_ne (by omega)).trans (he r g))) (rHp_s hh)
      · intro _ _ c
        refine ih.2 h' n (m + 1) hn ?_ hm he hh
        by_cases cc : m = wDr (gNb P) co d (wPt (gNb P) co d fr n)
        · exact absurd (hit.mpr (by rw [cc]; exact k2)) c
        · omega
theorem rx_tw {D : zD} {T : zT} (hT : hTab T) (hO : vOK T) {N : Nat} {h : zH} {Q : zR → Prop} {P : PT} {co : Nat → Int} (cp : Int) (fr to : Nat) (hR : rBk 0 P h) (hb : fB P) (h1 : -1 ≤ cp) (h3 : cp < 3) (gf : gIn P fr) (gt : gIn P to) (hco : ∀ q, gIn P q → rC P cp q = co q) (k1 : ∀ g : zH, rwF h g → yCost P co fr to = -1 → Q (g, some (0, 1000000))) (k2 : ∀ g : zH, rwF h g → 0 ≤ yCost P co fr to → yCost P co fr to < 1000000 → rHp P (yPt P co fr to) (yN P co fr to) g → Q (g, some (0, yCost P co fr to))) : vP D T N 324 0 h [some (2, 121), some (0, cp), some (0, ((gJ P fr : Nat) : Int)), some (0, ((gJ P to : Nat) : Int)), none, none, none] [] Q := by
  have lb := hb.1
  have w6 : wFar = 1000000 := rfl
  refine vP_hv (fun hv => qr_tw0 hT hO cp ((gJ P fr : Nat) : Int) ((gJ P to : Nat) : Int) hv ?_)
  refine rx_wo hT hO cp fr to hR hb h1 h3 gf gt hco ?_
  intro g d u1 hD hp
  have hDW := dW_ok (P := P) (co := co) (to := to)
  have ed : ∀ q, gIn P q → d q = dW P co to q := fun q gq => wD_uni g100_p hD hDW gq
  have hp' : oHp P (dW P co to) g := fun r gr => (hp r gr).trans (by rw [ed r gr])
  have bd := hDW.2.1.1 fr gf
  rw [ed fr gf]
  show vP D T N 324 7 g [some (2, 121), some (0, cp), some (0, ((gJ P fr : Nat) : Int)), some (0, ((gJ P to : Nat) : Int)), none, none, none] [(0, if dW P co to fr = 1000000 then 1000000 else dW P co to fr / 100)] Q
  refine vP_hv (fun hv1 => qr_tw7 hT hO cp ((gJ P fr : Nat) : Int) ((gJ P to : Nat) : Int) (if dW P co to fr = 1000000 then 1000000 else dW P co to fr / 100) hv1 ?_ ?_)
  · intro c
    have ff : ¬ dW P co to fr < wFar := fun c2 => by
      rw [if_neg (by omega)] at c
      omega
    exact k1 _ (fun a b hn => (zset_ne (by omega)).trans (u1 a b (by omega))) (if_neg ff)
  · intro c
    have ff : dW P co to fr < wFar := by
      by_cases c2 : dW P co to fr = 1000000
      · rw [if_pos c2] at c
        exact absurd rfl c
      · omega
    have ec : yCost P co fr to = dW P co to fr / 100 := if_pos ff
    have e2 : (if dW P co to fr = 1000000 then (1000000 : Int) else dW P co to fr / 100) = yCost P co fr to := by rw [if_neg (by omega), ec]
    rw [e2]
    have hr : rBk 0 P (zset (zset (zset g 121 31 (0, 0)) 132 0 (0, ((gJ P fr : Nat) : Int))) 121 31 (0, 1)) := hR.eq lb (fun b _ _ => (zset_ne (by omega)).trans ((zset_ne (by omega)).trans ((zset_ne (by omega)).trans (u1 126 b (by omega)))))
    refine (rx_twL hT hO (p := yCost P co fr to) hr hb h1 h3 gf ff hco hDW (fun r gr => (zset_ne (by omega)).trans ((zset_ne (by omega)).trans ((zset_ne (by omega)).trans (hp' r gr)))) gt (fun g2 v1 v2 => k2 g2 (fun a b hn => (v1 a b hn).trans ((zset_ne (by omega)).trans ((zset_ne (by omega)).trans ((zset_ne (by omega)).trans (u1 a b (by omega)))))) (by omega) (by omega) v2) N).1 _ 0 _ (by omega) (fun _ _ _ => rfl) (fun _ _ => rfl) ⟨fun i hi => ?_, zset_same⟩
    have : i = 0 := by omega
    subst this
    exact (zset_ne (by omega)).trans zset_same
