theorem qr_dr {D : zD} {T : zT} (hT : hTab T) (hO : vOK T) {N : Nat} {h : zH} {Q : zR → Prop} (r x : Int) (hv0 : zHv h) (e4 : h 121 42 = (0, r)) (br : 0 ≤ r ∧ r < 65536) (bx : 1 ≤ x ∧ x ≤ 48)
    (k0 : (x ≠ 0) → Q (zset h 121 42 (0, (((r * 2837) + 10331) % 65536)), some (0, (((((r * 2837) + 10331) % 65536) / 8) % x)))) :
    vP D T N 222 0 h [some (2, 121), some (0, x)] [] Q := by
  refine v_load (v := (2, 121)) (hz_X12_draw hT _ _ rfl) rfl rfl ?_
  refine v_load (v := (2, 121)) (hz_X12_draw hT _ _ rfl) rfl rfl ?_
  refine v_getf (v := (0, r)) (r := 121) (hz_X12_draw hT _ _ rfl) rfl rfl (fun _ => e4) ?_
  refine v_push (2837) (hz_X12_draw hT _ _ rfl) rfl ?_
  refine v_bin (w := (r * 2837)) (hz_X12_draw hT _ _ rfl) (hq_mul (by omega) (by omega)) ?_
  refine v_push (10331) (hz_X12_draw hT _ _ rfl) rfl ?_
  refine v_bin (w := ((r * 2837) + 10331)) (hz_X12_draw hT _ _ rfl) (hq_add (by omega) (by omega)) ?_
  refine v_push (65536) (hz_X12_draw hT _ _ rfl) rfl ?_
  refine v_div (w := (((r * 2837) + 10331) % 65536)) (hz_X12_draw hT _ _ rfl) (fun _ => hq_rem (by omega) (by omega) (by omega) (by omega)) (fun hc1 => ?_)
  refine v_putf (r := 121) hO (hz_X12_draw hT _ _ rfl) rfl (fun hf2 => ?_)
  refine v_load (v := (2, 121)) (hz_X12_draw hT _ _ rfl) rfl rfl ?_
  refine v_getf (v := (0, (((r * 2837) + 10331) % 65536))) (r := 121) (hz_X12_draw hT _ _ rfl) rfl rfl (fun _ => zset_same) ?_
  refine v_push (8) (hz_X12_draw hT _ _ rfl) rfl ?_
  refine v_div (w := ((((r * 2837) + 10331) % 65536) / 8)) (hz_X12_draw hT _ _ rfl) (fun _ => hq_quo (by omega) (by omega) (by omega) (by omega)) (fun hc3 => ?_)
  refine v_load (v := (0, x)) (hz_X12_draw hT _ _ rfl) rfl rfl ?_
  refine v_div (w := (((((r * 2837) + 10331) % 65536) / 8) % x)) (hz_X12_draw hT _ _ rfl) (fun _ => hq_rem (by omega) (by omega) (by omega) (by omega)) (fun hc4 => ?_)
  refine v_ret (hz_X12_draw hT _ _ rfl) (Or.inl rfl) ?_
  exact k0 hc4
theorem qr_dc0 {D : zD} {T : zT} (hT : hTab T) (hO : vOK T) {N : Nat} {h : zH} {Q : zR → Prop} {P : PT} (hv0 : zHv h) (p0 : h 126 0 = (0, P 0 0))
    (k0 : vP D T N 222 0 h [some (2, 121), some (0, (P 0 0))] [] (fun r1 => vP D T N 223 10 r1.1 [some (2, 121), none] (zpush r1.2 []) Q)) :
    vP D T N 223 0 h [some (2, 121), none] [] Q := by
  refine v_load (v := (2, 121)) (hz_X12_drawCell hT _ _ rfl) rfl rfl ?_
  refine v_load (v := (2, 121)) (hz_X12_drawCell hT _ _ rfl) rfl rfl ?_
  refine v_getR (c := 126) (r := 121) (hz_X12_drawCell hT _ _ rfl) rfl rfl rfl ?_
  refine v_push (0) (hz_X12_drawCell hT _ _ rfl) rfl ?_
  refine v_aldV (v := (0, (P 0 0))) (r := 126) (hz_X12_drawCell hT _ _ rfl) rfl rfl (fun _ _ _ => p0) (fun ha1 hb2 => ?_)
  refine v_call (w := 2) [some (2, 121), some (0, (P 0 0))] hO (hz_X12_drawCell hT _ _ rfl) rfl rfl ?_
  exact k0 
theorem qr_dc10 {D : zD} {T : zT} (hT : hTab T) (hO : vOK T) {N : Nat} {h : zH} {Q : zR → Prop} {P : PT} (x : Int) (hv0 : zHv h) (p1 : h 126 1 = (0, P 0 1))
    (k0 : vP D T N 222 0 h [some (2, 121), some (0, (P 0 1))] [] (fun r1 => vP D T N 223 23 r1.1 [some (2, 121), some (0, x)] (zpush r1.2 [(0, x), (2, 121)]) Q)) :
    vP D T N 223 10 h [some (2, 121), none] [(0, x)] Q := by
  refine v_store1 [some (2, 121), some (0, x)] (hz_X12_drawCell hT _ _ rfl) ⟨rfl, Nat.ne_of_beq_eq_false rfl⟩ (Nat.le_of_ble_eq_true rfl) rfl ?_
  refine v_load (v := (2, 121)) (hz_X12_drawCell hT _ _ rfl) rfl rfl ?_
  refine v_load (v := (0, x)) (hz_X12_drawCell hT _ _ rfl) rfl rfl ?_
  refine v_load (v := (2, 121)) (hz_X12_drawCell hT _ _ rfl) rfl rfl ?_
  refine v_load (v := (2, 121)) (hz_X12_drawCell hT _ _ rfl) rfl rfl ?_
  refine v_getR (c := 126) (r := 121) (hz_X12_drawCell hT _ _ rfl) rfl rfl rfl ?_
  refine v_push (1) (hz_X12_drawCell hT _ _ rfl) rfl ?_
  refine v_aldV (v := (0, (P 0 1))) (r := 126) (hz_X12_drawCell hT _ _ rfl) rfl rfl (fun _ _ _ => p1) (fun ha1 hb2 => ?_)
  refine v_call (w := 2) [some (2, 121), some (0, (P 0 1))] hO (hz_X12_drawCell hT _ _ rfl) rfl rfl ?_
  exact k0 
theorem qr_dc23 {D : zD} {T : zT} (hT : hTab T) (hO : vOK T) {N : Nat} {h : zH} {Q : zR → Prop} {P : PT} (x y : Int) (hv0 : zHv h) (p0 : h 126 0 = (0, P 0 0)) (lb : lB P) (bx : 0 ≤ x ∧ x < 8) (by_ : 0 ≤ y ∧ y < 6)
    (k0 : Q (h, some (0, ((P 0 0) * y + x)))) :
    vP D T N 223 23 h [some (2, 121), some (0, x)] [(0, y), (0, x), (2, 121)] Q := by
  refine v_call (w := 3) [some (2, 121), some (0, x), some (0, y)] hO (hz_X12_drawCell hT _ _ rfl) rfl rfl (rb_at2 hT hO x y (by omega) (by omega) p0 lb ?_)
  show vP D T N 223 26 h [some (2, 121), some (0, x)] [(0, ((P 0 0) * y + x))] _
  refine v_ret (hz_X12_drawCell hT _ _ rfl) (Or.inl rfl) ?_
  exact k0 
theorem qr_ea0 {D : zD} {T : zT} (hT : hTab T) (hO : vOK T) {N : Nat} {h : zH} {Q : zR → Prop} {P : PT} {j q : Nat} (hv0 : zHv h)
    (k0 : vP D T N 203 0 h [some (2, 121), some (0, (j : Int)), some (0, ((gJ P q : Nat) : Int))] [] (fun r1 => vP D T N 224 6 r1.1 [some (2, 121), some (0, (j : Int)), some (0, ((gJ P q : Nat) : Int))] (zpush r1.2 []) Q)) :
    vP D T N 224 0 h [some (2, 121), some (0, (j : Int)), some (0, ((gJ P q : Nat) : Int))] [] Q := by
  refine v_load (v := (2, 121)) (hz_X12_eats hT _ _ rfl) rfl rfl ?_
  refine v_load (v := (0, (j : Int))) (hz_X12_eats hT _ _ rfl) rfl rfl ?_
  refine v_load (v := (0, ((gJ P q : Nat) : Int))) (hz_X12_eats hT _ _ rfl) rfl rfl ?_
  refine v_call (w := 3) [some (2, 121), some (0, (j : Int)), some (0, ((gJ P q : Nat) : Int))] hO (hz_X12_eats hT _ _ rfl) rfl rfl ?_
  exact k0 
theorem qr_ea6n {D : zD} {T : zT} (hT : hTab T) (hO : vOK T) {N : Nat} {h : zH} {Q : zR → Prop} {P : PT} {j q : Nat} (hv0 : zHv h)
    (k0 : Q (h, some (0, 0))) :
    vP D T N 224 6 h [some (2, 121), some (0, (j : Int)), some (0, ((gJ P q : Nat) : Int))] [(0, -1)] Q := by
  refine v_if (hz_X12_eats hT _ _ rfl) (fun _ => ?_) (fun hc1 => absurd (show (-1 : Int) < 0 from (by decide)) hc1)
  refine v_push (0) (hz_X12_eats hT _ _ rfl) rfl ?_
  refine v_ret (hz_X12_eats hT _ _ rfl) (Or.inl rfl) ?_
  exact k0 
theorem qr_ea6y {D : zD} {T : zT} (hT : hTab T) (hO : vOK T) {N : Nat} {h : zH} {Q : zR → Prop} {P : PT} {j q b : Nat} (v : Int) (hv0 : zHv h) (hv : 0 ≤ v) (e9 : h 121 45 = (0, (b : Int))) (bb : b ≤ 4000)
    (k0 : Q (zset h 121 45 (0, ((b : Int) + 1)), some (0, 1))) :
    vP D T N 224 6 h [some (2, 121), some (0, (j : Int)), some (0, ((gJ P q : Nat) : Int))] [(0, v)] Q := by
  refine v_if (hz_X12_eats hT _ _ rfl) (fun hc1 => absurd (show v < 0 from hc1) (by omega)) (fun _ => ?_)
  refine v_load (v := (2, 121)) (hz_X12_eats hT _ _ rfl) rfl rfl ?_
  refine v_dup (hz_X12_eats hT _ _ rfl) (Nat.ne_of_beq_eq_false rfl) ?_
  refine v_getf (v := (0, (b : Int))) (r := 121) (hz_X12_eats hT _ _ rfl) rfl rfl (fun _ => e9) ?_
  refine v_push (1) (hz_X12_eats hT _ _ rfl) rfl ?_
  refine v_bin (w := ((b : Int) + 1)) (hz_X12_eats hT _ _ rfl) (hq_add (by omega) (by omega)) ?_
  refine v_putf (r := 121) hO (hz_X12_eats hT _ _ rfl) rfl (fun hf2 => ?_)
  refine v_push (1) (hz_X12_eats hT _ _ rfl) rfl ?_
  refine v_ret (hz_X12_eats hT _ _ rfl) (Or.inl rfl) ?_
  exact k0 
theorem qr_mo0 {D : zD} {T : zT} (hT : hTab T) (hO : vOK T) {N : Nat} {h : zH} {Q : zR → Prop} {j b : Nat} (hv0 : zHv h)
    (k0 : vP D T N 223 0 h [some (2, 121), none] [] (fun r1 => vP D T N 281 4 r1.1 [some (2, 121), some (0, (j : Int)), some (0, (b : Int)), none, none, none] (zpush r1.2 []) Q)) :
    vP D T N 281 0 h [some (2, 121), some (0, (j : Int)), some (0, (b : Int)), none, none, none] [] Q := by
  refine v_load (v := (2, 121)) (hz_X12_mouse hT _ _ rfl) rfl rfl ?_
  refine v_call (w := 2) [some (2, 121), none] hO (hz_X12_mouse hT _ _ rfl) rfl rfl ?_
  exact k0 
theorem qr_mo4 {D : zD} {T : zT} (hT : hTab T) (hO : vOK T) {N : Nat} {h : zH} {Q : zR → Prop} {P : PT} {j b q : Nat} (hv0 : zHv h)
    (k0 : vP D T N 224 0 h [some (2, 121), some (0, (j : Int)), some (0, ((gJ P q : Nat) : Int))] [] (fun r1 => vP D T N 281 11 r1.1 [some (2, 121), some (0, (j : Int)), some (0, (b : Int)), some (0, ((gJ P q : Nat) : Int)), none, none] (zpush r1.2 []) Q)) :
    vP D T N 281 4 h [some (2, 121), some (0, (j : Int)), some (0, (b : Int)), none, none, none] [(0, ((gJ P q : Nat) : Int))] Q := by
  refine v_store1 [some (2, 121), some (0, (j : Int)), some (0, (b : Int)), some (0, ((gJ P q : Nat) : Int)), none, none] (hz_X12_mouse hT _ _ rfl) ⟨rfl, Nat.ne_of_beq_eq_false rfl⟩ (Nat.le_of_ble_eq_true rfl) rfl ?_
  refine v_load (v := (2, 121)) (hz_X12_mouse hT _ _ rfl) rfl rfl ?_
  refine v_load (v := (0, (j : Int))) (hz_X12_mouse hT _ _ rfl) rfl rfl ?_
  refine v_load (v := (0, ((gJ P q : Nat) : Int))) (hz_X12_mouse hT _ _ rfl) rfl rfl ?_
  refine v_call (w := 3) [some (2, 121), some (0, (j : Int)), some (0, ((gJ P q : Nat) : Int))] hO (hz_X12_mouse hT _ _ rfl) rfl rfl ?_
  exact k0 
theorem qr_mo11 {D : zD} {T : zT} (hT : hTab T) (hO : vOK T) {N : Nat} {h : zH} {Q : zR → Prop} {P : PT} {j b q : Nat} (z : Int) (hv0 : zHv h)
    (k0 : vP D T N 281 15 h [some (2, 121), some (0, (j : Int)), some (0, (b : Int)), some (0, ((gJ P q : Nat) : Int)), some (0, 0), none] [] Q) :
    vP D T N 281 11 h [some (2, 121), some (0, (j : Int)), some (0, (b : Int)), some (0, ((gJ P q : Nat) : Int)), none, none] [(0, z)] Q := by
  refine v_pop (hz_X12_mouse hT _ _ rfl) (Nat.ne_of_beq_eq_false rfl) ?_
  refine v_push (0) (hz_X12_mouse hT _ _ rfl) rfl ?_
  refine v_store1 [some (2, 121), some (0, (j : Int)), some (0, (b : Int)), some (0, ((gJ P q : Nat) : Int)), some (0, 0), none] (hz_X12_mouse hT _ _ rfl) ⟨rfl, Nat.ne_of_beq_eq_false rfl⟩ (Nat.le_of_ble_eq_true rfl) rfl ?_
  exact k0 
theorem qr_mo15 {D : zD} {T : zT} (hT : hTab T) (hO : vOK T) {N : Nat} {h : zH} {Q : zR → Prop} {P : PT} {j b q i : Nat} (o : Option zV) (hv0 : zHv h) (hib : (i : Int) < (b : Int))
    (k0 : vP D T N 222 0 h [some (2, 121), some (0, 4)] [] (fun r1 => vP D T N 281 28 r1.1 [some (2, 121), some (0, (j : Int)), some (0, (b : Int)), some (0, ((gJ P q : Nat) : Int)), some (0, (i : Int)), o] (zpush r1.2 [(0, ((gJ P q : Nat) : Int)), (2, 121)]) Q)) :
    vP D T N 281 15 h [some (2, 121), some (0, (j : Int)), some (0, (b : Int)), some (0, ((gJ P q : Nat) : Int)), some (0, (i : Int)), o] [] Q := by
  refine v_load (v := (0, (i : Int))) (hz_X12_mouse hT _ _ rfl) rfl rfl ?_
  refine v_load (v := (0, (b : Int))) (hz_X12_mouse hT _ _ rfl) rfl rfl ?_
  refine v_ic (hz_X12_mouse hT _ _ rfl) (fun _ => ?_) (fun hc1 => absurd (show (i : Int) < (b : Int) from hib) hc1)
  refine v_load (v := (2, 121)) (hz_X12_mouse hT _ _ rfl) rfl rfl ?_
  refine v_load (v := (0, ((gJ P q : Nat) : Int))) (hz_X12_mouse hT _ _ rfl) rfl rfl ?_
  refine v_load (v := (2, 121)) (hz_X12_mouse hT _ _ rfl) rfl rfl ?_
  refine v_push (4) (hz_X12_mouse hT _ _ rfl) rfl ?_
  refine v_call (w := 2) [some (2, 121), some (0, 4)] hO (hz_X12_mouse hT _ _ rfl) rfl rfl ?_
  exact k0 
theorem qr_mox {D : zD} {T : zT} (hT : hTab T) (hO : vOK T) {N : Nat} {h : zH} {Q : zR → Prop} {P : PT} {j b q : Nat} (o : Option zV) (hv0 : zHv h)
    (k0 : Q (h, none)) :
    vP D T N 281 15 h [some (2, 121), some (0, (j : Int)), some (0, (b : Int)), some (0, ((gJ P q : Nat) : Int)), some (0, (b : Int)), o] [] Q := by
  refine v_load (v := (0, (b : Int))) (hz_X12_mouse hT _ _ rfl) rfl rfl ?_
  refine v_load (v := (0, (b : Int))) (hz_X12_mouse hT _ _ rfl) rfl rfl ?_
  refine v_ic (hz_X12_mouse hT _ _ rfl) (fun hc1 => absurd (show (b : Int) < (b : Int) from hc1) (by omega)) (fun _ => ?_)
  refine v_ret0 (hz_X12_mouse hT _ _ rfl) ?_
  exact k0 
theorem qr_mo28 {D : zD} {T : zT} (hT : hTab T) (hO : vOK T) {N : Nat} {h : zH} {Q : zR → Prop} {P : PT} {j b q i d : Nat} (o : Option zV) (hv0 : zHv h) (p0 : h 126 0 = (0, P 0 0)) (p1 : h 126 1 = (0, P 0 1)) (hb : fB P) (gq : gIn P q) (hd : d < 4)
    (k0 : (gNb P q d = -1) → vP D T N 224 0 h [some (2, 121), some (0, (j : Int)), some (0, ((gJ P q : Nat) : Int))] [] (fun r1 => vP D T N 281 51 r1.1 [some (2, 121), some (0, (j : Int)), some (0, (b : Int)), some (0, ((gJ P q : Nat) : Int)), some (0, (i : Int)), some (0, -1)] (zpush r1.2 []) Q))
    (k1 : ∀ (q1 : Nat), (gNb P q d = (q1 : Int)) → (gIn P q1) → (((gJ P q1 : Nat) : Int) < 0) → vP D T N 224 0 h [some (2, 121), some (0, (j : Int)), some (0, ((gJ P q : Nat) : Int))] [] (fun r1 => vP D T N 281 51 r1.1 [some (2, 121), some (0, (j : Int)), some (0, (b : Int)), some (0, ((gJ P q : Nat) : Int)), some (0, (i : Int)), some (0, ((gJ P q1 : Nat) : Int))] (zpush r1.2 []) Q))
    (k2 : ∀ (q1 : Nat), (gNb P q d = (q1 : Int)) → (gIn P q1) → (0 ≤ ((gJ P q1 : Nat) : Int)) → vP D T N 224 0 h [some (2, 121), some (0, (j : Int)), some (0, ((gJ P q1 : Nat) : Int))] [] (fun r1 => vP D T N 281 51 r1.1 [some (2, 121), some (0, (j : Int)), some (0, (b : Int)), some (0, ((gJ P q1 : Nat) : Int)), some (0, (i : Int)), some (0, ((gJ P q1 : Nat) : Int))] (zpush r1.2 []) Q)) :
    vP D T N 281 28 h [some (2, 121), some (0, (j : Int)), some (0, (b : Int)), some (0, ((gJ P q : Nat) : Int)), some (0, (i : Int)), o] [(0, (d : Int)), (0, ((gJ P q : Nat) : Int)), (2, 121)] Q := by
  refine v_call (w := 5) [some (2, 121), some (0, ((gJ P q : Nat) : Int)), some (0, (d : Int)), none, none] hO (hz_X12_mouse hT _ _ rfl) rfl rfl (rb_bes hT hO ((d : Int)) q d rfl gq (by omega) p0 p1 hb.1 (fun en1 => ?_) (fun q1 en1 hg1 => ?_))
  · show vP D T N 281 31 h [some (2, 121), some (0, (j : Int)), some (0, (b : Int)), some (0, ((gJ P q : Nat) : Int)), some (0, (i : Int)), o] [(0, -1)] _
    refine v_store1 [some (2, 121), some (0, (j : Int)), some (0, (b : Int)), some (0, ((gJ P q : Nat) : Int)), some (0, (i : Int)), some (0, -1)] (hz_X12_mouse hT _ _ rfl) ⟨rfl, Nat.ne_of_beq_eq_false rfl⟩ (Nat.le_of_ble_eq_true rfl) rfl ?_
    refine v_load (v := (0, -1)) (hz_X12_mouse hT _ _ rfl) rfl rfl ?_
    refine v_if (hz_X12_mouse hT _ _ rfl) (fun _ => ?_) (fun hc2 => absurd (show (-1 : Int) < 0 from (by decide)) hc2)
    refine v_load (v := (0, ((gJ P q : Nat) : Int))) (hz_X12_mouse hT _ _ rfl) rfl rfl ?_
    refine v_goto (hz_X12_mouse hT _ _ rfl) ?_
    refine v_store1 [some (2, 121), some (0, (j : Int)), some (0, (b : Int)), some (0, ((gJ P q : Nat) : Int)), some (0, (i : Int)), some (0, -1)] (hz_X12_mouse hT _ _ rfl) ⟨rfl, Nat.ne_of_beq_eq_false rfl⟩ (Nat.le_of_ble_eq_true rfl) rfl ?_
    refine v_load (v := (2, 121)) (hz_X12_mouse hT _ _ rfl) rfl rfl ?_
    refine v_load (v := (0, (j : Int))) (hz_X12_mouse hT _ _ rfl) rfl rfl ?_
    refine v_load (v := (0, ((gJ P q : Nat) : Int))) (hz_X12_mouse hT _ _ rfl) rfl rfl ?_
    refine v_call (w := 3) [some (2, 121), some (0, (j : Int)), some (0, ((gJ P q : Nat) : Int))] hO (hz_X12_mouse hT _ _ rfl) rfl rfl ?_
    exact k0 en1
  · show vP D T N 281 31 h [some (2, 121), some (0, (j : Int)), some (0, (b : Int)), some (0, ((gJ P q : Nat) : Int)), some (0, (i : Int)), o] [(0, ((gJ P q1 : Nat) : Int))] _
    refine v_store1 [some (2, 121), some (0, (j : Int)), some (0, (b : Int)), some (0, ((gJ P q : Nat) : Int)), some (0, (i : Int)), some (0, ((gJ P q1 : Nat) : Int))] (hz_X12_mouse hT _ _ rfl) ⟨rfl, Nat.ne_of_beq_eq_false rfl⟩ (Nat.le_of_ble_eq_true rfl) rfl ?_
    refine v_load (v := (0, ((gJ P q1 : Nat) : Int))) (hz_X12_mouse hT _ _ rfl) rfl rfl ?_
    refine v_if (hz_X12_mouse hT _ _ rfl) (fun hc3 => ?_) (fun hc3 => ?_)
    · have hc3 : ((gJ P q1 : Nat) : Int) < 0 := hc3
      refine v_load (v := (0, ((gJ P q : Nat) : Int))) (hz_X12_mouse hT _ _ rfl) rfl rfl ?_
      refine v_goto (hz_X12_mouse hT _ _ rfl) ?_
      refine v_store1 [some (2, 121), some (0, (j : Int)), some (0, (b : Int)), some (0, ((gJ P q : Nat) : Int)), some (0, (i : Int)), some (0, ((gJ P q1 : Nat) : Int))] (hz_X12_mouse hT _ _ rfl) ⟨rfl, Nat.ne_of_beq_eq_false rfl⟩ (Nat.le_of_ble_eq_true rfl) rfl ?_
      refine v_load (v := (2, 121)) (hz_X12_mouse hT _ _ rfl) rfl rfl ?_
      refine v_load (v := (0, (j : Int))) (hz_X12_mouse hT _ _ rfl) rfl rfl ?_
      refine v_load (v := (0, ((gJ P q : Nat) : Int))) (hz_X12_mouse hT _ _ rfl) rfl rfl ?_
      refine v_call (w := 3) [some (2, 121), some (0, (j : Int)), some (0, ((gJ P q : Nat) : Int))] hO (hz_X12_mouse hT _ _ rfl) rfl rfl ?_
      exact k1 q1 en1 hg1 hc3
    · have hc3 : 0 ≤ ((gJ P q1 : Nat) : Int) := Int.not_lt.mp hc3
      refine v_load (v := (0, ((gJ P q1 : Nat) : Int))) (hz_X12_mouse hT _ _ rfl) rfl rfl ?_
      refine v_store1 [some (2, 121), some (0, (j : Int)), some (0, (b : Int)), some (0, ((gJ P q1 : Nat) : Int)), some (0, (i : Int)), some (0, ((gJ P q1 : Nat) : Int))] (hz_X12_mouse hT _ _ rfl) ⟨rfl, Nat.ne_of_beq_eq_false rfl⟩ (Nat.le_of_ble_eq_true rfl) rfl ?_
      refine v_load (v := (2, 121)) (hz_X12_mouse hT _ _ rfl) rfl rfl ?_
      refine v_load (v := (0, (j : Int))) (hz_X12_mouse hT _ _ rfl) rfl rfl ?_
      refine v_load (v := (0, ((gJ P q1 : Nat) : Int))) (hz_X12_mouse hT _ _ rfl) rfl rfl ?_
      refine v_call (w := 3) [some (2, 121), some (0, (j : Int)), some (0, ((gJ P q1 : Nat) : Int))] hO (hz_X12_mouse hT _ _ rfl) rfl rfl ?_
      exact k2 q1 en1 hg1 hc3
theorem qr_mo51 {D : zD} {T : zT} (hT : hTab T) (hO : vOK T) {N : Nat} {h : zH} {Q : zR → Prop} {P : PT} {j b q i : Nat} (z w : Int) (hv0 : zHv h) (bi : i ≤ 12)
    (k0 : vP D T N 281 15 h [some (2, 121), some (0, (j : Int)), some (0, (b : Int)), some (0, ((gJ P q : Nat) : Int)), some (0, ((i : Int) + 1)), some (0, w)] [] Q) :
    vP D T N 281 51 h [some (2, 121), some (0, (j : Int)), some (0, (b : Int)), some (0, ((gJ P q : Nat) : Int)), some (0, (i : Int)), some (0, w)] [(0, z)] Q := by
  refine v_pop (hz_X12_mouse hT _ _ rfl) (Nat.ne_of_beq_eq_false rfl) ?_
  refine v_iinc (x := (i : Int)) (u := 1) (w := ((i : Int) + 1)) [some (2, 121), some (0, (j : Int)), some (0, (b : Int)), some (0, ((gJ P q : Nat) : Int)), some (0, ((i : Int) + 1)), some (0, w)] (hz_X12_mouse hT _ _ rfl) rfl rfl (Nat.le_of_ble_eq_true rfl) (vz_inc (by omega) (by omega)) rfl ?_
  refine v_goto (hz_X12_mouse hT _ _ rfl) ?_
  exact k0 
theorem qr_go0 {D : zD} {T : zT} (hT : hTab T) (hO : vOK T) {N : Nat} {h : zH} {Q : zR → Prop} {a : Nat} (hv0 : zHv h)
    (k0 : vP D T N 275 0 h [some (2, 121), some (0, (a : Int)), none, none] [] (fun r1 => vP D T N 231 5 r1.1 [some (2, 121), some (0, (a : Int))] (zpush r1.2 []) Q)) :
    vP D T N 231 0 h [some (2, 121), some (0, (a : Int))] [] Q := by
  refine v_load (v := (2, 121)) (hz_X12_goes hT _ _ rfl) rfl rfl ?_
  refine v_load (v := (0, (a : Int))) (hz_X12_goes hT _ _ rfl) rfl rfl ?_
  refine v_call (w := 4) [some (2, 121), some (0, (a : Int)), none, none] hO (hz_X12_goes hT _ _ rfl) rfl rfl ?_
  exact k0 
theorem qr_go5n {D : zD} {T : zT} (hT : hTab T) (hO : vOK T) {N : Nat} {h : zH} {Q : zR → Prop} {a : Nat} (hv0 : zHv h)
    (k0 : Q (h, some (0, 0))) :
    vP D T N 231 5 h [some (2, 121), some (0, (a : Int))] [(0, -1)] Q := by
  refine v_if (hz_X12_goes hT _ _ rfl) (fun _ => ?_) (fun hc1 => absurd (show (-1 : Int) < 0 from (by decide)) hc1)
  refine v_push (0) (hz_X12_goes hT _ _ rfl) rfl ?_
  refine v_ret (hz_X12_goes hT _ _ rfl) (Or.inl rfl) ?_
  exact k0 
theorem qr_go5y {D : zD} {T : zT} (hT : hTab T) (hO : vOK T) {N : Nat} {h : zH} {Q : zR → Prop} {a k n : Nat} (v : Int) (hv0 : zHv h) (hv : 0 ≤ v) (e46 : h 121 46 = (0, (k : Int))) (e33 : h 121 33 = (0, (n : Int))) (bk : k ≤ 300) (bn : n ≤ 1)
    (k0 : Q (zset h 121 46 (0, ((k : Int) + (n : Int))), some (0, 1))) :
    vP D T N 231 5 h [some (2, 121), some (0, (a : Int))] [(0, v)] Q := by
  refine v_if (hz_X12_goes hT _ _ rfl) (fun hc1 => absurd (show v < 0 from hc1) (by omega)) (fun _ => ?_)
  refine v_load (v := (2, 121)) (hz_X12_goes hT _ _ rfl) rfl rfl ?_
  refine v_dup (hz_X12_goes hT _ _ rfl) (Nat.ne_of_beq_eq_false rfl) ?_
  refine v_getf (v := (0, (k : Int))) (r := 121) (hz_X12_goes hT _ _ rfl) rfl rfl (fun _ => e46) ?_
  refine v_load (v := (2, 121)) (hz_X12_goes hT _ _ rfl) rfl rfl ?_
  refine v_getf (v := (0, (n : Int))) (r := 121) (hz_X12_goes hT _ _ rfl) rfl rfl (fun _ => e33) ?_
  refine v_bin (w := ((k : Int) + (n : Int))) (hz_X12_goes hT _ _ rfl) (hq_add (by omega) (by omega)) ?_
  refine v_putf (r := 121) hO (hz_X12_goes hT _ _ rfl) rfl (fun hf2 => ?_)
  refine v_push (1) (hz_X12_goes hT _ _ rfl) rfl ?_
  refine v_ret (hz_X12_goes hT _ _ rfl) (Or.inl rfl) ?_
  exact k0 
theorem qr_un0 {D : zD} {T : zT} (hT : hTab T) (hO : vOK T) {N : Nat} {h : zH} {Q : zR → Prop} {j t : Nat} (hv0 : zHv h)
    (k0 : vP D T N 333 5 h [some (2, 121), some (0, (j : Int)), some (0, (t : Int)), some (0, 0), some (0, 0)] [] Q) :
    vP D T N 333 0 h [some (2, 121), some (0, (j : Int)), some (0, (t : Int)), none, none] [] Q := by
  refine v_push (0) (hz_X12_unlikeOf hT _ _ rfl) rfl ?_
  refine v_store1 [some (2, 121), some (0, (j : Int)), some (0, (t : Int)), some (0, 0), none] (hz_X12_unlikeOf hT _ _ rfl) ⟨rfl, Nat.ne_of_beq_eq_false rfl⟩ (Nat.le_of_ble_eq_true rfl) rfl ?_
  refine v_push (0) (hz_X12_unlikeOf hT _ _ rfl) rfl ?_
  refine v_store1 [some (2, 121), some (0, (j : Int)), some (0, (t : Int)), some (0, 0), some (0, 0)] (hz_X12_unlikeOf hT _ _ rfl) ⟨rfl, Nat.ne_of_beq_eq_false rfl⟩ (Nat.le_of_ble_eq_true rfl) rfl ?_
  exact k0 
theorem qr_un5 {D : zD} {T : zT} (hT : hTab T) (hO : vOK T) {N : Nat} {h : zH} {Q : zR → Prop} {P : PT} {j t m q : Nat} (hv0 : zHv h) (hR : rBk 0 P h) (hb : fB P) (gq : gIn P q) (hq : gJ P q < 48) (hj : j < 3) (ht : t < 3) (hm : m ≤ 48) (hlt : ((gJ P q : Nat) : Int) < ((P 0 0) * (P 0 1)))
    (k0 : ((P 3 (48 * j + q)) = (P 3 (48 * t + q))) → vP D T N 333 5 h [some (2, 121), some (0, (j : Int)), some (0, (t : Int)), some (0, ((m : Int) + 0)), some (0, (((gJ P q : Nat) : Int) + 1))] [] Q)
    (k1 : ((P 3 (48 * j + q)) ≠ (P 3 (48 * t + q))) → vP D T N 333 5 h [some (2, 121), some (0, (j : Int)), some (0, (t : Int)), some (0, ((m : Int) + 1)), some (0, (((gJ P q : Nat) : Int) + 1))] [] Q) :
    vP D T (N + 1) 333 5 h [some (2, 121), some (0, (j : Int)), some (0, (t : Int)), some (0, (m : Int)), some (0, ((gJ P q : Nat) : Int))] [] Q := by
  refine v_loadS (v := (0, ((gJ P q : Nat) : Int))) (hz_X12_unlikeOf hT _ _ rfl) rfl rfl ?_
  refine v_load (v := (2, 121)) (hz_X12_unlikeOf hT _ _ rfl) rfl rfl ?_
  refine v_call (w := 1) [some (2, 121)] hO (hz_X12_unlikeOf hT _ _ rfl) rfl rfl (rb_cells hT hO hR.w hR.r hb.1 ?_)
  show vP D T N 333 11 h [some (2, 121), some (0, (j : Int)), some (0, (t : Int)), some (0, (m : Int)), some (0, ((gJ P q : Nat) : Int))] [(0, ((P 0 0) * (P 0 1))), (0, ((gJ P q : Nat) : Int))] _
  refine v_ic (hz_X12_unlikeOf hT _ _ rfl) (fun _ => ?_) (fun hc1 => absurd (show ((gJ P q : Nat) : Int) < ((P 0 0) * (P 0 1)) from hlt) hc1)
  refine v_load (v := (0, (m : Int))) (hz_X12_unlikeOf hT _ _ rfl) rfl rfl ?_
  refine v_load (v := (2, 121)) (hz_X12_unlikeOf hT _ _ rfl) rfl rfl ?_
  refine v_load (v := (0, (j : Int))) (hz_X12_unlikeOf hT _ _ rfl) rfl rfl ?_
  refine v_load (v := (0, ((gJ P q : Nat) : Int))) (hz_X12_unlikeOf hT _ _ rfl) rfl rfl ?_
  refine v_call (w := 3) [some (2, 121), some (0, (j : Int)), some (0, ((gJ P q : Nat) : Int))] hO (hz_X12_unlikeOf hT _ _ rfl) rfl rfl (rb_st hT hO ((j : Int)) j q rfl (by omega) gq hR hb ?_)
  show vP D T N 333 22 h [some (2, 121), some (0, (j : Int)), some (0, (t : Int)), some (0, (m : Int)), some (0, ((gJ P q : Nat) : Int))] [(0, (P 3 (48 * j + q))), (0, (m : Int))] _
  refine v_load (v := (2, 121)) (hz_X12_unlikeOf hT _ _ rfl) rfl rfl ?_
  refine v_load (v := (0, (t : Int))) (hz_X12_unlikeOf hT _ _ rfl) rfl rfl ?_
  refine v_load (v := (0, ((gJ P q : Nat) : Int))) (hz_X12_unlikeOf hT _ _ rfl) rfl rfl ?_
  refine v_call (w := 3) [some (2, 121), some (0, (t : Int)), some (0, ((gJ P q : Nat) : Int))] hO (hz_X12_unlikeOf hT _ _ rfl) rfl rfl (rb_st hT hO ((t : Int)) t q rfl (by omega) gq hR hb ?_)
  show vP D T N 333 29 h [some (2, 121), some (0, (j : Int)), some (0, (t : Int)), some (0, (m : Int)), some (0, ((gJ P q : Nat) : Int))] [(0, (P 3 (48 * t + q))), (0, (P 3 (48 * j + q))), (0, (m : Int))] _
  refine v_ic (hz_X12_unlikeOf hT _ _ rfl) (fun hc2 => ?_) (fun hc2 => ?_)
  · have hc2 : (P 3 (48 * j + q)) = (P 3 (48 * t + q)) := hc2
    refine v_push (0) (hz_X12_unlikeOf hT _ _ rfl) rfl ?_
    refine v_goto (hz_X12_unlikeOf hT _ _ rfl) ?_
    refine v_bin (w := ((m : Int) + 0)) (hz_X12_unlikeOf hT _ _ rfl) (hq_add (by omega) (by omega)) ?_
    refine v_store1 [some (2, 121), some (0, (j : Int)), some (0, (t : Int)), some (0, ((m : Int) + 0)), some (0, ((gJ P q : Nat) : Int))] (hz_X12_unlikeOf hT _ _ rfl) ⟨rfl, Nat.ne_of_beq_eq_false rfl⟩ (Nat.le_of_ble_eq_true rfl) rfl ?_
    refine v_iinc (x := ((gJ P q : Nat) : Int)) (u := 1) (w := (((gJ P q : Nat) : Int) + 1)) [some (2, 121), some (0, (j : Int)), some (0, (t : Int)), some (0, ((m : Int) + 0)), some (0, (((gJ P q : Nat) : Int) + 1))] (hz_X12_unlikeOf hT _ _ rfl) rfl rfl (Nat.le_of_ble_eq_true rfl) (vz_inc (by omega) (by omega)) rfl ?_
    refine v_goto (hz_X12_unlikeOf hT _ _ rfl) ?_
    exact k0 hc2
  · have hc2 : (P 3 (48 * j + q)) ≠ (P 3 (48 * t + q)) := hc2
    refine v_push (1) (hz_X12_unlikeOf hT _ _ rfl) rfl ?_
    refine v_bin (w := ((m : Int) + 1)) (hz_X12_unlikeOf hT _ _ rfl) (hq_add (by omega) (by omega)) ?_
    refine v_store1 [some (2, 121), some (0, (j : Int)), some (0, (t : Int)), some (0, ((m : Int) + 1)), some (0, ((gJ P q : Nat) : Int))] (hz_X12_unlikeOf hT _ _ rfl) ⟨rfl, Nat.ne_of_beq_eq_false rfl⟩ (Nat.le_of_ble_eq_true rfl) rfl ?_
    refine v_iinc (x := ((gJ P q : Nat) : Int)) (u := 1) (w := (((gJ P q : Nat) : Int) + 1)) [some (2, 121), some (0, (j : Int)), some (0, (t : Int)), some (0, ((m : Int) + 1)), some (0, (((gJ P q : Nat) : Int) + 1))] (hz_X12_unlikeOf hT _ _ rfl) rfl rfl (Nat.le_of_ble_eq_true rfl) (vz_inc (by omega) (by omega)) rfl ?_
    refine v_goto (hz_X12_unlikeOf hT _ _ rfl) ?_
    exact k1 hc2
theorem qr_un9 {D : zD} {T : zT} (hT : hTab T) (hO : vOK T) {N : Nat} {h : zH} {Q : zR → Prop} {P : PT} {j t m n : Nat} (hv0 : zHv h) (hR : rBk 0 P h) (hb : fB P) (hge : ((P 0 0) * (P 0 1)) ≤ (n : Int))
    (k0 : Q (h, some (0, (m : Int)))) :
    vP D T (N + 1) 333 5 h [some (2, 121), some (0, (j : Int)), some (0, (t : Int)), some (0, (m : Int)), some (0, (n : Int))] [] Q := by
  refine v_loadS (v := (0, (n : Int))) (hz_X12_unlikeOf hT _ _ rfl) rfl rfl ?_
  refine v_load (v := (2, 121)) (hz_X12_unlikeOf hT _ _ rfl) rfl rfl ?_
  refine v_call (w := 1) [some (2, 121)] hO (hz_X12_unlikeOf hT _ _ rfl) rfl rfl (rb_cells hT hO hR.w hR.r hb.1 ?_)
  show vP D T N 333 11 h [some (2, 121), some (0, (j : Int)), some (0, (t : Int)), some (0, (m : Int)), some (0, (n : Int))] [(0, ((P 0 0) * (P 0 1))), (0, (n : Int))] _
  refine v_ic (hz_X12_unlikeOf hT _ _ rfl) (fun hc1 => absurd (show (n : Int) < ((P 0 0) * (P 0 1)) from hc1) (by omega)) (fun _ => ?_)
  refine v_load (v := (0, (m : Int))) (hz_X12_unlikeOf hT _ _ rfl) rfl rfl ?_
  refine v_ret (hz_X12_unlikeOf hT _ _ rfl) (Or.inl rfl) ?_
  exact k0 
theorem qr_ss0 {D : zD} {T : zT} (hT : hTab T) (hO : vOK T) {N : Nat} {h : zH} {Q : zR → Prop} {j t : Nat} (hv0 : zHv h)
    (k0 : vP D T N 333 0 h [some (2, 121), some (0, (j : Int)), some (0, (t : Int)), none, none] [] (fun r1 => vP D T N 317 6 r1.1 [some (2, 121), some (0, (j : Int)), some (0, (t : Int)), none, none] (zpush r1.2 []) Q)) :
    vP D T N 317 0 h [some (2, 121), some (0, (j : Int)), some (0, (t : Int)), none, none] [] Q := by
  refine v_load (v := (2, 121)) (hz_X12_steams hT _ _ rfl) rfl rfl ?_
  refine v_load (v := (0, (j : Int))) (hz_X12_steams hT _ _ rfl) rfl rfl ?_
  refine v_load (v := (0, (t : Int))) (hz_X12_steams hT _ _ rfl) rfl rfl ?_
  refine v_call (w := 5) [some (2, 121), some (0, (j : Int)), some (0, (t : Int)), none, none] hO (hz_X12_steams hT _ _ rfl) rfl rfl ?_
  exact k0 
theorem qr_ss6 {D : zD} {T : zT} (hT : hTab T) (hO : vOK T) {N : Nat} {h : zH} {Q : zR → Prop} {j t : Nat} (z : Int) (hv0 : zHv h)
    (k0 : vP D T N 317 10 h [some (2, 121), some (0, (j : Int)), some (0, (t : Int)), some (0, z), some (0, 0)] [] Q) :
    vP D T N 317 6 h [some (2, 121), some (0, (j : Int)), some (0, (t : Int)), none, none] [(0, z)] Q := by
  refine v_store1 [some (2, 121), some (0, (j : Int)), some (0, (t : Int)), some (0, z), none] (hz_X12_steams hT _ _ rfl) ⟨rfl, Nat.ne_of_beq_eq_false rfl⟩ (Nat.le_of_ble_eq_true rfl) rfl ?_
  refine v_push (0) (hz_X12_steams hT _ _ rfl) rfl ?_
  refine v_store1 [some (2, 121), some (0, (j : Int)), some (0, (t : Int)), some (0, z), some (0, 0)] (hz_X12_steams hT _ _ rfl) ⟨rfl, Nat.ne_of_beq_eq_false rfl⟩ (Nat.le_of_ble_eq_true rfl) rfl ?_
  exact k0 
theorem qr_ss10 {D : zD} {T : zT} (hT : hTab T) (hO : vOK T) {N : Nat} {h : zH} {Q : zR → Prop} {P : PT} {j t q : Nat} (z v : Int) (hv0 : zHv h) (p0 : h 126 0 = (0, P 0 0)) (p1 : h 126 1 = (0, P 0 1)) (hb : fB P) (gq : gIn P q) (hq : gJ P q < 48) (hj : j < 3) (ht : t < 3) (hlt : ((gJ P q : Nat) : Int) < ((P 0 0) * (P 0 1))) (ev : h 126 ((101 + (48 * (j : Int))) + ((gJ P q : Nat) : Int)).toNat = (0, v))
    (k0 : (0 ≤ ((101 + (48 * (j : Int))) + ((gJ P q : Nat) : Int))) → (((101 + (48 * (j : Int))) + ((gJ P q : Nat) : Int)) < 2750) → (0 ≤ ((101 + (48 * (t : Int))) + ((gJ P q : Nat) : Int))) → (((101 + (48 * (t : Int))) + ((gJ P q : Nat) : Int)) < 2750) → vP D T N 317 10 (zset h 126 ((((101 + (48 * (t : Int))) + ((gJ P q : Nat) : Int))).toNat) (0, v)) [some (2, 121), some (0, (j : Int)), some (0, (t : Int)), some (0, z), some (0, (((gJ P q : Nat) : Int) + 1))] [] Q) :
    vP D T (N + 1) 317 10 h [some (2, 121), some (0, (j : Int)), some (0, (t : Int)), some (0, z), some (0, ((gJ P q : Nat) : Int))] [] Q := by
  refine v_loadS (v := (0, ((gJ P q : Nat) : Int))) (hz_X12_steams hT _ _ rfl) rfl rfl ?_
  refine v_load (v := (2, 121)) (hz_X12_steams hT _ _ rfl) rfl rfl ?_
  refine v_call (w := 1) [some (2, 121)] hO (hz_X12_steams hT _ _ rfl) rfl rfl (rb_cells hT hO p0 p1 hb.1 ?_)
  show vP D T N 317 16 h [some (2, 121), some (0, (j : Int)), some (0, (t : Int)), some (0, z), some (0, ((gJ P q : Nat) : Int))] [(0, ((P 0 0) * (P 0 1))), (0, ((gJ P q : Nat) : Int))] _
  refine v_ic (hz_X12_steams hT _ _ rfl) (fun _ => ?_) (fun hc1 => absurd (show ((gJ P q : Nat) : Int) < ((P 0 0) * (P 0 1)) from hlt) hc1)
  refine v_load (v := (2, 121)) (hz_X12_steams hT _ _ rfl) rfl rfl ?_
  refine v_getR (c := 126) (r := 121) (hz_X12_steams hT _ _ rfl) rfl rfl rfl ?_
  refine v_load (v := (0, (t : Int))) (hz_X12_steams hT _ _ rfl) rfl rfl ?_
  refine v_load (v := (0, ((gJ P q : Nat) : Int))) (hz_X12_steams hT _ _ rfl) rfl rfl ?_
  refine v_call (w := 2) [some (0, (t : Int)), some (0, ((gJ P q : Nat) : Int))] hO (hz_X12_steams hT _ _ rfl) rfl rfl ?_
  refine v_push (101) (hi_X12_state_0 hT) rfl ?_
  refine v_push (48) (hi_X12_state_2 hT) rfl ?_
  refine v_load (v := (0, (t : Int))) (hi_X12_state_4 hT) rfl rfl ?_
  refine v_bin (w := (48 * (t : Int))) (hi_X12_state_5 hT) (hq_mul (by omega) (by omega)) ?_
  refine v_bin (w := (101 + (48 * (t : Int)))) (hi_X12_state_6 hT) (hq_add (by omega) (by omega)) ?_
  refine v_load (v := (0, ((gJ P q : Nat) : Int))) (hi_X12_state_7 hT) rfl rfl ?_
  refine v_bin (w := ((101 + (48 * (t : Int))) + ((gJ P q : Nat) : Int))) (hi_X12_state_8 hT) (hq_add (by omega) (by omega)) ?_
  refine v_ret (hi_X12_state_9 hT) (Or.inl rfl) ?_
  show vP D T N 317 29 h [some (2, 121), some (0, (j : Int)), some (0, (t : Int)), some (0, z), some (0, ((gJ P q : Nat) : Int))] [(0, ((101 + (48 * (t : Int))) + ((gJ P q : Nat) : Int))), (2, 126)] _
  refine v_load (v := (2, 121)) (hz_X12_steams hT _ _ rfl) rfl rfl ?_
  refine v_load (v := (0, (j : Int))) (hz_X12_steams hT _ _ rfl) rfl rfl ?_
  refine v_load (v := (0, ((gJ P q : Nat) : Int))) (hz_X12_steams hT _ _ rfl) rfl rfl ?_
  refine v_call (w := 3) [some (2, 121), some (0, (j : Int)), some (0, ((gJ P q : Nat) : Int))] hO (hz_X12_steams hT _ _ rfl) rfl rfl ?_
  refine v_load (v := (2, 121)) (hz_X12_stateOf hT _ _ rfl) rfl rfl ?_
  refine v_getR (c := 126) (r := 121) (hz_X12_stateOf hT _ _ rfl) rfl rfl rfl ?_
  refine v_load (v := (0, (j : Int))) (hz_X12_stateOf hT _ _ rfl) rfl rfl ?_
  refine v_load (v := (0, ((gJ P q : Nat) : Int))) (hz_X12_stateOf hT _ _ rfl) rfl rfl ?_
  refine v_call (w := 2) [some (0, (j : Int)), some (0, ((gJ P q : Nat) : Int))] hO (hz_X12_stateOf hT _ _ rfl) rfl rfl ?_
  refine v_push (101) (hi_X12_state_0 hT) rfl ?_
  refine v_push (48) (hi_X12_state_2 hT) rfl ?_
  refine v_load (v := (0, (j : Int))) (hi_X12_state_4 hT) rfl rfl ?_
  refine v_bin (w := (48 * (j : Int))) (hi_X12_state_5 hT) (hq_mul (by omega) (by omega)) ?_
  refine v_bin (w := (101 + (48 * (j : Int)))) (hi_X12_state_6 hT) (hq_add (by omega) (by omega)) ?_
  refine v_load (v := (0, ((gJ P q : Nat) : Int))) (hi_X12_state_7 hT) rfl rfl ?_
  refine v_bin (w := ((101 + (48 * (j : Int))) + ((gJ P q : Nat) : Int))) (hi_X12_state_8 hT) (hq_add (by omega) (by omega)) ?_
  refine v_ret (hi_X12_state_9 hT) (Or.inl rfl) ?_
  show vP D T N 314 9 h [some (2, 121), some (0, (j : Int)), some (0, ((gJ P q : Nat) : Int))] [(0, ((101 + (48 * (j : Int))) + ((gJ P q : Nat) : Int))), (2, 126)] _
  refine v_aldB (t := 0) (r := 126) (w := v) (hz_X12_stateOf hT _ _ rfl) rfl rfl rfl (fun _ _ => (congrArg Prod.snd ev)) (fun ha2 hb3 => ?_)
  refine v_ret (hz_X12_stateOf hT _ _ rfl) (Or.inl rfl) ?_
  show vP D T N 317 36 h [some (2, 121), some (0, (j : Int)), some (0, (t : Int)), some (0, z), some (0, ((gJ P q : Nat) : Int))] [(0, v), (0, ((101 + (48 * (t : Int))) + ((gJ P q : Nat) : Int))), (2, 126)] _
  refine v_ast (r := 126) (hz_X12_steams hT _ _ rfl) rfl rfl (fun ha4 hb5 hf6 => ?_)
  refine v_iinc (x := ((gJ P q : Nat) : Int)) (u := 1) (w := (((gJ P q : Nat) : Int) + 1)) [some (2, 121), some (0, (j : Int)), some (0, (t : Int)), some (0, z), some (0, (((gJ P q : Nat) : Int) + 1))] (hz_X12_steams hT _ _ rfl) rfl rfl (Nat.le_of_ble_eq_true rfl) (vz_inc (by omega) (by omega)) rfl ?_
  refine v_goto (hz_X12_steams hT _ _ rfl) ?_
  exact k0 ha2 hb3 ha4 hb5
theorem qr_ss9 {D : zD} {T : zT} (hT : hTab T) (hO : vOK T) {N : Nat} {h : zH} {Q : zR → Prop} {P : PT} {j t n : Nat} (z : Int) (hv0 : zHv h) (p0 : h 126 0 = (0, P 0 0)) (p1 : h 126 1 = (0, P 0 1)) (hb : fB P) (hge : ((P 0 0) * (P 0 1)) ≤ (n : Int))
    (k0 : Q (h, some (0, z))) :
    vP D T (N + 1) 317 10 h [some (2, 121), some (0, (j : Int)), some (0, (t : Int)), some (0, z), some (0, (n : Int))] [] Q := by
  refine v_loadS (v := (0, (n : Int))) (hz_X12_steams hT _ _ rfl) rfl rfl ?_
  refine v_load (v := (2, 121)) (hz_X12_steams hT _ _ rfl) rfl rfl ?_
  refine v_call (w := 1) [some (2, 121)] hO (hz_X12_steams hT _ _ rfl) rfl rfl (rb_cells hT hO p0 p1 hb.1 ?_)
  show vP D T N 317 16 h [some (2, 121), some (0, (j : Int)), some (0, (t : Int)), some (0, z), some (0, (n : Int))] [(0, ((P 0 0) * (P 0 1))), (0, (n : Int))] _
  refine v_ic (hz_X12_steams hT _ _ rfl) (fun hc1 => absurd (show (n : Int) < ((P 0 0) * (P 0 1)) from hc1) (by omega)) (fun _ => ?_)
  refine v_load (v := (0, z)) (hz_X12_steams hT _ _ rfl) rfl rfl ?_
  refine v_ret (hz_X12_steams hT _ _ rfl) (Or.inl rfl) ?_
  exact k0 
theorem qr_so16 {D : zD} {T : zT} (hT : hTab T) (hO : vOK T) {N : Nat} {h : zH} {Q : zR → Prop} {P : PT} {s a b : Nat} (hv0 : zHv h) (hR : rBk 0 P h) (hb : fB P) (bs : s < 30) (w6 : h 126 ((277 + (9 * (s : Int))) + 6).toNat = (0, 0)) (w1 : h 126 ((277 + (9 * (s : Int))) + 1).toNat = (0, (a : Int))) (w2 : h 126 ((277 + (9 * (s : Int))) + 2).toNat = (0, ((gJ P b : Nat) : Int))) (ha : a < 3) (gb : gIn P b)
    (k0 : (0 ≤ ((277 + (9 * (s : Int))) + 6)) → (((277 + (9 * (s : Int))) + 6) < 2750) → (0 ≤ ((277 + (9 * (s : Int))) + 1)) → (((277 + (9 * (s : Int))) + 1) < 2750) → (0 ≤ ((277 + (9 * (s : Int))) + 2)) → (((277 + (9 * (s : Int))) + 2) < 2750) → ((P 3 (48 * a + b)) = 1) → Q (h, some (0, 1)))
    (k1 : (0 ≤ ((277 + (9 * (s : Int))) + 6)) → (((277 + (9 * (s : Int))) + 6) < 2750) → (0 ≤ ((277 + (9 * (s : Int))) + 1)) → (((277 + (9 * (s : Int))) + 1) < 2750) → (0 ≤ ((277 + (9 * (s : Int))) + 2)) → (((277 + (9 * (s : Int))) + 2) < 2750) → ((P 3 (48 * a + b)) ≠ 1) → Q (h, some (0, 0))) :
    vP D T N 261 0 h [some (2, 121), some (0, (277 + (9 * (s : Int)))), none] [] Q := by
  refine v_load (v := (2, 121)) (hi_X12_isSo_0 hT) rfl rfl ?_
  refine v_getR (c := 126) (r := 121) (hi_X12_isSo_1 hT) rfl rfl rfl ?_
  refine v_load (v := (0, (277 + (9 * (s : Int))))) (hi_X12_isSo_4 hT) rfl rfl ?_
  refine v_push (6) (hi_X12_isSo_5 hT) rfl ?_
  refine v_bin (w := ((277 + (9 * (s : Int))) + 6)) (hi_X12_isSo_7 hT) (hq_add (by omega) (by omega)) ?_
  refine v_aldB (t := 0) (r := 126) (w := 0) (hi_X12_isSo_8 hT) rfl rfl rfl (fun _ _ => (congrArg Prod.snd w6)) (fun ha1 hb2 => ?_)
  refine v_store1 [some (2, 121), some (0, (277 + (9 * (s : Int)))), some (0, 0)] (hi_X12_isSo_9 hT) ⟨rfl, Nat.ne_of_beq_eq_false rfl⟩ (Nat.le_of_ble_eq_true rfl) rfl ?_
  refine v_load (v := (0, 0)) (hi_X12_isSo_10 hT) rfl rfl ?_
  refine v_if (hi_X12_isSo_11 hT) (fun _ => ?_) (fun hc3 => absurd (show (0 : Int) = 0 from (by decide)) hc3)
  refine v_load (v := (2, 121)) (hz_X12_isSo hT _ _ rfl) rfl rfl ?_
  refine v_load (v := (2, 121)) (hz_X12_isSo hT _ _ rfl) rfl rfl ?_
  refine v_getR (c := 126) (r := 121) (hz_X12_isSo hT _ _ rfl) rfl rfl rfl ?_
  refine v_load (v := (0, (277 + (9 * (s : Int))))) (hz_X12_isSo hT _ _ rfl) rfl rfl ?_
  refine v_push (1) (hz_X12_isSo hT _ _ rfl) rfl ?_
  refine v_bin (w := ((277 + (9 * (s : Int))) + 1)) (hz_X12_isSo hT _ _ rfl) (hq_add (by omega) (by omega)) ?_
  refine v_aldB (t := 0) (r := 126) (w := (a : Int)) (hz_X12_isSo hT _ _ rfl) rfl rfl rfl (fun _ _ => (congrArg Prod.snd w1)) (fun ha4 hb5 => ?_)
  refine v_load (v := (2, 121)) (hz_X12_isSo hT _ _ rfl) rfl rfl ?_
  refine v_getR (c := 126) (r := 121) (hz_X12_isSo hT _ _ rfl) rfl rfl rfl ?_
  refine v_load (v := (0, (277 + (9 * (s : Int))))) (hz_X12_isSo hT _ _ rfl) rfl rfl ?_
  refine v_push (2) (hz_X12_isSo hT _ _ rfl) rfl ?_
  refine v_bin (w := ((277 + (9 * (s : Int))) + 2)) (hz_X12_isSo hT _ _ rfl) (hq_add (by omega) (by omega)) ?_
  refine v_aldB (t := 0) (r := 126) (w := ((gJ P b : Nat) : Int)) (hz_X12_isSo hT _ _ rfl) rfl rfl rfl (fun _ _ => (congrArg Prod.snd w2)) (fun ha6 hb7 => ?_)
  refine v_call (w := 3) [some (2, 121), some (0, (a : Int)), some (0, ((gJ P b : Nat) : Int))] hO (hz_X12_isSo hT _ _ rfl) rfl rfl (rb_st hT hO ((a : Int)) a b rfl (by omega) gb hR hb ?_)
  show vP D T N 261 34 h [some (2, 121), some (0, (277 + (9 * (s : Int)))), some (0, 0)] [(0, (P 3 (48 * a + b)))] _
  refine v_push (1) (hz_X12_isSo hT _ _ rfl) rfl ?_
  refine v_ic (hz_X12_isSo hT _ _ rfl) (fun hc8 => ?_) (fun hc8 => ?_)
  · have hc8 : (P 3 (48 * a + b)) = 1 := hc8
    refine v_push (1) (hz_X12_isSo hT _ _ rfl) rfl ?_
    refine v_goto (hz_X12_isSo hT _ _ rfl) ?_
    refine v_ret (hz_X12_isSo hT _ _ rfl) (Or.inl rfl) ?_
    exact k0 ha1 hb2 ha4 hb5 ha6 hb7 hc8
  · have hc8 : (P 3 (48 * a + b)) ≠ 1 := hc8
    refine v_push (0) (hz_X12_isSo hT _ _ rfl) rfl ?_
    refine v_ret (hz_X12_isSo hT _ _ rfl) (Or.inl rfl) ?_
    exact k1 ha1 hb2 ha4 hb5 ha6 hb7 hc8
theorem qr_so17 {D : zD} {T : zT} (hT : hTab T) (hO : vOK T) {N : Nat} {h : zH} {Q : zR → Prop} {P : PT} {s a : Nat} (hv0 : zHv h) (bs : s < 30) (w6 : h 126 ((277 + (9 * (s : Int))) + 6).toNat = (0, 1)) (w1 : h 126 ((277 + (9 * (s : Int))) + 1).toNat = (0, (a : Int))) (ha : a < 6) (ea : h 126 (245 + (a : Int)).toNat = (0, ((gJ P (P 6 a).toNat : Nat) : Int))) (eg : h 126 (251 + (a : Int)).toNat = (0, ((gJ P (P 7 a).toNat : Nat) : Int)))
    (k0 : (0 ≤ ((277 + (9 * (s : Int))) + 6)) → (((277 + (9 * (s : Int))) + 6) < 2750) → (0 ≤ ((277 + (9 * (s : Int))) + 1)) → (((277 + (9 * (s : Int))) + 1) < 2750) → (0 ≤ (245 + (a : Int))) → ((245 + (a : Int)) < 2750) → (0 ≤ (251 + (a : Int))) → ((251 + (a : Int)) < 2750) → (((gJ P (P 6 a).toNat : Nat) : Int) = ((gJ P (P 7 a).toNat : Nat) : Int)) → Q (h, some (0, 1)))
    (k1 : (0 ≤ ((277 + (9 * (s : Int))) + 6)) → (((277 + (9 * (s : Int))) + 6) < 2750) → (0 ≤ ((277 + (9 * (s : Int))) + 1)) → (((277 + (9 * (s : Int))) + 1) < 2750) → (0 ≤ (245 + (a : Int))) → ((245 + (a : Int)) < 2750) → (0 ≤ (251 + (a : Int))) → ((251 + (a : Int)) < 2750) → (((gJ P (P 6 a).toNat : Nat) : Int) ≠ ((gJ P (P 7 a).toNat : Nat) : Int)) → Q (h, some (0, 0))) :
    vP D T N 261 0 h [some (2, 121), some (0, (277 + (9 * (s : Int)))), none] [] Q := by
  refine v_load (v := (2, 121)) (hi_X12_isSo_0 hT) rfl rfl ?_
  refine v_getR (c := 126) (r := 121) (hi_X12_isSo_1 hT) rfl rfl rfl ?_
  refine v_load (v := (0, (277 + (9 * (s : Int))))) (hi_X12_isSo_4 hT) rfl rfl ?_
  refine v_push (6) (hi_X12_isSo_5 hT) rfl ?_
  refine v_bin (w := ((277 + (9 * (s : Int))) + 6)) (hi_X12_isSo_7 hT) (hq_add (by omega) (by omega)) ?_
  refine v_aldB (t := 0) (r := 126) (w := 1) (hi_X12_isSo_8 hT) rfl rfl rfl (fun _ _ => (congrArg Prod.snd w6)) (fun ha1 hb2 => ?_)
  refine v_store1 [some (2, 121), some (0, (277 + (9 * (s : Int)))), some (0, 1)] (hi_X12_isSo_9 hT) ⟨rfl, Nat.ne_of_beq_eq_false rfl⟩ (Nat.le_of_ble_eq_true rfl) rfl ?_
  refine v_load (v := (0, 1)) (hi_X12_isSo_10 hT) rfl rfl ?_
  refine v_if (hi_X12_isSo_11 hT) (fun hc3 => absurd (show (1 : Int) = 0 from hc3) (by decide)) (fun _ => ?_)
  refine v_load (v := (0, 1)) (hi_X12_isSo_44 hT) rfl rfl ?_
  refine v_push (1) (hi_X12_isSo_45 hT) rfl ?_
  refine v_ic (hi_X12_isSo_46 hT) (fun _ => ?_) (fun hc4 => absurd (show (1 : Int) = 1 from (by decide)) hc4)
  refine v_load (v := (2, 121)) (hz_X12_isSo hT _ _ rfl) rfl rfl ?_
  refine v_getR (c := 126) (r := 121) (hz_X12_isSo hT _ _ rfl) rfl rfl rfl ?_
  refine v_push (245) (hz_X12_isSo hT _ _ rfl) rfl ?_
  refine v_load (v := (2, 121)) (hz_X12_isSo hT _ _ rfl) rfl rfl ?_
  refine v_getR (c := 126) (r := 121) (hz_X12_isSo hT _ _ rfl) rfl rfl rfl ?_
  refine v_load (v := (0, (277 + (9 * (s : Int))))) (hz_X12_isSo hT _ _ rfl) rfl rfl ?_
  refine v_push (1) (hz_X12_isSo hT _ _ rfl) rfl ?_
  refine v_bin (w := ((277 + (9 * (s : Int))) + 1)) (hz_X12_isSo hT _ _ rfl) (hq_add (by omega) (by omega)) ?_
  refine v_aldB (t := 0) (r := 126) (w := (a : Int)) (hz_X12_isSo hT _ _ rfl) rfl rfl rfl (fun _ _ => (congrArg Prod.snd w1)) (fun ha5 hb6 => ?_)
  refine v_bin (w := (245 + (a : Int))) (hz_X12_isSo hT _ _ rfl) (hq_add (by omega) (by omega)) ?_
  refine v_aldB (t := 0) (r := 126) (w := ((gJ P (P 6 a).toNat : Nat) : Int)) (hz_X12_isSo hT _ _ rfl) rfl rfl rfl (fun _ _ => (congrArg Prod.snd ea)) (fun ha7 hb8 => ?_)
  refine v_load (v := (2, 121)) (hz_X12_isSo hT _ _ rfl) rfl rfl ?_
  refine v_getR (c := 126) (r := 121) (hz_X12_isSo hT _ _ rfl) rfl rfl rfl ?_
  refine v_push (251) (hz_X12_isSo hT _ _ rfl) rfl ?_
  refine v_load (v := (2, 121)) (hz_X12_isSo hT _ _ rfl) rfl rfl ?_
  refine v_getR (c := 126) (r := 121) (hz_X12_isSo hT _ _ rfl) rfl rfl rfl ?_
  refine v_load (v := (0, (277 + (9 * (s : Int))))) (hz_X12_isSo hT _ _ rfl) rfl rfl ?_
  refine v_push (1) (hz_X12_isSo hT _ _ rfl) rfl ?_
  refine v_bin (w := ((277 + (9 * (s : Int))) + 1)) (hz_X12_isSo hT _ _ rfl) (hq_add (by omega) (by omega)) ?_
  refine v_aldB (t := 0) (r := 126) (w := (a : Int)) (hz_X12_isSo hT _ _ rfl) rfl rfl rfl (fun _ _ => (congrArg Prod.snd w1)) (fun ha9 hb10 => ?_)
  refine v_bin (w := (251 + (a : Int))) (hz_X12_isSo hT _ _ rfl) (hq_add (by omega) (by omega)) ?_
  refine v_aldB (t := 0) (r := 126) (w := ((gJ P (P 7 a).toNat : Nat) : Int)) (hz_X12_isSo hT _ _ rfl) rfl rfl rfl (fun _ _ => (congrArg Prod.snd eg)) (fun ha11 hb12 => ?_)
  refine v_ic (hz_X12_isSo hT _ _ rfl) (fun hc13 => ?_) (fun hc13 => ?_)
  · have hc13 : ((gJ P (P 6 a).toNat : Nat) : Int) = ((gJ P (P 7 a).toNat : Nat) : Int) := hc13
    refine v_push (1) (hz_X12_isSo hT _ _ rfl) rfl ?_
    refine v_goto (hz_X12_isSo hT _ _ rfl) ?_
    refine v_ret (hz_X12_isSo hT _ _ rfl) (Or.inl rfl) ?_
    exact k0 ha1 hb2 ha5 hb6 ha7 hb8 ha11 hb12 hc13
  · have hc13 : ((gJ P (P 6 a).toNat : Nat) : Int) ≠ ((gJ P (P 7 a).toNat : Nat) : Int) := hc13
    refine v_push (0) (hz_X12_isSo hT _ _ rfl) rfl ?_
    refine v_ret (hz_X12_isSo hT _ _ rfl) (Or.inl rfl) ?_
    exact k1 ha1 hb2 ha5 hb6 ha7 hb8 ha11 hb12 hc13
theorem qr_so18_60 {D : zD} {T : zT} (hT : hTab T) (hO : vOK T) {N : Nat} {h : zH} {Q : zR → Prop} {P : PT} {s b : Nat} (hv0 : zHv h) (bs : s < 30) (w6 : h 126 ((277 + (9 * (s : Int))) + 6).toNat = (0, 2)) (w7 : h 126 ((277 + (9 * (s : Int))) + 7).toNat = (0, 60)) (w2 : h 126 ((277 + (9 * (s : Int))) + 2).toNat = (0, (b : Int))) (p4 : h 126 4 = (0, P 0 4))
    (k0 : (0 ≤ ((277 + (9 * (s : Int))) + 6)) → (((277 + (9 * (s : Int))) + 6) < 2750) → (0 ≤ ((277 + (9 * (s : Int))) + 7)) → (((277 + (9 * (s : Int))) + 7) < 2750) → (0 ≤ ((277 + (9 * (s : Int))) + 2)) → (((277 + (9 * (s : Int))) + 2) < 2750) → ((P 0 4) < (b : Int)) → Q (h, some (0, 1)))
    (k1 : (0 ≤ ((277 + (9 * (s : Int))) + 6)) → (((277 + (9 * (s : Int))) + 6) < 2750) → (0 ≤ ((277 + (9 * (s : Int))) + 7)) → (((277 + (9 * (s : Int))) + 7) < 2750) → (0 ≤ ((277 + (9 * (s : Int))) + 2)) → (((277 + (9 * (s : Int))) + 2) < 2750) → ((b : Int) ≤ (P 0 4)) → Q (h, some (0, 0))) :
    vP D T N 261 0 h [some (2, 121), some (0, (277 + (9 * (s : Int)))), none] [] Q := by
  refine v_load (v := (2, 121)) (hi_X12_isSo_0 hT) rfl rfl ?_
  refine v_getR (c := 126) (r := 121) (hi_X12_isSo_1 hT) rfl rfl rfl ?_
  refine v_load (v := (0, (277 + (9 * (s : Int))))) (hi_X12_isSo_4 hT) rfl rfl ?_
  refine v_push (6) (hi_X12_isSo_5 hT) rfl ?_
  refine v_bin (w := ((277 + (9 * (s : Int))) + 6)) (hi_X12_isSo_7 hT) (hq_add (by omega) (by omega)) ?_
  refine v_aldB (t := 0) (r := 126) (w := 2) (hi_X12_isSo_8 hT) rfl rfl rfl (fun _ _ => (congrArg Prod.snd w6)) (fun ha1 hb2 => ?_)
  refine v_store1 [some (2, 121), some (0, (277 + (9 * (s : Int)))), some (0, 2)] (hi_X12_isSo_9 hT) ⟨rfl, Nat.ne_of_beq_eq_false rfl⟩ (Nat.le_of_ble_eq_true rfl) rfl ?_
  refine v_load (v := (0, 2)) (hi_X12_isSo_10 hT) rfl rfl ?_
  refine v_if (hi_X12_isSo_11 hT) (fun hc3 => absurd (show (2 : Int) = 0 from hc3) (by decide)) (fun _ => ?_)
  refine v_load (v := (0, 2)) (hi_X12_isSo_44 hT) rfl rfl ?_
  refine v_push (1) (hi_X12_isSo_45 hT) rfl ?_
  refine v_ic (hi_X12_isSo_46 hT) (fun hc4 => absurd (show (2 : Int) = 1 from hc4) (by decide)) (fun _ => ?_)
  refine v_load (v := (2, 121)) (hz_X12_isSo hT _ _ rfl) rfl rfl ?_
  refine v_getR (c := 126) (r := 121) (hz_X12_isSo hT _ _ rfl) rfl rfl rfl ?_
  refine v_load (v := (0, (277 + (9 * (s : Int))))) (hz_X12_isSo hT _ _ rfl) rfl rfl ?_
  refine v_push (7) (hz_X12_isSo hT _ _ rfl) rfl ?_
  refine v_bin (w := ((277 + (9 * (s : Int))) + 7)) (hz_X12_isSo hT _ _ rfl) (hq_add (by omega) (by omega)) ?_
  refine v_aldB (t := 0) (r := 126) (w := 60) (hz_X12_isSo hT _ _ rfl) rfl rfl rfl (fun _ _ => (congrArg Prod.snd w7)) (fun ha5 hb6 => ?_)
  refine v_push (60) (hz_X12_isSo hT _ _ rfl) rfl ?_
  refine v_ic (hz_X12_isSo hT _ _ rfl) (fun _ => ?_) (fun hc7 => absurd (show (60 : Int) = 60 from (by decide)) hc7)
  refine v_load (v := (2, 121)) (hz_X12_isSo hT _ _ rfl) rfl rfl ?_
  refine v_getR (c := 126) (r := 121) (hz_X12_isSo hT _ _ rfl) rfl rfl rfl ?_
  refine v_push (4) (hz_X12_isSo hT _ _ rfl) rfl ?_
  refine v_aldV (v := (0, (P 0 4))) (r := 126) (hz_X12_isSo hT _ _ rfl) rfl rfl (fun _ _ _ => p4) (fun ha8 hb9 => ?_)
  refine v_load (v := (2, 121)) (hz_X12_isSo hT _ _ rfl) rfl rfl ?_
  refine v_getR (c := 126) (r := 121) (hz_X12_isSo hT _ _ rfl) rfl rfl rfl ?_
  refine v_load (v := (0, (277 + (9 * (s : Int))))) (hz_X12_isSo hT _ _ rfl) rfl rfl ?_
  refine v_push (2) (hz_X12_isSo hT _ _ rfl) rfl ?_
  refine v_bin (w := ((277 + (9 * (s : Int))) + 2)) (hz_X12_isSo hT _ _ rfl) (hq_add (by omega) (by omega)) ?_
  refine v_aldB (t := 0) (r := 126) (w := (b : Int)) (hz_X12_isSo hT _ _ rfl) rfl rfl rfl (fun _ _ => (congrArg Prod.snd w2)) (fun ha10 hb11 => ?_)
  refine v_ic (hz_X12_isSo hT _ _ rfl) (fun hc12 => ?_) (fun hc12 => ?_)
  · have hc12 : (P 0 4) < (b : Int) := hc12
    refine v_push (1) (hz_X12_isSo hT _ _ rfl) rfl ?_
    refine v_goto (hz_X12_isSo hT _ _ rfl) ?_
    refine v_ret (hi_X12_isSo_192 hT) (Or.inl rfl) ?_
    exact k0 ha1 hb2 ha5 hb6 ha10 hb11 hc12
  · have hc12 : (b : Int) ≤ (P 0 4) := Int.not_lt.mp hc12
    refine v_push (0) (hz_X12_isSo hT _ _ rfl) rfl ?_
    refine v_goto (hz_X12_isSo hT _ _ rfl) ?_
    refine v_ret (hi_X12_isSo_192 hT) (Or.inl rfl) ?_
    exact k1 ha1 hb2 ha5 hb6 ha10 hb11 hc12
theorem qr_so18_61 {D : zD} {T : zT} (hT : hTab T) (hO : vOK T) {N : Nat} {h : zH} {Q : zR → Prop} {P : PT} {s b : Nat} (hv0 : zHv h) (bs : s < 30) (w6 : h 126 ((277 + (9 * (s : Int))) + 6).toNat = (0, 2)) (w7 : h 126 ((277 + (9 * (s : Int))) + 7).toNat = (0, 61)) (w2 : h 126 ((277 + (9 * (s : Int))) + 2).toNat = (0, (b : Int))) (p4 : h 126 4 = (0, P 0 4))
    (k0 : (0 ≤ ((277 + (9 * (s : Int))) + 6)) → (((277 + (9 * (s : Int))) + 6) < 2750) → (0 ≤ ((277 + (9 * (s : Int))) + 7)) → (((277 + (9 * (s : Int))) + 7) < 2750) → (0 ≤ ((277 + (9 * (s : Int))) + 2)) → (((277 + (9 * (s : Int))) + 2) < 2750) → ((P 0 4) = (b : Int)) → Q (h, some (0, 1)))
    (k1 : (0 ≤ ((277 + (9 * (s : Int))) + 6)) → (((277 + (9 * (s : Int))) + 6) < 2750) → (0 ≤ ((277 + (9 * (s : Int))) + 7)) → (((277 + (9 * (s : Int))) + 7) < 2750) → (0 ≤ ((277 + (9 * (s : Int))) + 2)) → (((277 + (9 * (s : Int))) + 2) < 2750) → ((P 0 4) ≠ (b : Int)) → Q (h, some (0, 0))) :
    vP D T N 261 0 h [some (2, 121), some (0, (277 + (9 * (s : Int)))), none] [] Q := by
  refine v_load (v := (2, 121)) (hi_X12_isSo_0 hT) rfl rfl ?_
  refine v_getR (c := 126) (r := 121) (hi_X12_isSo_1 hT) rfl rfl rfl ?_
  refine v_load (v := (0, (277 + (9 * (s : Int))))) (hi_X12_isSo_4 hT) rfl rfl ?_
  refine v_push (6) (hi_X12_isSo_5 hT) rfl ?_
  refine v_bin (w := ((277 + (9 * (s : Int))) + 6)) (hi_X12_isSo_7 hT) (hq_add (by omega) (by omega)) ?_
  refine v_aldB (t := 0) (r := 126) (w := 2) (hi_X12_isSo_8 hT) rfl rfl rfl (fun _ _ => (congrArg Prod.snd w6)) (fun ha1 hb2 => ?_)
  refine v_store1 [some (2, 121), some (0, (277 + (9 * (s : Int)))), some (0, 2)] (hi_X12_isSo_9 hT) ⟨rfl, Nat.ne_of_beq_eq_false rfl⟩ (Nat.le_of_ble_eq_true rfl) rfl ?_
  refine v_load (v := (0, 2)) (hi_X12_isSo_10 hT) rfl rfl ?_
  refine v_if (hi_X12_isSo_11 hT) (fun hc3 => absurd (show (2 : Int) = 0 from hc3) (by decide)) (fun _ => ?_)
  refine v_load (v := (0, 2)) (hi_X12_isSo_44 hT) rfl rfl ?_
  refine v_push (1) (hi_X12_isSo_45 hT) rfl ?_
  refine v_ic (hi_X12_isSo_46 hT) (fun hc4 => absurd (show (2 : Int) = 1 from hc4) (by decide)) (fun _ => ?_)
  refine v_load (v := (2, 121)) (hz_X12_isSo hT _ _ rfl) rfl rfl ?_
  refine v_getR (c := 126) (r := 121) (hz_X12_isSo hT _ _ rfl) rfl rfl rfl ?_
  refine v_load (v := (0, (277 + (9 * (s : Int))))) (hz_X12_isSo hT _ _ rfl) rfl rfl ?_
  refine v_push (7) (hz_X12_isSo hT _ _ rfl) rfl ?_
  refine v_bin (w := ((277 + (9 * (s : Int))) + 7)) (hz_X12_isSo hT _ _ rfl) (hq_add (by omega) (by omega)) ?_
  refine v_aldB (t := 0) (r := 126) (w := 61) (hz_X12_isSo hT _ _ rfl) rfl rfl rfl (fun _ _ => (congrArg Prod.snd w7)) (fun ha5 hb6 => ?_)
  refine v_push (60) (hz_X12_isSo hT _ _ rfl) rfl ?_
  refine v_ic (hz_X12_isSo hT _ _ rfl) (fun hc7 => absurd (show (61 : Int) = 60 from hc7) (by decide)) (fun _ => ?_)
  refine v_load (v := (2, 121)) (hz_X12_isSo hT _ _ rfl) rfl rfl ?_
  refine v_getR (c := 126) (r := 121) (hz_X12_isSo hT _ _ rfl) rfl rfl rfl ?_
  refine v_load (v := (0, (277 + (9 * (s : Int))))) (hz_X12_isSo hT _ _ rfl) rfl rfl ?_
  refine v_push (7) (hz_X12_isSo hT _ _ rfl) rfl ?_
  refine v_bin (w := ((277 + (9 * (s : Int))) + 7)) (hz_X12_isSo hT _ _ rfl) (hq_add (by omega) (by omega)) ?_
  refine v_aldB (t := 0) (r := 126) (w := 61) (hz_X12_isSo hT _ _ rfl) rfl rfl rfl (fun _ _ => (congrArg Prod.snd w7)) (fun ha8 hb9 => ?_)
  refine v_push (62) (hz_X12_isSo hT _ _ rfl) rfl ?_
  refine v_ic (hz_X12_isSo hT _ _ rfl) (fun hc10 => absurd (show (61 : Int) = 62 from hc10) (by decide)) (fun _ => ?_)
  refine v_load (v := (2, 121)) (hz_X12_isSo hT _ _ rfl) rfl rfl ?_
  refine v_getR (c := 126) (r := 121) (hz_X12_isSo hT _ _ rfl) rfl rfl rfl ?_
  refine v_push (4) (hz_X12_isSo hT _ _ rfl) rfl ?_
  refine v_aldV (v := (0, (P 0 4))) (r := 126) (hz_X12_isSo hT _ _ rfl) rfl rfl (fun _ _ _ => p4) (fun ha11 hb12 => ?_)
  refine v_load (v := (2, 121)) (hz_X12_isSo hT _ _ rfl) rfl rfl ?_
  refine v_getR (c := 126) (r := 121) (hz_X12_isSo hT _ _ rfl) rfl rfl rfl ?_
  refine v_load (v := (0, (277 + (9 * (s : Int))))) (hz_X12_isSo hT _ _ rfl) rfl rfl ?_
  refine v_push (2) (hz_X12_isSo hT _ _ rfl) rfl ?_
  refine v_bin (w := ((277 + (9 * (s : Int))) + 2)) (hz_X12_isSo hT _ _ rfl) (hq_add (by omega) (by omega)) ?_
  refine v_aldB (t := 0) (r := 126) (w := (b : Int)) (hz_X12_isSo hT _ _ rfl) rfl rfl rfl (fun _ _ => (congrArg Prod.snd w2)) (fun ha13 hb14 => ?_)
  refine v_ic (hz_X12_isSo hT _ _ rfl) (fun hc15 => ?_) (fun hc15 => ?_)
  · have hc15 : (P 0 4) = (b : Int) := hc15
    refine v_push (1) (hz_X12_isSo hT _ _ rfl) rfl ?_
    refine v_goto (hz_X12_isSo hT _ _ rfl) ?_
    refine v_ret (hi_X12_isSo_192 hT) (Or.inl rfl) ?_
    exact k0 ha1 hb2 ha5 hb6 ha13 hb14 hc15
  · have hc15 : (P 0 4) ≠ (b : Int) := hc15
    refine v_push (0) (hz_X12_isSo hT _ _ rfl) rfl ?_
    refine v_ret (hi_X12_isSo_192 hT) (Or.inl rfl) ?_
    exact k1 ha1 hb2 ha5 hb6 ha13 hb14 hc15
theorem qr_so18_62 {D : zD} {T : zT} (hT : hTab T) (hO : vOK T) {N : Nat} {h : zH} {Q : zR → Prop} {P : PT} {s b : Nat} (hv0 : zHv h) (bs : s < 30) (w6 : h 126 ((277 + (9 * (s : Int))) + 6).toNat = (0, 2)) (w7 : h 126 ((277 + (9 * (s : Int))) + 7).toNat = (0, 62)) (w2 : h 126 ((277 + (9 * (s : Int))) + 2).toNat = (0, (b : Int))) (p4 : h 126 4 = (0, P 0 4))
    (k0 : (0 ≤ ((277 + (9 * (s : Int))) + 6)) → (((277 + (9 * (s : Int))) + 6) < 2750) → (0 ≤ ((277 + (9 * (s : Int))) + 7)) → (((277 + (9 * (s : Int))) + 7) < 2750) → (0 ≤ ((277 + (9 * (s : Int))) + 2)) → (((277 + (9 * (s : Int))) + 2) < 2750) → ((b : Int) < (P 0 4)) → Q (h, some (0, 1)))
    (k1 : (0 ≤ ((277 + (9 * (s : Int))) + 6)) → (((277 + (9 * (s : Int))) + 6) < 2750) → (0 ≤ ((277 + (9 * (s : Int))) + 7)) → (((277 + (9 * (s : Int))) + 7) < 2750) → (0 ≤ ((277 + (9 * (s : Int))) + 2)) → (((277 + (9 * (s : Int))) + 2) < 2750) → ((P 0 4) ≤ (b : Int)) → Q (h, some (0, 0))) :
    vP D T N 261 0 h [some (2, 121), some (0, (277 + (9 * (s : Int)))), none] [] Q := by
  refine v_load (v := (2, 121)) (hi_X12_isSo_0 hT) rfl rfl ?_
  refine v_getR (c := 126) (r := 121) (hi_X12_isSo_1 hT) rfl rfl rfl ?_
  refine v_load (v := (0, (277 + (9 * (s : Int))))) (hi_X12_isSo_4 hT) rfl rfl ?_
  refine v_push (6) (hi_X12_isSo_5 hT) rfl ?_
  refine v_bin (w := ((277 + (9 * (s : Int))) + 6)) (hi_X12_isSo_7 hT) (hq_add (by omega) (by omega)) ?_
  refine v_aldB (t := 0) (r := 126) (w := 2) (hi_X12_isSo_8 hT) rfl rfl rfl (fun _ _ => (congrArg Prod.snd w6)) (fun ha1 hb2 => ?_)
  refine v_store1 [some (2, 121), some (0, (277 + (9 * (s : Int)))), some (0, 2)] (hi_X12_isSo_9 hT) ⟨rfl, Nat.ne_of_beq_eq_false rfl⟩ (Nat.le_of_ble_eq_true rfl) rfl ?_
  refine v_load (v := (0, 2)) (hi_X12_isSo_10 hT) rfl rfl ?_
  refine v_if (hi_X12_isSo_11 hT) (fun hc3 => absurd (show (2 : Int) = 0 from hc3) (by decide)) (fun _ => ?_)
  refine v_load (v := (0, 2)) (hi_X12_isSo_44 hT) rfl rfl ?_
  refine v_push (1) (hi_X12_isSo_45 hT) rfl ?_
  refine v_ic (hi_X12_isSo_46 hT) (fun hc4 => absurd (show (2 : Int) = 1 from hc4) (by decide)) (fun _ => ?_)
  refine v_load (v := (2, 121)) (hz_X12_isSo hT _ _ rfl) rfl rfl ?_
  refine v_getR (c := 126) (r := 121) (hz_X12_isSo hT _ _ rfl) rfl rfl rfl ?_
  refine v_load (v := (0, (277 + (9 * (s : Int))))) (hz_X12_isSo hT _ _ rfl) rfl rfl ?_
  refine v_push (7) (hz_X12_isSo hT _ _ rfl) rfl ?_
  refine v_bin (w := ((277 + (9 * (s : Int))) + 7)) (hz_X12_isSo hT _ _ rfl) (hq_add (by omega) (by omega)) ?_
  refine v_aldB (t := 0) (r := 126) (w := 62) (hz_X12_isSo hT _ _ rfl) rfl rfl rfl (fun _ _ => (congrArg Prod.snd w7)) (fun ha5 hb6 => ?_)
  refine v_push (60) (hz_X12_isSo hT _ _ rfl) rfl ?_
  refine v_ic (hz_X12_isSo hT _ _ rfl) (fun hc7 => absurd (show (62 : Int) = 60 from hc7) (by decide)) (fun _ => ?_)
  refine v_load (v := (2, 121)) (hz_X12_isSo hT _ _ rfl) rfl rfl ?_
  refine v_getR (c := 126) (r := 121) (hz_X12_isSo hT _ _ rfl) rfl rfl rfl ?_
  refine v_load (v := (0, (277 + (9 * (s : Int))))) (hz_X12_isSo hT _ _ rfl) rfl rfl ?_
  refine v_push (7) (hz_X12_isSo hT _ _ rfl) rfl ?_
  refine v_bin (w := ((277 + (9 * (s : Int))) + 7)) (hz_X12_isSo hT _ _ rfl) (hq_add (by omega) (by omega)) ?_
  refine v_aldB (t := 0) (r := 126) (w := 62) (hz_X12_isSo hT _ _ rfl) rfl rfl rfl (fun _ _ => (congrArg Prod.snd w7)) (fun ha8 hb9 => ?_)
  refine v_push (62) (hz_X12_isSo hT _ _ rfl) rfl ?_
  refine v_ic (hz_X12_isSo hT _ _ rfl) (fun _ => ?_) (fun hc10 => absurd (show (62 : Int) = 62 from (by decide)) hc10)
  refine v_load (v := (2, 121)) (hz_X12_isSo hT _ _ rfl) rfl rfl ?_
  refine v_getR (c := 126) (r := 121) (hz_X12_isSo hT _ _ rfl) rfl rfl rfl ?_
  refine v_push (4) (hz_X12_isSo hT _ _ rfl) rfl ?_
  refine v_aldV (v := (0, (P 0 4))) (r := 126) (hz_X12_isSo hT _ _ rfl) rfl rfl (fun _ _ _ => p4) (fun ha11 hb12 => ?_)
  refine v_load (v := (2, 121)) (hz_X12_isSo hT _ _ rfl) rfl rfl ?_
  refine v_getR (c := 126) (r := 121) (hz_X12_isSo hT _ _ rfl) rfl rfl rfl ?_
  refine v_load (v := (0, (277 + (9 * (s : Int))))) (hz_X12_isSo hT _ _ rfl) rfl rfl ?_
  refine v_push (2) (hz_X12_isSo hT _ _ rfl) rfl ?_
  refine v_bin (w := ((277 + (9 * (s : Int))) + 2)) (hz_X12_isSo hT _ _ rfl) (hq_add (by omega) (by omega)) ?_
  refine v_aldB (t := 0) (r := 126) (w := (b : Int)) (hz_X12_isSo hT _ _ rfl) rfl rfl rfl (fun _ _ => (congrArg Prod.snd w2)) (fun ha13 hb14 => ?_)
  refine v_ic (hz_X12_isSo hT _ _ rfl) (fun hc15 => ?_) (fun hc15 => ?_)
  · have hc15 : (b : Int) < (P 0 4) := hc15
    refine v_push (1) (hz_X12_isSo hT _ _ rfl) rfl ?_
    refine v_goto (hz_X12_isSo hT _ _ rfl) ?_
    refine v_ret (hi_X12_isSo_192 hT) (Or.inl rfl) ?_
    exact k0 ha1 hb2 ha5 hb6 ha13 hb14 hc15
  · have hc15 : (P 0 4) ≤ (b : Int) := Int.not_lt.mp hc15
    refine v_push (0) (hz_X12_isSo hT _ _ rfl) rfl ?_
    refine v_goto (hz_X12_isSo hT _ _ rfl) ?_
    refine v_ret (hi_X12_isSo_192 hT) (Or.inl rfl) ?_
    exact k1 ha1 hb2 ha5 hb6 ha13 hb14 hc15
theorem qr_de0 {D : zD} {T : zT} (hT : hTab T) (hO : vOK T) {N : Nat} {h : zH} {Q : zR → Prop} {P : PT} {s a b : Nat} (hv0 : zHv h) (bs : s < 30) (w0 : h 126 (277 + (9 * (s : Int))).toNat = (0, 0)) (w1 : h 126 ((277 + (9 * (s : Int))) + 1).toNat = (0, (a : Int))) (w2 : h 126 ((277 + (9 * (s : Int))) + 2).toNat = (0, ((gJ P b : Nat) : Int)))
    (k0 : (0 ≤ (277 + (9 * (s : Int)))) → ((277 + (9 * (s : Int))) < 2750) → (0 ≤ ((277 + (9 * (s : Int))) + 1)) → (((277 + (9 * (s : Int))) + 1) < 2750) → (0 ≤ ((277 + (9 * (s : Int))) + 2)) → (((277 + (9 * (s : Int))) + 2) < 2750) → vP D T N 224 0 h [some (2, 121), some (0, (a : Int)), some (0, ((gJ P b : Nat) : Int))] [] (fun r1 => vP D T N 221 31 r1.1 [some (2, 121), some (0, (277 + (9 * (s : Int)))), some (0, 0), none] (zpush r1.2 []) Q)) :
    vP D T N 221 0 h [some (2, 121), some (0, (277 + (9 * (s : Int)))), none, none] [] Q := by
  refine v_load (v := (2, 121)) (hi_X12_does_0 hT) rfl rfl ?_
  refine v_getR (c := 126) (r := 121) (hi_X12_does_1 hT) rfl rfl rfl ?_
  refine v_load (v := (0, (277 + (9 * (s : Int))))) (hi_X12_does_4 hT) rfl rfl ?_
  refine v_aldB (t := 0) (r := 126) (w := 0) (hi_X12_does_5 hT) rfl rfl rfl (fun _ _ => (congrArg Prod.snd w0)) (fun ha1 hb2 => ?_)
  refine v_store1 [some (2, 121), some (0, (277 + (9 * (s : Int)))), some (0, 0), none] (hi_X12_does_6 hT) ⟨rfl, Nat.ne_of_beq_eq_false rfl⟩ (Nat.le_of_ble_eq_true rfl) rfl ?_
  refine v_load (v := (0, 0)) (hi_X12_does_7 hT) rfl rfl ?_
  refine v_if (hi_X12_does_8 hT) (fun _ => ?_) (fun hc3 => absurd (show (0 : Int) = 0 from (by decide)) hc3)
  refine v_load (v := (2, 121)) (hz_X12_does hT _ _ rfl) rfl rfl ?_
  refine v_load (v := (2, 121)) (hz_X12_does hT _ _ rfl) rfl rfl ?_
  refine v_getR (c := 126) (r := 121) (hz_X12_does hT _ _ rfl) rfl rfl rfl ?_
  refine v_load (v := (0, (277 + (9 * (s : Int))))) (hz_X12_does hT _ _ rfl) rfl rfl ?_
  refine v_push (1) (hz_X12_does hT _ _ rfl) rfl ?_
  refine v_bin (w := ((277 + (9 * (s : Int))) + 1)) (hz_X12_does hT _ _ rfl) (hq_add (by omega) (by omega)) ?_
  refine v_aldB (t := 0) (r := 126) (w := (a : Int)) (hz_X12_does hT _ _ rfl) rfl rfl rfl (fun _ _ => (congrArg Prod.snd w1)) (fun ha4 hb5 => ?_)
  refine v_load (v := (2, 121)) (hz_X12_does hT _ _ rfl) rfl rfl ?_
  refine v_getR (c := 126) (r := 121) (hz_X12_does hT _ _ rfl) rfl rfl rfl ?_
  refine v_load (v := (0, (277 + (9 * (s : Int))))) (hz_X12_does hT _ _ rfl) rfl rfl ?_
  refine v_push (2) (hz_X12_does hT _ _ rfl) rfl ?_
  refine v_bin (w := ((277 + (9 * (s : Int))) + 2)) (hz_X12_does hT _ _ rfl) (hq_add (by omega) (by omega)) ?_
  refine v_aldB (t := 0) (r := 126) (w := ((gJ P b : Nat) : Int)) (hz_X12_does hT _ _ rfl) rfl rfl rfl (fun _ _ => (congrArg Prod.snd w2)) (fun ha6 hb7 => ?_)
  refine v_call (w := 3) [some (2, 121), some (0, (a : Int)), some (0, ((gJ P b : Nat) : Int))] hO (hz_X12_does hT _ _ rfl) rfl rfl ?_
  exact k0 ha1 hb2 ha4 hb5 ha6 hb7
theorem qr_de31 {D : zD} {T : zT} (hT : hTab T) (hO : vOK T) {N : Nat} {h : zH} {Q : zR → Prop} {s : Nat} (x z : Int) (hv0 : zHv h) (bz : z = 0 ∨ z = 1)
    (k0 : Q (h, some (0, z))) :
    vP D T N 221 31 h [some (2, 121), some (0, (277 + (9 * (s : Int)))), some (0, x), none] [(0, z)] Q := by
  refine v_ret (hz_X12_does hT _ _ rfl) (Or.inl rfl) ?_
  exact k0 
theorem qr_de1 {D : zD} {T : zT} (hT : hTab T) (hO : vOK T) {N : Nat} {h : zH} {Q : zR → Prop} {s a : Nat} (hv0 : zHv h) (bs : s < 30) (w0 : h 126 (277 + (9 * (s : Int))).toNat = (0, 1)) (w1 : h 126 ((277 + (9 * (s : Int))) + 1).toNat = (0, (a : Int)))
    (k0 : (0 ≤ (277 + (9 * (s : Int)))) → ((277 + (9 * (s : Int))) < 2750) → (0 ≤ ((277 + (9 * (s : Int))) + 1)) → (((277 + (9 * (s : Int))) + 1) < 2750) → vP D T N 223 0 h [some (2, 121), none] [] (fun r1 => vP D T N 221 50 r1.1 [some (2, 121), some (0, (277 + (9 * (s : Int)))), some (0, 1), none] (zpush r1.2 [(0, (a : Int)), (2, 121)]) Q)) :
    vP D T N 221 0 h [some (2, 121), some (0, (277 + (9 * (s : Int)))), none, none] [] Q := by
  refine v_load (v := (2, 121)) (hi_X12_does_0 hT) rfl rfl ?_
  refine v_getR (c := 126) (r := 121) (hi_X12_does_1 hT) rfl rfl rfl ?_
  refine v_load (v := (0, (277 + (9 * (s : Int))))) (hi_X12_does_4 hT) rfl rfl ?_
  refine v_aldB (t := 0) (r := 126) (w := 1) (hi_X12_does_5 hT) rfl rfl rfl (fun _ _ => (congrArg Prod.snd w0)) (fun ha1 hb2 => ?_)
  refine v_store1 [some (2, 121), some (0, (277 + (9 * (s : Int)))), some (0, 1), none] (hi_X12_does_6 hT) ⟨rfl, Nat.ne_of_beq_eq_false rfl⟩ (Nat.le_of_ble_eq_true rfl) rfl ?_
  refine v_load (v := (0, 1)) (hi_X12_does_7 hT) rfl rfl ?_
  refine v_if (hi_X12_does_8 hT) (fun hc3 => absurd (show (1 : Int) = 0 from hc3) (by decide)) (fun _ => ?_)
  refine v_load (v := (0, 1)) (hi_X12_does_32 hT) rfl rfl ?_
  refine v_push (1) (hi_X12_does_33 hT) rfl ?_
  refine v_ic (hi_X12_does_34 hT) (fun _ => ?_) (fun hc4 => absurd (show (1 : Int) = 1 from (by decide)) hc4)
  refine v_load (v := (2, 121)) (hz_X12_does hT _ _ rfl) rfl rfl ?_
  refine v_load (v := (2, 121)) (hz_X12_does hT _ _ rfl) rfl rfl ?_
  refine v_getR (c := 126) (r := 121) (hz_X12_does hT _ _ rfl) rfl rfl rfl ?_
  refine v_load (v := (0, (277 + (9 * (s : Int))))) (hz_X12_does hT _ _ rfl) rfl rfl ?_
  refine v_push (1) (hz_X12_does hT _ _ rfl) rfl ?_
  refine v_bin (w := ((277 + (9 * (s : Int))) + 1)) (hz_X12_does hT _ _ rfl) (hq_add (by omega) (by omega)) ?_
  refine v_aldB (t := 0) (r := 126) (w := (a : Int)) (hz_X12_does hT _ _ rfl) rfl rfl rfl (fun _ _ => (congrArg Prod.snd w1)) (fun ha5 hb6 => ?_)
  refine v_load (v := (2, 121)) (hz_X12_does hT _ _ rfl) rfl rfl ?_
  refine v_call (w := 2) [some (2, 121), none] hO (hz_X12_does hT _ _ rfl) rfl rfl ?_
  exact k0 ha1 hb2 ha5 hb6
theorem qr_de50 {D : zD} {T : zT} (hT : hTab T) (hO : vOK T) {N : Nat} {h : zH} {Q : zR → Prop} {P : PT} {s a q : Nat} (hv0 : zHv h)
    (k0 : vP D T N 280 0 h [some (2, 121), some (0, (a : Int)), some (0, ((gJ P q : Nat) : Int))] [] (fun r1 => vP D T N 221 53 r1.1 [some (2, 121), some (0, (277 + (9 * (s : Int)))), some (0, 1), none] (zpush r1.2 []) Q)) :
    vP D T N 221 50 h [some (2, 121), some (0, (277 + (9 * (s : Int)))), some (0, 1), none] [(0, ((gJ P q : Nat) : Int)), (0, (a : Int)), (2, 121)] Q := by
  refine v_call (w := 3) [some (2, 121), some (0, (a : Int)), some (0, ((gJ P q : Nat) : Int))] hO (hz_X12_does hT _ _ rfl) rfl rfl ?_
  exact k0 
theorem qr_de53 {D : zD} {T : zT} (hT : hTab T) (hO : vOK T) {N : Nat} {h : zH} {Q : zR → Prop} {s : Nat} (x z : Int) (hv0 : zHv h) (bz : z = 0 ∨ z = 1)
    (k0 : Q (h, some (0, z))) :
    vP D T N 221 53 h [some (2, 121), some (0, (277 + (9 * (s : Int)))), some (0, x), none] [(0, z)] Q := by
  refine v_ret (hz_X12_does hT _ _ rfl) (Or.inl rfl) ?_
  exact k0 
theorem qr_de2 {D : zD} {T : zT} (hT : hTab T) (hO : vOK T) {N : Nat} {h : zH} {Q : zR → Prop} {P : PT} {s a b : Nat} (hv0 : zHv h) (bs : s < 30) (w0 : h 126 (277 + (9 * (s : Int))).toNat = (0, 2)) (w1 : h 126 ((277 + (9 * (s : Int))) + 1).toNat = (0, (a : Int))) (w2 : h 126 ((277 + (9 * (s : Int))) + 2).toNat = (0, ((gJ P b : Nat) : Int)))
    (k0 : (0 ≤ (277 + (9 * (s : Int)))) → ((277 + (9 * (s : Int))) < 2750) → (0 ≤ ((277 + (9 * (s : Int))) + 1)) → (((277 + (9 * (s : Int))) + 1) < 2750) → (0 ≤ ((277 + (9 * (s : Int))) + 2)) → (((277 + (9 * (s : Int))) + 2) < 2750) → vP D T N 240 0 h [some (2, 121), some (0, (a : Int)), some (0, ((gJ P b : Nat) : Int))] [] (fun r1 => vP D T N 221 79 r1.1 [some (2, 121), some (0, (277 + (9 * (s : Int)))), some (0, 2), none] (zpush r1.2 []) Q)) :
    vP D T N 221 0 h [some (2, 121), some (0, (277 + (9 * (s : Int)))), none, none] [] Q := by
  refine v_load (v := (2, 121)) (hi_X12_does_0 hT) rfl rfl ?_
  refine v_getR (c := 126) (r := 121) (hi_X12_does_1 hT) rfl rfl rfl ?_
  refine v_load (v := (0, (277 + (9 * (s : Int))))) (hi_X12_does_4 hT) rfl rfl ?_
  refine v_aldB (t := 0) (r := 126) (w := 2) (hi_X12_does_5 hT) rfl rfl rfl (fun _ _ => (congrArg Prod.snd w0)) (fun ha1 hb2 => ?_)
  refine v_store1 [some (2, 121), some (0, (277 + (9 * (s : Int)))), some (0, 2), none] (hi_X12_does_6 hT) ⟨rfl, Nat.ne_of_beq_eq_false rfl⟩ (Nat.le_of_ble_eq_true rfl) rfl ?_
  refine v_load (v := (0, 2)) (hi_X12_does_7 hT) rfl rfl ?_
  refine v_if (hi_X12_does_8 hT) (fun hc3 => absurd (show (2 : Int) = 0 from hc3) (by decide)) (fun _ => ?_)
  refine v_load (v := (0, 2)) (hi_X12_does_32 hT) rfl rfl ?_
  refine v_push (1) (hi_X12_does_33 hT) rfl ?_
  refine v_ic (hi_X12_does_34 hT) (fun hc4 => absurd (show (2 : Int) = 1 from hc4) (by decide)) (fun _ => ?_)
  refine v_load (v := (0, 2)) (hi_X12_does_54 hT) rfl rfl ?_
  refine v_push (2) (hi_X12_does_55 hT) rfl ?_
  refine v_ic (hi_X12_does_56 hT) (fun _ => ?_) (fun hc5 => absurd (show (2 : Int) = 2 from (by decide)) hc5)
  refine v_load (v := (2, 121)) (hz_X12_does hT _ _ rfl) rfl rfl ?_
  refine v_load (v := (2, 121)) (hz_X12_does hT _ _ rfl) rfl rfl ?_
  refine v_getR (c := 126) (r := 121) (hz_X12_does hT _ _ rfl) rfl rfl rfl ?_
  refine v_load (v := (0, (277 + (9 * (s : Int))))) (hz_X12_does hT _ _ rfl) rfl rfl ?_
  refine v_push (1) (hz_X12_does hT _ _ rfl) rfl ?_
  refine v_bin (w := ((277 + (9 * (s : Int))) + 1)) (hz_X12_does hT _ _ rfl) (hq_add (by omega) (by omega)) ?_
  refine v_aldB (t := 0) (r := 126) (w := (a : Int)) (hz_X12_does hT _ _ rfl) rfl rfl rfl (fun _ _ => (congrArg Prod.snd w1)) (fun ha6 hb7 => ?_)
  refine v_load (v := (2, 121)) (hz_X12_does hT _ _ rfl) rfl rfl ?_
  refine v_getR (c := 126) (r := 121) (hz_X12_does hT _ _ rfl) rfl rfl rfl ?_
  refine v_load (v := (0, (277 + (9 * (s : Int))))) (hz_X12_does hT _ _ rfl) rfl rfl ?_
  refine v_push (2) (hz_X12_does hT _ _ rfl) rfl ?_
  refine v_bin (w := ((277 + (9 * (s : Int))) + 2)) (hz_X12_does hT _ _ rfl) (hq_add (by omega) (by omega)) ?_
  refine v_aldB (t := 0) (r := 126) (w := ((gJ P b : Nat) : Int)) (hz_X12_does hT _ _ rfl) rfl rfl rfl (fun _ _ => (congrArg Prod.snd w2)) (fun ha8 hb9 => ?_)
  refine v_call (w := 3) [some (2, 121), some (0, (a : Int)), some (0, ((gJ P b : Nat) : Int))] hO (hz_X12_does hT _ _ rfl) rfl rfl ?_
  exact k0 ha1 hb2 ha6 hb7 ha8 hb9
theorem qr_de79 {D : zD} {T : zT} (hT : hTab T) (hO : vOK T) {N : Nat} {h : zH} {Q : zR → Prop} {s : Nat} (x z : Int) (hv0 : zHv h) (bz : z = 0 ∨ z = 1)
    (k0 : Q (h, some (0, z))) :
    vP D T N 221 79 h [some (2, 121), some (0, (277 + (9 * (s : Int)))), some (0, x), none] [(0, z)] Q := by
  refine v_ret (hz_X12_does hT _ _ rfl) (Or.inl rfl) ?_
  exact k0 
theorem qr_de5 {D : zD} {T : zT} (hT : hTab T) (hO : vOK T) {N : Nat} {h : zH} {Q : zR → Prop} {s a : Nat} (hv0 : zHv h) (bs : s < 30) (w0 : h 126 (277 + (9 * (s : Int))).toNat = (0, 5)) (w1 : h 126 ((277 + (9 * (s : Int))) + 1).toNat = (0, (a : Int)))
    (k0 : (0 ≤ (277 + (9 * (s : Int)))) → ((277 + (9 * (s : Int))) < 2750) → (0 ≤ ((277 + (9 * (s : Int))) + 1)) → (((277 + (9 * (s : Int))) + 1) < 2750) → vP D T N 231 0 h [some (2, 121), some (0, (a : Int))] [] (fun r1 => vP D T N 221 97 r1.1 [some (2, 121), some (0, (277 + (9 * (s : Int)))), some (0, 5), none] (zpush r1.2 []) Q)) :
    vP D T N 221 0 h [some (2, 121), some (0, (277 + (9 * (s : Int)))), none, none] [] Q := by
  refine v_load (v := (2, 121)) (hi_X12_does_0 hT) rfl rfl ?_
  refine v_getR (c := 126) (r := 121) (hi_X12_does_1 hT) rfl rfl rfl ?_
  refine v_load (v := (0, (277 + (9 * (s : Int))))) (hi_X12_does_4 hT) rfl rfl ?_
  refine v_aldB (t := 0) (r := 126) (w := 5) (hi_X12_does_5 hT) rfl rfl rfl (fun _ _ => (congrArg Prod.snd w0)) (fun ha1 hb2 => ?_)
  refine v_store1 [some (2, 121), some (0, (277 + (9 * (s : Int)))), some (0, 5), none] (hi_X12_does_6 hT) ⟨rfl, Nat.ne_of_beq_eq_false rfl⟩ (Nat.le_of_ble_eq_true rfl) rfl ?_
  refine v_load (v := (0, 5)) (hi_X12_does_7 hT) rfl rfl ?_
  refine v_if (hi_X12_does_8 hT) (fun hc3 => absurd (show (5 : Int) = 0 from hc3) (by decide)) (fun _ => ?_)
  refine v_load (v := (0, 5)) (hi_X12_does_32 hT) rfl rfl ?_
  refine v_push (1) (hi_X12_does_33 hT) rfl ?_
  refine v_ic (hi_X12_does_34 hT) (fun hc4 => absurd (show (5 : Int) = 1 from hc4) (by decide)) (fun _ => ?_)
  refine v_load (v := (0, 5)) (hi_X12_does_54 hT) rfl rfl ?_
  refine v_push (2) (hi_X12_does_55 hT) rfl ?_
  refine v_ic (hi_X12_does_56 hT) (fun hc5 => absurd (show (5 : Int) = 2 from hc5) (by decide)) (fun _ => ?_)
  refine v_load (v := (0, 5)) (hi_X12_does_80 hT) rfl rfl ?_
  refine v_push (5) (hi_X12_does_81 hT) rfl ?_
  refine v_ic (hi_X12_does_82 hT) (fun _ => ?_) (fun hc6 => absurd (show (5 : Int) = 5 from (by decide)) hc6)
  refine v_load (v := (2, 121)) (hz_X12_does hT _ _ rfl) rfl rfl ?_
  refine v_load (v := (2, 121)) (hz_X12_does hT _ _ rfl) rfl rfl ?_
  refine v_getR (c := 126) (r := 121) (hz_X12_does hT _ _ rfl) rfl rfl rfl ?_
  refine v_load (v := (0, (277 + (9 * (s : Int))))) (hz_X12_does hT _ _ rfl) rfl rfl ?_
  refine v_push (1) (hz_X12_does hT _ _ rfl) rfl ?_
  refine v_bin (w := ((277 + (9 * (s : Int))) + 1)) (hz_X12_does hT _ _ rfl) (hq_add (by omega) (by omega)) ?_
  refine v_aldB (t := 0) (r := 126) (w := (a : Int)) (hz_X12_does hT _ _ rfl) rfl rfl rfl (fun _ _ => (congrArg Prod.snd w1)) (fun ha7 hb8 => ?_)
  refine v_call (w := 2) [some (2, 121), some (0, (a : Int))] hO (hz_X12_does hT _ _ rfl) rfl rfl ?_
  exact k0 ha1 hb2 ha7 hb8
theorem qr_de97 {D : zD} {T : zT} (hT : hTab T) (hO : vOK T) {N : Nat} {h : zH} {Q : zR → Prop} {s : Nat} (x z : Int) (hv0 : zHv h) (bz : z = 0 ∨ z = 1)
    (k0 : Q (h, some (0, z))) :
    vP D T N 221 97 h [some (2, 121), some (0, (277 + (9 * (s : Int)))), some (0, x), none] [(0, z)] Q := by
  refine v_ret (hz_X12_does hT _ _ rfl) (Or.inl rfl) ?_
  exact k0 
theorem qr_de3n {D : zD} {T : zT} (hT : hTab T) (hO : vOK T) {N : Nat} {h : zH} {Q : zR → Prop} {s a : Nat} (hv0 : zHv h) (bs : s < 30) (w0 : h 126 (277 + (9 * (s : Int))).toNat = (0, 3)) (w1 : h 126 ((277 + (9 * (s : Int))) + 1).toNat = (0, (a : Int))) (w2 : h 126 ((277 + (9 * (s : Int))) + 2).toNat = (0, (a : Int)))
    (k0 : (0 ≤ (277 + (9 * (s : Int)))) → ((277 + (9 * (s : Int))) < 2750) → (0 ≤ ((277 + (9 * (s : Int))) + 1)) → (((277 + (9 * (s : Int))) + 1) < 2750) → (0 ≤ ((277 + (9 * (s : Int))) + 2)) → (((277 + (9 * (s : Int))) + 2) < 2750) → ((a : Int) = (a : Int)) → Q (h, some (0, 0)))
    (k1 : (0 ≤ (277 + (9 * (s : Int)))) → ((277 + (9 * (s : Int))) < 2750) → (0 ≤ ((277 + (9 * (s : Int))) + 1)) → (((277 + (9 * (s : Int))) + 1) < 2750) → (0 ≤ ((277 + (9 * (s : Int))) + 2)) → (((277 + (9 * (s : Int))) + 2) < 2750) → ((a : Int) ≠ (a : Int)) → vP D T N 317 0 h [some (2, 121), some (0, (a : Int)), some (0, (a : Int)), none, none] [] (fun r1 => vP D T N 221 144 r1.1 [some (2, 121), some (0, (277 + (9 * (s : Int)))), some (0, 3), none] (zpush r1.2 []) Q)) :
    vP D T N 221 0 h [some (2, 121), some (0, (277 + (9 * (s : Int)))), none, none] [] Q := by
  refine v_load (v := (2, 121)) (hi_X12_does_0 hT) rfl rfl ?_
  refine v_getR (c := 126) (r := 121) (hi_X12_does_1 hT) rfl rfl rfl ?_
  refine v_load (v := (0, (277 + (9 * (s : Int))))) (hi_X12_does_4 hT) rfl rfl ?_
  refine v_aldB (t := 0) (r := 126) (w := 3) (hi_X12_does_5 hT) rfl rfl rfl (fun _ _ => (congrArg Prod.snd w0)) (fun ha1 hb2 => ?_)
  refine v_store1 [some (2, 121), some (0, (277 + (9 * (s : Int)))), some (0, 3), none] (hi_X12_does_6 hT) ⟨rfl, Nat.ne_of_beq_eq_false rfl⟩ (Nat.le_of_ble_eq_true rfl) rfl ?_
  refine v_load (v := (0, 3)) (hi_X12_does_7 hT) rfl rfl ?_
  refine v_if (hi_X12_does_8 hT) (fun hc3 => absurd (show (3 : Int) = 0 from hc3) (by decide)) (fun _ => ?_)
  refine v_load (v := (0, 3)) (hi_X12_does_32 hT) rfl rfl ?_
  refine v_push (1) (hi_X12_does_33 hT) rfl ?_
  refine v_ic (hi_X12_does_34 hT) (fun hc4 => absurd (show (3 : Int) = 1 from hc4) (by decide)) (fun _ => ?_)
  refine v_load (v := (0, 3)) (hi_X12_does_54 hT) rfl rfl ?_
  refine v_push (2) (hi_X12_does_55 hT) rfl ?_
  refine v_ic (hi_X12_does_56 hT) (fun hc5 => absurd (show (3 : Int) = 2 from hc5) (by decide)) (fun _ => ?_)
  refine v_load (v := (0, 3)) (hi_X12_does_80 hT) rfl rfl ?_
  refine v_push (5) (hi_X12_does_81 hT) rfl ?_
  refine v_ic (hi_X12_does_82 hT) (fun hc6 => absurd (show (3 : Int) = 5 from hc6) (by decide)) (fun _ => ?_)
  refine v_load (v := (0, 3)) (hi_X12_does_98 hT) rfl rfl ?_
  refine v_push (3) (hi_X12_does_99 hT) rfl ?_
  refine v_ic (hi_X12_does_100 hT) (fun _ => ?_) (fun hc7 => absurd (show (3 : Int) = 3 from (by decide)) hc7)
  refine v_load (v := (2, 121)) (hz_X12_does hT _ _ rfl) rfl rfl ?_
  refine v_getR (c := 126) (r := 121) (hz_X12_does hT _ _ rfl) rfl rfl rfl ?_
  refine v_load (v := (0, (277 + (9 * (s : Int))))) (hz_X12_does hT _ _ rfl) rfl rfl ?_
  refine v_push (1) (hz_X12_does hT _ _ rfl) rfl ?_
  refine v_bin (w := ((277 + (9 * (s : Int))) + 1)) (hz_X12_does hT _ _ rfl) (hq_add (by omega) (by omega)) ?_
  refine v_aldB (t := 0) (r := 126) (w := (a : Int)) (hz_X12_does hT _ _ rfl) rfl rfl rfl (fun _ _ => (congrArg Prod.snd w1)) (fun ha8 hb9 => ?_)
  refine v_load (v := (2, 121)) (hz_X12_does hT _ _ rfl) rfl rfl ?_
  refine v_getR (c := 126) (r := 121) (hz_X12_does hT _ _ rfl) rfl rfl rfl ?_
  refine v_load (v := (0, (277 + (9 * (s : Int))))) (hz_X12_does hT _ _ rfl) rfl rfl ?_
  refine v_push (2) (hz_X12_does hT _ _ rfl) rfl ?_
  refine v_bin (w := ((277 + (9 * (s : Int))) + 2)) (hz_X12_does hT _ _ rfl) (hq_add (by omega) (by omega)) ?_
  refine v_aldB (t := 0) (r := 126) (w := (a : Int)) (hz_X12_does hT _ _ rfl) rfl rfl rfl (fun _ _ => (congrArg Prod.snd w2)) (fun ha10 hb11 => ?_)
  refine v_ic (hz_X12_does hT _ _ rfl) (fun hc12 => ?_) (fun hc12 => ?_)
  · have hc12 : (a : Int) = (a : Int) := hc12
    refine v_push (0) (hz_X12_does hT _ _ rfl) rfl ?_
    refine v_ret (hz_X12_does hT _ _ rfl) (Or.inl rfl) ?_
    exact k0 ha1 hb2 ha8 hb9 ha10 hb11 hc12
  · have hc12 : (a : Int) ≠ (a : Int) := hc12
    refine v_load (v := (2, 121)) (hz_X12_does hT _ _ rfl) rfl rfl ?_
    refine v_load (v := (2, 121)) (hz_X12_does hT _ _ rfl) rfl rfl ?_
    refine v_getR (c := 126) (r := 121) (hz_X12_does hT _ _ rfl) rfl rfl rfl ?_
    refine v_load (v := (0, (277 + (9 * (s : Int))))) (hz_X12_does hT _ _ rfl) rfl rfl ?_
    refine v_push (1) (hz_X12_does hT _ _ rfl) rfl ?_
    refine v_bin (w := ((277 + (9 * (s : Int))) + 1)) (hz_X12_does hT _ _ rfl) (hq_add (by omega) (by omega)) ?_
    refine v_aldB (t := 0) (r := 126) (w := (a : Int)) (hz_X12_does hT _ _ rfl) rfl rfl rfl (fun _ _ => (congrArg Prod.snd w1)) (fun ha13 hb14 => ?_)
    refine v_load (v := (2, 121)) (hz_X12_does hT _ _ rfl) rfl rfl ?_
    refine v_getR (c := 126) (r := 121) (hz_X12_does hT _ _ rfl) rfl rfl rfl ?_
    refine v_load (v := (0, (277 + (9 * (s : Int))))) (hz_X12_does hT _ _ rfl) rfl rfl ?_
    refine v_push (2) (hz_X12_does hT _ _ rfl) rfl ?_
    refine v_bin (w := ((277 + (9 * (s : Int))) + 2)) (hz_X12_does hT _ _ rfl) (hq_add (by omega) (by omega)) ?_
    refine v_aldB (t := 0) (r := 126) (w := (a : Int)) (hz_X12_does hT _ _ rfl) rfl rfl rfl (fun _ _ => (congrArg Prod.snd w2)) (fun ha15 hb16 => ?_)
    refine v_call (w := 5) [some (2, 121), some (0, (a : Int)), some (0, (a : Int)), none, none] hO (hz_X12_does hT _ _ rfl) rfl rfl ?_
    exact k1 ha1 hb2 ha8 hb9 ha10 hb11 hc12
theorem qr_de3 {D : zD} {T : zT} (hT : hTab T) (hO : vOK T) {N : Nat} {h : zH} {Q : zR → Prop} {s a b : Nat} (hv0 : zHv h) (bs : s < 30) (w0 : h 126 (277 + (9 * (s : Int))).toNat = (0, 3)) (w1 : h 126 ((277 + (9 * (s : Int))) + 1).toNat = (0, (a : Int))) (w2 : h 126 ((277 + (9 * (s : Int))) + 2).toNat = (0, (b : Int))) (hab : (a : Int) ≠ (b : Int))
    (k0 : (0 ≤ (277 + (9 * (s : Int)))) → ((277 + (9 * (s : Int))) < 2750) → (0 ≤ ((277 + (9 * (s : Int))) + 1)) → (((277 + (9 * (s : Int))) + 1) < 2750) → (0 ≤ ((277 + (9 * (s : Int))) + 2)) → (((277 + (9 * (s : Int))) + 2) < 2750) → vP D T N 317 0 h [some (2, 121), some (0, (a : Int)), some (0, (b : Int)), none, none] [] (fun r1 => vP D T N 221 144 r1.1 [some (2, 121), some (0, (277 + (9 * (s : Int)))), some (0, 3), none] (zpush r1.2 []) Q)) :
    vP D T N 221 0 h [some (2, 121), some (0, (277 + (9 * (s : Int)))), none, none] [] Q := by
  refine v_load (v := (2, 121)) (hi_X12_does_0 hT) rfl rfl ?_
  refine v_getR (c := 126) (r := 121) (hi_X12_does_1 hT) rfl rfl rfl ?_
  refine v_load (v := (0, (277 + (9 * (s : Int))))) (hi_X12_does_4 hT) rfl rfl ?_
  refine v_aldB (t := 0) (r := 126) (w := 3) (hi_X12_does_5 hT) rfl rfl rfl (fun _ _ => (congrArg Prod.snd w0)) (fun ha1 hb2 => ?_)
  refine v_store1 [some (2, 121), some (0, (277 + (9 * (s : Int)))), some (0, 3), none] (hi_X12_does_6 hT) ⟨rfl, Nat.ne_of_beq_eq_false rfl⟩ (Nat.le_of_ble_eq_true rfl) rfl ?_
  refine v_load (v := (0, 3)) (hi_X12_does_7 hT) rfl rfl ?_
  refine v_if (hi_X12_does_8 hT) (fun hc3 => absurd (show (3 : Int) = 0 from hc3) (by decide)) (fun _ => ?_)
  refine v_load (v := (0, 3)) (hi_X12_does_32 hT) rfl rfl ?_
  refine v_push (1) (hi_X12_does_33 hT) rfl ?_
  refine v_ic (hi_X12_does_34 hT) (fun hc4 => absurd (show (3 : Int) = 1 from hc4) (by decide)) (fun _ => ?_)
  refine v_load (v := (0, 3)) (hi_X12_does_54 hT) rfl rfl ?_
  refine v_push (2) (hi_X12_does_55 hT) rfl ?_
  refine v_ic (hi_X12_does_56 hT) (fun hc5 => absurd (show (3 : Int) = 2 from hc5) (by decide)) (fun _ => ?_)
  refine v_load (v := (0, 3)) (hi_X12_does_80 hT) rfl rfl ?_
  refine v_push (5) (hi_X12_does_81 hT) rfl ?_
  refine v_ic (hi_X12_does_82 hT) (fun hc6 => absurd (show (3 : Int) = 5 from hc6) (by decide)) (fun _ => ?_)
  refine v_load (v := (0, 3)) (hi_X12_does_98 hT) rfl rfl ?_
  refine v_push (3) (hi_X12_does_99 hT) rfl ?_
  refine v_ic (hi_X12_does_100 hT) (fun _ => ?_) (fun hc7 => absurd (show (3 : Int) = 3 from (by decide)) hc7)
  refine v_load (v := (2, 121)) (hz_X12_does hT _ _ rfl) rfl rfl ?_
  refine v_getR (c := 126) (r := 121) (hz_X12_does hT _ _ rfl) rfl rfl rfl ?_
  refine v_load (v := (0, (277 + (9 * (s : Int))))) (hz_X12_does hT _ _ rfl) rfl rfl ?_
  refine v_push (1) (hz_X12_does hT _ _ rfl) rfl ?_
  refine v_bin (w := ((277 + (9 * (s : Int))) + 1)) (hz_X12_does hT _ _ rfl) (hq_add (by omega) (by omega)) ?_
  refine v_aldB (t := 0) (r := 126) (w := (a : Int)) (hz_X12_does hT _ _ rfl) rfl rfl rfl (fun _ _ => (congrArg Prod.snd w1)) (fun ha8 hb9 => ?_)
  refine v_load (v := (2, 121)) (hz_X12_does hT _ _ rfl) rfl rfl ?_
  refine v_getR (c := 126) (r := 121) (hz_X12_does hT _ _ rfl) rfl rfl rfl ?_
  refine v_load (v := (0, (277 + (9 * (s : Int))))) (hz_X12_does hT _ _ rfl) rfl rfl ?_
  refine v_push (2) (hz_X12_does hT _ _ rfl) rfl ?_
  refine v_bin (w := ((277 + (9 * (s : Int))) + 2)) (hz_X12_does hT _ _ rfl) (hq_add (by omega) (by omega)) ?_
  refine v_aldB (t := 0) (r := 126) (w := (b : Int)) (hz_X12_does hT _ _ rfl) rfl rfl rfl (fun _ _ => (congrArg Prod.snd w2)) (fun ha10 hb11 => ?_)
  refine v_ic (hz_X12_does hT _ _ rfl) (fun hc12 => absurd (show (a : Int) = (b : Int) from hc12) hab) (fun _ => ?_)
  refine v_load (v := (2, 121)) (hz_X12_does hT _ _ rfl) rfl rfl ?_
  refine v_load (v := (2, 121)) (hz_X12_does hT _ _ rfl) rfl rfl ?_
  refine v_getR (c := 126) (r := 121) (hz_X12_does hT _ _ rfl) rfl rfl rfl ?_
  refine v_load (v := (0, (277 + (9 * (s : Int))))) (hz_X12_does hT _ _ rfl) rfl rfl ?_
  refine v_push (1) (hz_X12_does hT _ _ rfl) rfl ?_
  refine v_bin (w := ((277 + (9 * (s : Int))) + 1)) (hz_X12_does hT _ _ rfl) (hq_add (by omega) (by omega)) ?_
  refine v_aldB (t := 0) (r := 126) (w := (a : Int)) (hz_X12_does hT _ _ rfl) rfl rfl rfl (fun _ _ => (congrArg Prod.snd w1)) (fun ha13 hb14 => ?_)
  refine v_load (v := (2, 121)) (hz_X12_does hT _ _ rfl) rfl rfl ?_
  refine v_getR (c := 126) (r := 121) (hz_X12_does hT _ _ rfl) rfl rfl rfl ?_
  refine v_load (v := (0, (277 + (9 * (s : Int))))) (hz_X12_does hT _ _ rfl) rfl rfl ?_
  refine v_push (2) (hz_X12_does hT _ _ rfl) rfl ?_
  refine v_bin (w := ((277 + (9 * (s : Int))) + 2)) (hz_X12_does hT _ _ rfl) (hq_add (by omega) (by omega)) ?_
  refine v_aldB (t := 0) (r := 126) (w := (b : Int)) (hz_X12_does hT _ _ rfl) rfl rfl rfl (fun _ _ => (congrArg Prod.snd w2)) (fun ha15 hb16 => ?_)
  refine v_call (w := 5) [some (2, 121), some (0, (a : Int)), some (0, (b : Int)), none, none] hO (hz_X12_does hT _ _ rfl) rfl rfl ?_
  exact k0 ha1 hb2 ha8 hb9 ha10 hb11
theorem qr_de144 {D : zD} {T : zT} (hT : hTab T) (hO : vOK T) {N : Nat} {h : zH} {Q : zR → Prop} {s : Nat} (x z : Int) (hv0 : zHv h)
    (k0 : Q (h, some (0, 1))) :
    vP D T N 221 144 h [some (2, 121), some (0, (277 + (9 * (s : Int)))), some (0, x), none] [(0, z)] Q := by
  refine v_pop (hz_X12_does hT _ _ rfl) (Nat.ne_of_beq_eq_false rfl) ?_
  refine v_goto (hz_X12_does hT _ _ rfl) ?_
  refine v_push (1) (hz_X12_does hT _ _ rfl) rfl ?_
  refine v_ret (hz_X12_does hT _ _ rfl) (Or.inl rfl) ?_
  exact k0 
theorem qr_de4 {D : zD} {T : zT} (hT : hTab T) (hO : vOK T) {N : Nat} {h : zH} {Q : zR → Prop} {s a b : Nat} (hv0 : zHv h) (bs : s < 30) (w0 : h 126 (277 + (9 * (s : Int))).toNat = (0, 4)) (w1 : h 126 ((277 + (9 * (s : Int))) + 1).toNat = (0, (a : Int))) (w2 : h 126 ((277 + (9 * (s : Int))) + 2).toNat = (0, (b : Int)))
    (k0 : (0 ≤ (277 + (9 * (s : Int)))) → ((277 + (9 * (s : Int))) < 2750) → (0 ≤ ((277 + (9 * (s : Int))) + 1)) → (((277 + (9 * (s : Int))) + 1) < 2750) → (0 ≤ ((277 + (9 * (s : Int))) + 2)) → (((277 + (9 * (s : Int))) + 2) < 2750) → vP D T N 281 0 h [some (2, 121), some (0, (a : Int)), some (0, (b : Int)), none, none, none] [] (fun r1 => vP D T N 221 173 r1.1 [some (2, 121), some (0, (277 + (9 * (s : Int)))), some (0, 4), none] (zpush r1.2 []) Q)) :
    vP D T N 221 0 h [some (2, 121), some (0, (277 + (9 * (s : Int)))), none, none] [] Q := by
  refine v_load (v := (2, 121)) (hi_X12_does_0 hT) rfl rfl ?_
  refine v_getR (c := 126) (r := 121) (hi_X12_does_1 hT) rfl rfl rfl ?_
  refine v_load (v := (0, (277 + (9 * (s : Int))))) (hi_X12_does_4 hT) rfl rfl ?_
  refine v_aldB (t := 0) (r := 126) (w := 4) (hi_X12_does_5 hT) rfl rfl rfl (fun _ _ => (congrArg Prod.snd w0)) (fun ha1 hb2 => ?_)
  refine v_store1 [some (2, 121), some (0, (277 + (9 * (s : Int)))), some (0, 4), none] (hi_X12_does_6 hT) ⟨rfl, Nat.ne_of_beq_eq_false rfl⟩ (Nat.le_of_ble_eq_true rfl) rfl ?_
  refine v_load (v := (0, 4)) (hi_X12_does_7 hT) rfl rfl ?_
  refine v_if (hi_X12_does_8 hT) (fun hc3 => absurd (show (4 : Int) = 0 from hc3) (by decide)) (fun _ => ?_)
  refine v_load (v := (0, 4)) (hi_X12_does_32 hT) rfl rfl ?_
  refine v_push (1) (hi_X12_does_33 hT) rfl ?_
  refine v_ic (hi_X12_does_34 hT) (fun hc4 => absurd (show (4 : Int) = 1 from hc4) (by decide)) (fun _ => ?_)
  refine v_load (v := (0, 4)) (hi_X12_does_54 hT) rfl rfl ?_
  refine v_push (2) (hi_X12_does_55 hT) rfl ?_
  refine v_ic (hi_X12_does_56 hT) (fun hc5 => absurd (show (4 : Int) = 2 from hc5) (by decide)) (fun _ => ?_)
  refine v_load (v := (0, 4)) (hi_X12_does_80 hT) rfl rfl ?_
  refine v_push (5) (hi_X12_does_81 hT) rfl ?_
  refine v_ic (hi_X12_does_82 hT) (fun hc6 => absurd (show (4 : Int) = 5 from hc6) (by decide)) (fun _ => ?_)
  refine v_load (v := (0, 4)) (hi_X12_does_98 hT) rfl rfl ?_
  refine v_push (3) (hi_X12_does_99 hT) rfl ?_
  refine v_ic (hi_X12_does_100 hT) (fun hc7 => absurd (show (4 : Int) = 3 from hc7) (by decide)) (fun _ => ?_)
  refine v_load (v := (0, 4)) (hz_X12_does hT _ _ rfl) rfl rfl ?_
  refine v_push (4) (hz_X12_does hT _ _ rfl) rfl ?_
  refine v_ic (hz_X12_does hT _ _ rfl) (fun _ => ?_) (fun hc8 => absurd (show (4 : Int) = 4 from (by decide)) hc8)
  refine v_load (v := (2, 121)) (hz_X12_does hT _ _ rfl) rfl rfl ?_
  refine v_load (v := (2, 121)) (hz_X12_does hT _ _ rfl) rfl rfl ?_
  refine v_getR (c := 126) (r := 121) (hz_X12_does hT _ _ rfl) rfl rfl rfl ?_
  refine v_load (v := (0, (277 + (9 * (s : Int))))) (hz_X12_does hT _ _ rfl) rfl rfl ?_
  refine v_push (1) (hz_X12_does hT _ _ rfl) rfl ?_
  refine v_bin (w := ((277 + (9 * (s : Int))) + 1)) (hz_X12_does hT _ _ rfl) (hq_add (by omega) (by omega)) ?_
  refine v_aldB (t := 0) (r := 126) (w := (a : Int)) (hz_X12_does hT _ _ rfl) rfl rfl rfl (fun _ _ => (congrArg Prod.snd w1)) (fun ha9 hb10 => ?_)
  refine v_load (v := (2, 121)) (hz_X12_does hT _ _ rfl) rfl rfl ?_
  refine v_getR (c := 126) (r := 121) (hz_X12_does hT _ _ rfl) rfl rfl rfl ?_
  refine v_load (v := (0, (277 + (9 * (s : Int))))) (hz_X12_does hT _ _ rfl) rfl rfl ?_
  refine v_push (2) (hz_X12_does hT _ _ rfl) rfl ?_
  refine v_bin (w := ((277 + (9 * (s : Int))) + 2)) (hz_X12_does hT _ _ rfl) (hq_add (by omega) (by omega)) ?_
  refine v_aldB (t := 0) (r := 126) (w := (b : Int)) (hz_X12_does hT _ _ rfl) rfl rfl rfl (fun _ _ => (congrArg Prod.snd w2)) (fun ha11 hb12 => ?_)
  refine v_call (w := 6) [some (2, 121), some (0, (a : Int)), some (0, (b : Int)), none, none, none] hO (hz_X12_does hT _ _ rfl) rfl rfl ?_
  exact k0 ha1 hb2 ha9 hb10 ha11 hb12
theorem qr_de173 {D : zD} {T : zT} (hT : hTab T) (hO : vOK T) {N : Nat} {h : zH} {Q : zR → Prop} {s : Nat} (x : Int) (hv0 : zHv h)
    (k0 : Q (h, some (0, 1))) :
    vP D T N 221 173 h [some (2, 121), some (0, (277 + (9 * (s : Int)))), some (0, x), none] [] Q := by
  refine v_goto (hz_X12_does hT _ _ rfl) ?_
  refine v_push (1) (hz_X12_does hT _ _ rfl) rfl ?_
  refine v_ret (hz_X12_does hT _ _ rfl) (Or.inl rfl) ?_
  exact k0 
theorem qr_de6 {D : zD} {T : zT} (hT : hTab T) (hO : vOK T) {N : Nat} {h : zH} {Q : zR → Prop} {s : Nat} (hv0 : zHv h) (bs : s < 30) (w0 : h 126 (277 + (9 * (s : Int))).toNat = (0, 6))
    (k0 : (0 ≤ (277 + (9 * (s : Int)))) → ((277 + (9 * (s : Int))) < 2750) → vP D T N 221 178 h [some (2, 121), some (0, (277 + (9 * (s : Int)))), some (0, 6), some (0, 0)] [] Q) :
    vP D T N 221 0 h [some (2, 121), some (0, (277 + (9 * (s : Int)))), none, none] [] Q := by
  refine v_load (v := (2, 121)) (hi_X12_does_0 hT) rfl rfl ?_
  refine v_getR (c := 126) (r := 121) (hi_X12_does_1 hT) rfl rfl rfl ?_
  refine v_load (v := (0, (277 + (9 * (s : Int))))) (hi_X12_does_4 hT) rfl rfl ?_
  refine v_aldB (t := 0) (r := 126) (w := 6) (hi_X12_does_5 hT) rfl rfl rfl (fun _ _ => (congrArg Prod.snd w0)) (fun ha1 hb2 => ?_)
  refine v_store1 [some (2, 121), some (0, (277 + (9 * (s : Int)))), some (0, 6), none] (hi_X12_does_6 hT) ⟨rfl, Nat.ne_of_beq_eq_false rfl⟩ (Nat.le_of_ble_eq_true rfl) rfl ?_
  refine v_load (v := (0, 6)) (hi_X12_does_7 hT) rfl rfl ?_
  refine v_if (hi_X12_does_8 hT) (fun hc3 => absurd (show (6 : Int) = 0 from hc3) (by decide)) (fun _ => ?_)
  refine v_load (v := (0, 6)) (hi_X12_does_32 hT) rfl rfl ?_
  refine v_push (1) (hi_X12_does_33 hT) rfl ?_
  refine v_ic (hi_X12_does_34 hT) (fun hc4 => absurd (show (6 : Int) = 1 from hc4) (by decide)) (fun _ => ?_)
  refine v_load (v := (0, 6)) (hi_X12_does_54 hT) rfl rfl ?_
  refine v_push (2) (hi_X12_does_55 hT) rfl ?_
  refine v_ic (hi_X12_does_56 hT) (fun hc5 => absurd (show (6 : Int) = 2 from hc5) (by decide)) (fun _ => ?_)
  refine v_load (v := (0, 6)) (hi_X12_does_80 hT) rfl rfl ?_
  refine v_push (5) (hi_X12_does_81 hT) rfl ?_
  refine v_ic (hi_X12_does_82 hT) (fun hc6 => absurd (show (6 : Int) = 5 from hc6) (by decide)) (fun _ => ?_)
  refine v_load (v := (0, 6)) (hi_X12_does_98 hT) rfl rfl ?_
  refine v_push (3) (hi_X12_does_99 hT) rfl ?_
  refine v_ic (hi_X12_does_100 hT) (fun hc7 => absurd (show (6 : Int) = 3 from hc7) (by decide)) (fun _ => ?_)
  refine v_load (v := (0, 6)) (hz_X12_does hT _ _ rfl) rfl rfl ?_
  refine v_push (4) (hz_X12_does hT _ _ rfl) rfl ?_
  refine v_ic (hz_X12_does hT _ _ rfl) (fun hc8 => absurd (show (6 : Int) = 4 from hc8) (by decide)) (fun _ => ?_)
  refine v_push (0) (hz_X12_does hT _ _ rfl) rfl ?_
  refine v_store1 [some (2, 121), some (0, (277 + (9 * (s : Int)))), some (0, 6), some (0, 0)] (hz_X12_does hT _ _ rfl) ⟨rfl, Nat.ne_of_beq_eq_false rfl⟩ (Nat.le_of_ble_eq_true rfl) rfl ?_
  exact k0 ha1 hb2
theorem qr_de178 {D : zD} {T : zT} (hT : hTab T) (hO : vOK T) {N : Nat} {h : zH} {Q : zR → Prop} {P : PT} {s i : Nat} (v : Int) (hv0 : zHv h) (p3 : h 126 3 = (0, P 0 3)) (hi : (i : Int) < P 0 3) (i6 : i < 6) (ev : h 126 (257 + (i : Int)).toNat = (0, v))
    (k0 : (0 ≤ (257 + (i : Int))) → ((257 + (i : Int)) < 2750) → (0 ≤ (245 + (i : Int))) → ((245 + (i : Int)) < 2750) → vP D T N 221 178 (zset h 126 (((245 + (i : Int))).toNat) (0, v)) [some (2, 121), some (0, (277 + (9 * (s : Int)))), some (0, 6), some (0, ((i : Int) + 1))] [] Q) :
    vP D T (N + 1) 221 178 h [some (2, 121), some (0, (277 + (9 * (s : Int)))), some (0, 6), some (0, (i : Int))] [] Q := by
  refine v_loadS (v := (0, (i : Int))) (hz_X12_does hT _ _ rfl) rfl rfl ?_
  refine v_load (v := (2, 121)) (hz_X12_does hT _ _ rfl) rfl rfl ?_
  refine v_getR (c := 126) (r := 121) (hz_X12_does hT _ _ rfl) rfl rfl rfl ?_
  refine v_push (3) (hz_X12_does hT _ _ rfl) rfl ?_
  refine v_aldV (v := (0, (P 0 3))) (r := 126) (hz_X12_does hT _ _ rfl) rfl rfl (fun _ _ _ => p3) (fun ha1 hb2 => ?_)
  refine v_ic (hz_X12_does hT _ _ rfl) (fun _ => ?_) (fun hc3 => absurd (show (i : Int) < (P 0 3) from hi) hc3)
  refine v_load (v := (2, 121)) (hz_X12_does hT _ _ rfl) rfl rfl ?_
  refine v_getR (c := 126) (r := 121) (hz_X12_does hT _ _ rfl) rfl rfl rfl ?_
  refine v_push (245) (hz_X12_does hT _ _ rfl) rfl ?_
  refine v_load (v := (0, (i : Int))) (hz_X12_does hT _ _ rfl) rfl rfl ?_
  refine v_bin (w := (245 + (i : Int))) (hz_X12_does hT _ _ rfl) (hq_add (by omega) (by omega)) ?_
  refine v_load (v := (2, 121)) (hz_X12_does hT _ _ rfl) rfl rfl ?_
  refine v_getR (c := 126) (r := 121) (hz_X12_does hT _ _ rfl) rfl rfl rfl ?_
  refine v_push (257) (hz_X12_does hT _ _ rfl) rfl ?_
  refine v_load (v := (0, (i : Int))) (hz_X12_does hT _ _ rfl) rfl rfl ?_
  refine v_bin (w := (257 + (i : Int))) (hz_X12_does hT _ _ rfl) (hq_add (by omega) (by omega)) ?_
  refine v_aldB (t := 0) (r := 126) (w := v) (hz_X12_does hT _ _ rfl) rfl rfl rfl (fun _ _ => (congrArg Prod.snd ev)) (fun ha4 hb5 => ?_)
  refine v_ast (r := 126) (hz_X12_does hT _ _ rfl) rfl rfl (fun ha6 hb7 hf8 => ?_)
  refine v_iinc (x := (i : Int)) (u := 1) (w := ((i : Int) + 1)) [some (2, 121), some (0, (277 + (9 * (s : Int)))), some (0, 6), some (0, ((i : Int) + 1))] (hz_X12_does hT _ _ rfl) rfl rfl (Nat.le_of_ble_eq_true rfl) (vz_inc (by omega) (by omega)) rfl ?_
  refine v_goto (hz_X12_does hT _ _ rfl) ?_
  exact k0 ha4 hb5 ha6 hb7
theorem qr_de179 {D : zD} {T : zT} (hT : hTab T) (hO : vOK T) {N : Nat} {h : zH} {Q : zR → Prop} {P : PT} {s i : Nat} (hv0 : zHv h) (p3 : h 126 3 = (0, P 0 3)) (hi : P 0 3 ≤ (i : Int))
    (k0 : Q (h, some (0, 1))) :
    vP D T (N + 1) 221 178 h [some (2, 121), some (0, (277 + (9 * (s : Int)))), some (0, 6), some (0, (i : Int))] [] Q := by
  refine v_loadS (v := (0, (i : Int))) (hz_X12_does hT _ _ rfl) rfl rfl ?_
  refine v_load (v := (2, 121)) (hz_X12_does hT _ _ rfl) rfl rfl ?_
  refine v_getR (c := 126) (r := 121) (hz_X12_does hT _ _ rfl) rfl rfl rfl ?_
  refine v_push (3) (hz_X12_does hT _ _ rfl) rfl ?_
  refine v_aldV (v := (0, (P 0 3))) (r := 126) (hz_X12_does hT _ _ rfl) rfl rfl (fun _ _ _ => p3) (fun ha1 hb2 => ?_)
  refine v_ic (hz_X12_does hT _ _ rfl) (fun hc3 => absurd (show (i : Int) < (P 0 3) from hc3) (by omega)) (fun _ => ?_)
  refine v_push (1) (hz_X12_does hT _ _ rfl) rfl ?_
  refine v_ret (hz_X12_does hT _ _ rfl) (Or.inl rfl) ?_
  exact k0 
theorem qr_do300 {D : zD} {T : zT} (hT : hTab T) (hO : vOK T) {N : Nat} {h : zH} {Q : zR → Prop} {s : Nat} (hv0 : zHv h) (e43 : h 121 43 = (0, 300))
    (k0 : Q (zset (zset h 121 41 (0, 1)) 121 47 (0, 1), none)) :
    vP D T N 220 0 h [some (2, 121), some (0, (s : Int)), none, none, none] [] Q := by
  refine v_load (v := (2, 121)) (hi_X12_doOne_0 hT) rfl rfl ?_
  refine v_getf (v := (0, 300)) (r := 121) (hi_X12_doOne_1 hT) rfl rfl (fun _ => e43) ?_
  refine v_push (300) (hi_X12_doOne_4 hT) rfl ?_
  refine v_ic (hi_X12_doOne_7 hT) (fun _ => ?_) (fun hc1 => absurd (show (300 : Int) = 300 from (by decide)) hc1)
  refine v_load (v := (2, 121)) (hz_X12_doOne hT _ _ rfl) rfl rfl ?_
  refine v_push (1) (hz_X12_doOne hT _ _ rfl) rfl ?_
  refine v_putf (r := 121) hO (hz_X12_doOne hT _ _ rfl) rfl (fun hf2 => ?_)
  refine v_load (v := (2, 121)) (hz_X12_doOne hT _ _ rfl) rfl rfl ?_
  refine v_push (1) (hz_X12_doOne hT _ _ rfl) rfl ?_
  refine v_putf (r := 121) hO (hz_X12_doOne hT _ _ rfl) rfl (fun hf3 => ?_)
  refine v_ret0 (hz_X12_doOne hT _ _ rfl) ?_
  exact k0 
theorem qr_do0 {D : zD} {T : zT} (hT : hTab T) (hO : vOK T) {N : Nat} {h : zH} {Q : zR → Prop} {s d m : Nat} (hv0 : zHv h) (e43 : h 121 43 = (0, (d : Int))) (hd : (d : Int) ≠ 300) (bd : d < 300) (bs : s < 30) (e44 : h 121 44 = (0, (m : Int))) (w0 : h 126 (277 + (9 * (s : Int))).toNat = (0, 0))
    (k0 : (0 ≤ (277 + (9 * (s : Int)))) → ((277 + (9 * (s : Int))) < 2750) → vP D T N 221 0 (zset h 121 43 (0, ((d : Int) + 1))) [some (2, 121), some (0, (277 + (9 * (s : Int)))), none, none] [] (fun r1 => vP D T N 220 63 r1.1 [some (2, 121), some (0, (s : Int)), some (0, (277 + (9 * (s : Int)))), some (0, 0), none] (zpush r1.2 [(0, (m : Int)), (2, 121)]) Q)) :
    vP D T N 220 0 h [some (2, 121), some (0, (s : Int)), none, none, none] [] Q := by
  refine v_load (v := (2, 121)) (hi_X12_doOne_0 hT) rfl rfl ?_
  refine v_getf (v := (0, (d : Int))) (r := 121) (hi_X12_doOne_1 hT) rfl rfl (fun _ => e43) ?_
  refine v_push (300) (hi_X12_doOne_4 hT) rfl ?_
  refine v_ic (hi_X12_doOne_7 hT) (fun hc1 => absurd (show (d : Int) = 300 from hc1) hd) (fun _ => ?_)
  refine v_load (v := (2, 121)) (hi_X12_doOne_21 hT) rfl rfl ?_
  refine v_dup (hi_X12_doOne_22 hT) (Nat.ne_of_beq_eq_false rfl) ?_
  refine v_getf (v := (0, (d : Int))) (r := 121) (hi_X12_doOne_23 hT) rfl rfl (fun _ => e43) ?_
  refine v_push (1) (hi_X12_doOne_26 hT) rfl ?_
  refine v_bin (w := ((d : Int) + 1)) (hi_X12_doOne_27 hT) (hq_add (by omega) (by omega)) ?_
  refine v_putf (r := 121) hO (hi_X12_doOne_28 hT) rfl (fun hf2 => ?_)
  refine v_push (277) (hi_X12_doOne_31 hT) rfl ?_
  refine v_push (9) (hi_X12_doOne_34 hT) rfl ?_
  refine v_load (v := (0, (s : Int))) (hi_X12_doOne_36 hT) rfl rfl ?_
  refine v_bin (w := (9 * (s : Int))) (hi_X12_doOne_37 hT) (hq_mul (by omega) (by omega)) ?_
  refine v_bin (w := (277 + (9 * (s : Int)))) (hi_X12_doOne_38 hT) (hq_add (by omega) (by omega)) ?_
  refine v_store1 [some (2, 121), some (0, (s : Int)), some (0, (277 + (9 * (s : Int)))), none, none] (hi_X12_doOne_39 hT) ⟨rfl, Nat.ne_of_beq_eq_false rfl⟩ (Nat.le_of_ble_eq_true rfl) rfl ?_
  refine v_load (v := (2, 121)) (hi_X12_doOne_40 hT) rfl rfl ?_
  refine v_getR (c := 126) (r := 121) (hi_X12_doOne_41 hT) rfl rfl rfl ?_
  refine v_load (v := (0, (277 + (9 * (s : Int))))) (hi_X12_doOne_44 hT) rfl rfl ?_
  refine v_aldB (t := 0) (r := 126) (w := 0) (hi_X12_doOne_45 hT) rfl rfl rfl (fun _ _ => (congrArg Prod.snd ((zset_ne (fun c => absurd c.1 (by decide))).trans w0))) (fun ha3 hb4 => ?_)
  refine v_store1 [some (2, 121), some (0, (s : Int)), some (0, (277 + (9 * (s : Int)))), some (0, 0), none] (hi_X12_doOne_46 hT) ⟨rfl, Nat.ne_of_beq_eq_false rfl⟩ (Nat.le_of_ble_eq_true rfl) rfl ?_
  refine v_load (v := (0, 0)) (hi_X12_doOne_47 hT) rfl rfl ?_
  refine v_push (7) (hi_X12_doOne_48 hT) rfl ?_
  refine v_ic (hi_X12_doOne_50 hT) (fun _ => ?_) (fun hc5 => absurd (show (0 : Int) < 7 from (by decide)) hc5)
  refine v_load (v := (2, 121)) (hi_X12_doOne_53 hT) rfl rfl ?_
  refine v_dup (hi_X12_doOne_54 hT) (Nat.ne_of_beq_eq_false rfl) ?_
  refine v_getf (v := (0, (m : Int))) (r := 121) (hi_X12_doOne_55 hT) rfl rfl (fun _ => Eq.trans (zset_ne (fun c => absurd c.2 (by decide))) (e44)) ?_
  refine v_load (v := (2, 121)) (hi_X12_doOne_58 hT) rfl rfl ?_
  refine v_load (v := (0, (277 + (9 * (s : Int))))) (hi_X12_doOne_59 hT) rfl rfl ?_
  refine v_call (w := 4) [some (2, 121), some (0, (277 + (9 * (s : Int)))), none, none] hO (hi_X12_doOne_60 hT) rfl rfl ?_
  exact k0 ha3 hb4
theorem qr_do1 {D : zD} {T : zT} (hT : hTab T) (hO : vOK T) {N : Nat} {h : zH} {Q : zR → Prop} {s d m : Nat} (hv0 : zHv h) (e43 : h 121 43 = (0, (d : Int))) (hd : (d : Int) ≠ 300) (bd : d < 300) (bs : s < 30) (e44 : h 121 44 = (0, (m : Int))) (w0 : h 126 (277 + (9 * (s : Int))).toNat = (0, 1))
    (k0 : (0 ≤ (277 + (9 * (s : Int)))) → ((277 + (9 * (s : Int))) < 2750) → vP D T N 221 0 (zset h 121 43 (0, ((d : Int) + 1))) [some (2, 121), some (0, (277 + (9 * (s : Int)))), none, none] [] (fun r1 => vP D T N 220 63 r1.1 [some (2, 121), some (0, (s : Int)), some (0, (277 + (9 * (s : Int)))), some (0, 1), none] (zpush r1.2 [(0, (m : Int)), (2, 121)]) Q)) :
    vP D T N 220 0 h [some (2, 121), some (0, (s : Int)), none, none, none] [] Q := by
  refine v_load (v := (2, 121)) (hi_X12_doOne_0 hT) rfl rfl ?_
  refine v_getf (v := (0, (d : Int))) (r := 121) (hi_X12_doOne_1 hT) rfl rfl (fun _ => e43) ?_
  refine v_push (300) (hi_X12_doOne_4 hT) rfl ?_
  refine v_ic (hi_X12_doOne_7 hT) (fun hc1 => absurd (show (d : Int) = 300 from hc1) hd) (fun _ => ?_)
  refine v_load (v := (2, 121)) (hi_X12_doOne_21 hT) rfl rfl ?_
  refine v_dup (hi_X12_doOne_22 hT) (Nat.ne_of_beq_eq_false rfl) ?_
  refine v_getf (v := (0, (d : Int))) (r := 121) (hi_X12_doOne_23 hT) rfl rfl (fun _ => e43) ?_
  refine v_push (1) (hi_X12_doOne_26 hT) rfl ?_
  refine v_bin (w := ((d : Int) + 1)) (hi_X12_doOne_27 hT) (hq_add (by omega) (by omega)) ?_
  refine v_putf (r := 121) hO (hi_X12_doOne_28 hT) rfl (fun hf2 => ?_)
  refine v_push (277) (hi_X12_doOne_31 hT) rfl ?_
  refine v_push (9) (hi_X12_doOne_34 hT) rfl ?_
  refine v_load (v := (0, (s : Int))) (hi_X12_doOne_36 hT) rfl rfl ?_
  refine v_bin (w := (9 * (s : Int))) (hi_X12_doOne_37 hT) (hq_mul (by omega) (by omega)) ?_
  refine v_bin (w := (277 + (9 * (s : Int)))) (hi_X12_doOne_38 hT) (hq_add (by omega) (by omega)) ?_
  refine v_store1 [some (2, 121), some (0, (s : Int)), some (0, (277 + (9 * (s : Int)))), none, none] (hi_X12_doOne_39 hT) ⟨rfl, Nat.ne_of_beq_eq_false rfl⟩ (Nat.le_of_ble_eq_true rfl) rfl ?_
  refine v_load (v := (2, 121)) (hi_X12_doOne_40 hT) rfl rfl ?_
  refine v_getR (c := 126) (r := 121) (hi_X12_doOne_41 hT) rfl rfl rfl ?_
  refine v_load (v := (0, (277 + (9 * (s : Int))))) (hi_X12_doOne_44 hT) rfl rfl ?_
  refine v_aldB (t := 0) (r := 126) (w := 1) (hi_X12_doOne_45 hT) rfl rfl rfl (fun _ _ => (congrArg Prod.snd ((zset_ne (fun c => absurd c.1 (by decide))).trans w0))) (fun ha3 hb4 => ?_)
  refine v_store1 [some (2, 121), some (0, (s : Int)), some (0, (277 + (9 * (s : Int)))), some (0, 1), none] (hi_X12_doOne_46 hT) ⟨rfl, Nat.ne_of_beq_eq_false rfl⟩ (Nat.le_of_ble_eq_true rfl) rfl ?_
  refine v_load (v := (0, 1)) (hi_X12_doOne_47 hT) rfl rfl ?_
  refine v_push (7) (hi_X12_doOne_48 hT) rfl ?_
  refine v_ic (hi_X12_doOne_50 hT) (fun _ => ?_) (fun hc5 => absurd (show (1 : Int) < 7 from (by decide)) hc5)
  refine v_load (v := (2, 121)) (hi_X12_doOne_53 hT) rfl rfl ?_
  refine v_dup (hi_X12_doOne_54 hT) (Nat.ne_of_beq_eq_false rfl) ?_
  refine v_getf (v := (0, (m : Int))) (r := 121) (hi_X12_doOne_55 hT) rfl rfl (fun _ => Eq.trans (zset_ne (fun c => absurd c.2 (by decide))) (e44)) ?_
  refine v_load (v := (2, 121)) (hi_X12_doOne_58 hT) rfl rfl ?_
  refine v_load (v := (0, (277 + (9 * (s : Int))))) (hi_X12_doOne_59 hT) rfl rfl ?_
  refine v_call (w := 4) [some (2, 121), some (0, (277 + (9 * (s : Int)))), none, none] hO (hi_X12_doOne_60 hT) rfl rfl ?_
  exact k0 ha3 hb4
theorem qr_do2 {D : zD} {T : zT} (hT : hTab T) (hO : vOK T) {N : Nat} {h : zH} {Q : zR → Prop} {s d m : Nat} (hv0 : zHv h) (e43 : h 121 43 = (0, (d : Int))) (hd : (d : Int) ≠ 300) (bd : d < 300) (bs : s < 30) (e44 : h 121 44 = (0, (m : Int))) (w0 : h 126 (277 + (9 * (s : Int))).toNat = (0, 2))
    (k0 : (0 ≤ (277 + (9 * (s : Int)))) → ((277 + (9 * (s : Int))) < 2750) → vP D T N 221 0 (zset h 121 43 (0, ((d : Int) + 1))) [some (2, 121), some (0, (277 + (9 * (s : Int)))), none, none] [] (fun r1 => vP D T N 220 63 r1.1 [some (2, 121), some (0, (s : Int)), some (0, (277 + (9 * (s : Int)))), some (0, 2), none] (zpush r1.2 [(0, (m : Int)), (2, 121)]) Q)) :
    vP D T N 220 0 h [some (2, 121), some (0, (s : Int)), none, none, none] [] Q := by
  refine v_load (v := (2, 121)) (hi_X12_doOne_0 hT) rfl rfl ?_
  refine v_getf (v := (0, (d : Int))) (r := 121) (hi_X12_doOne_1 hT) rfl rfl (fun _ => e43) ?_
  refine v_push (300) (hi_X12_doOne_4 hT) rfl ?_
  refine v_ic (hi_X12_doOne_7 hT) (fun hc1 => absurd (show (d : Int) = 300 from hc1) hd) (fun _ => ?_)
  refine v_load (v := (2, 121)) (hi_X12_doOne_21 hT) rfl rfl ?_
  refine v_dup (hi_X12_doOne_22 hT) (Nat.ne_of_beq_eq_false rfl) ?_
  refine v_getf (v := (0, (d : Int))) (r := 121) (hi_X12_doOne_23 hT) rfl rfl (fun _ => e43) ?_
  refine v_push (1) (hi_X12_doOne_26 hT) rfl ?_
  refine v_bin (w := ((d : Int) + 1)) (hi_X12_doOne_27 hT) (hq_add (by omega) (by omega)) ?_
  refine v_putf (r := 121) hO (hi_X12_doOne_28 hT) rfl (fun hf2 => ?_)
  refine v_push (277) (hi_X12_doOne_31 hT) rfl ?_
  refine v_push (9) (hi_X12_doOne_34 hT) rfl ?_
  refine v_load (v := (0, (s : Int))) (hi_X12_doOne_36 hT) rfl rfl ?_
  refine v_bin (w := (9 * (s : Int))) (hi_X12_doOne_37 hT) (hq_mul (by omega) (by omega)) ?_
  refine v_bin (w := (277 + (9 * (s : Int)))) (hi_X12_doOne_38 hT) (hq_add (by omega) (by omega)) ?_
  refine v_store1 [some (2, 121), some (0, (s : Int)), some (0, (277 + (9 * (s : Int)))), none, none] (hi_X12_doOne_39 hT) ⟨rfl, Nat.ne_of_beq_eq_false rfl⟩ (Nat.le_of_ble_eq_true rfl) rfl ?_
  refine v_load (v := (2, 121)) (hi_X12_doOne_40 hT) rfl rfl ?_
  refine v_getR (c := 126) (r := 121) (hi_X12_doOne_41 hT) rfl rfl rfl ?_
  refine v_load (v := (0, (277 + (9 * (s : Int))))) (hi_X12_doOne_44 hT) rfl rfl ?_
  refine v_aldB (t := 0) (r := 126) (w := 2) (hi_X12_doOne_45 hT) rfl rfl rfl (fun _ _ => (congrArg Prod.snd ((zset_ne (fun c => absurd c.1 (by decide))).trans w0))) (fun ha3 hb4 => ?_)
  refine v_store1 [some (2, 121), some (0, (s : Int)), some (0, (277 + (9 * (s : Int)))), some (0, 2), none] (hi_X12_doOne_46 hT) ⟨rfl, Nat.ne_of_beq_eq_false rfl⟩ (Nat.le_of_ble_eq_true rfl) rfl ?_
  refine v_load (v := (0, 2)) (hi_X12_doOne_47 hT) rfl rfl ?_
  refine v_push (7) (hi_X12_doOne_48 hT) rfl ?_
  refine v_ic (hi_X12_doOne_50 hT) (fun _ => ?_) (fun hc5 => absurd (show (2 : Int) < 7 from (by decide)) hc5)
  refine v_load (v := (2, 121)) (hi_X12_doOne_53 hT) rfl rfl ?_
  refine v_dup (hi_X12_doOne_54 hT) (Nat.ne_of_beq_eq_false rfl) ?_
  refine v_getf (v := (0, (m : Int))) (r := 121) (hi_X12_doOne_55 hT) rfl rfl (fun _ => Eq.trans (zset_ne (fun c => absurd c.2 (by decide))) (e44)) ?_
  refine v_load (v := (2, 121)) (hi_X12_doOne_58 hT) rfl rfl ?_
  refine v_load (v := (0, (277 + (9 * (s : Int))))) (hi_X12_doOne_59 hT) rfl rfl ?_
  refine v_call (w := 4) [some (2, 121), some (0, (277 + (9 * (s : Int)))), none, none] hO (hi_X12_doOne_60 hT) rfl rfl ?_
  exact k0 ha3 hb4
theorem qr_do3 {D : zD} {T : zT} (hT : hTab T) (hO : vOK T) {N : Nat} {h : zH} {Q : zR → Prop} {s d m : Nat} (hv0 : zHv h) (e43 : h 121 43 = (0, (d : Int))) (hd : (d : Int) ≠ 300) (bd : d < 300) (bs : s < 30) (e44 : h 121 44 = (0, (m : Int))) (w0 : h 126 (277 + (9 * (s : Int))).toNat = (0, 3))
    (k0 : (0 ≤ (277 + (9 * (s : Int)))) → ((277 + (9 * (s : Int))) < 2750) → vP D T N 221 0 (zset h 121 43 (0, ((d : Int) + 1))) [some (2, 121), some (0, (277 + (9 * (s : Int)))), none, none] [] (fun r1 => vP D T N 220 63 r1.1 [some (2, 121), some (0, (s : Int)), some (0, (277 + (9 * (s : Int)))), some (0, 3), none] (zpush r1.2 [(0, (m : Int)), (2, 121)]) Q)) :
    vP D T N 220 0 h [some (2, 121), some (0, (s : Int)), none, none, none] [] Q := by
  refine v_load (v := (2, 121)) (hi_X12_doOne_0 hT) rfl rfl ?_
  refine v_getf (v := (0, (d : Int))) (r := 121) (hi_X12_doOne_1 hT) rfl rfl (fun _ => e43) ?_
  refine v_push (300) (hi_X12_doOne_4 hT) rfl ?_
  refine v_ic (hi_X12_doOne_7 hT) (fun hc1 => absurd (show (d : Int) = 300 from hc1) hd) (fun _ => ?_)
  refine v_load (v := (2, 121)) (hi_X12_doOne_21 hT) rfl rfl ?_
  refine v_dup (hi_X12_doOne_22 hT) (Nat.ne_of_beq_eq_false rfl) ?_
  refine v_getf (v := (0, (d : Int))) (r := 121) (hi_X12_doOne_23 hT) rfl rfl (fun _ => e43) ?_
  refine v_push (1) (hi_X12_doOne_26 hT) rfl ?_
  refine v_bin (w := ((d : Int) + 1)) (hi_X12_doOne_27 hT) (hq_add (by omega) (by omega)) ?_
  refine v_putf (r := 121) hO (hi_X12_doOne_28 hT) rfl (fun hf2 => ?_)
  refine v_push (277) (hi_X12_doOne_31 hT) rfl ?_
  refine v_push (9) (hi_X12_doOne_34 hT) rfl ?_
  refine v_load (v := (0, (s : Int))) (hi_X12_doOne_36 hT) rfl rfl ?_
  refine v_bin (w := (9 * (s : Int))) (hi_X12_doOne_37 hT) (hq_mul (by omega) (by omega)) ?_
  refine v_bin (w := (277 + (9 * (s : Int)))) (hi_X12_doOne_38 hT) (hq_add (by omega) (by omega)) ?_
  refine v_store1 [some (2, 121), some (0, (s : Int)), some (0, (277 + (9 * (s : Int)))), none, none] (hi_X12_doOne_39 hT) ⟨rfl, Nat.ne_of_beq_eq_false rfl⟩ (Nat.le_of_ble_eq_true rfl) rfl ?_
  refine v_load (v := (2, 121)) (hi_X12_doOne_40 hT) rfl rfl ?_
  refine v_getR (c := 126) (r := 121) (hi_X12_doOne_41 hT) rfl rfl rfl ?_
  refine v_load (v := (0, (277 + (9 * (s : Int))))) (hi_X12_doOne_44 hT) rfl rfl ?_
  refine v_aldB (t := 0) (r := 126) (w := 3) (hi_X12_doOne_45 hT) rfl rfl rfl (fun _ _ => (congrArg Prod.snd ((zset_ne (fun c => absurd c.1 (by decide))).trans w0))) (fun ha3 hb4 => ?_)
  refine v_store1 [some (2, 121), some (0, (s : Int)), some (0, (277 + (9 * (s : Int)))), some (0, 3), none] (hi_X12_doOne_46 hT) ⟨rfl, Nat.ne_of_beq_eq_false rfl⟩ (Nat.le_of_ble_eq_true rfl) rfl ?_
  refine v_load (v := (0, 3)) (hi_X12_doOne_47 hT) rfl rfl ?_
  refine v_push (7) (hi_X12_doOne_48 hT) rfl ?_
  refine v_ic (hi_X12_doOne_50 hT) (fun _ => ?_) (fun hc5 => absurd (show (3 : Int) < 7 from (by decide)) hc5)
  refine v_load (v := (2, 121)) (hi_X12_doOne_53 hT) rfl rfl ?_
  refine v_dup (hi_X12_doOne_54 hT) (Nat.ne_of_beq_eq_false rfl) ?_
  refine v_getf (v := (0, (m : Int))) (r := 121) (hi_X12_doOne_55 hT) rfl rfl (fun _ => Eq.trans (zset_ne (fun c => absurd c.2 (by decide))) (e44)) ?_
  refine v_load (v := (2, 121)) (hi_X12_doOne_58 hT) rfl rfl ?_
  refine v_load (v := (0, (277 + (9 * (s : Int))))) (hi_X12_doOne_59 hT) rfl rfl ?_
  refine v_call (w := 4) [some (2, 121), some (0, (277 + (9 * (s : Int)))), none, none] hO (hi_X12_doOne_60 hT) rfl rfl ?_
  exact k0 ha3 hb4
theorem qr_do4 {D : zD} {T : zT} (hT : hTab T) (hO : vOK T) {N : Nat} {h : zH} {Q : zR → Prop} {s d m : Nat} (hv0 : zHv h) (e43 : h 121 43 = (0, (d : Int))) (hd : (d : Int) ≠ 300) (bd : d < 300) (bs : s < 30) (e44 : h 121 44 = (0, (m : Int))) (w0 : h 126 (277 + (9 * (s : Int))).toNat = (0, 4))
    (k0 : (0 ≤ (277 + (9 * (s : Int)))) → ((277 + (9 * (s : Int))) < 2750) → vP D T N 221 0 (zset h 121 43 (0, ((d : Int) + 1))) [some (2, 121), some (0, (277 + (9 * (s : Int)))), none, none] [] (fun r1 => vP D T N 220 63 r1.1 [some (2, 121), some (0, (s : Int)), some (0, (277 + (9 * (s : Int)))), some (0, 4), none] (zpush r1.2 [(0, (m : Int)), (2, 121)]) Q)) :
    vP D T N 220 0 h [some (2, 121), some (0, (s : Int)), none, none, none] [] Q := by
  refine v_load (v := (2, 121)) (hi_X12_doOne_0 hT) rfl rfl ?_
  refine v_getf (v := (0, (d : Int))) (r := 121) (hi_X12_doOne_1 hT) rfl rfl (fun _ => e43) ?_
  refine v_push (300) (hi_X12_doOne_4 hT) rfl ?_
  refine v_ic (hi_X12_doOne_7 hT) (fun hc1 => absurd (show (d : Int) = 300 from hc1) hd) (fun _ => ?_)
  refine v_load (v := (2, 121)) (hi_X12_doOne_21 hT) rfl rfl ?_
  refine v_dup (hi_X12_doOne_22 hT) (Nat.ne_of_beq_eq_false rfl) ?_
  refine v_getf (v := (0, (d : Int))) (r := 121) (hi_X12_doOne_23 hT) rfl rfl (fun _ => e43) ?_
  refine v_push (1) (hi_X12_doOne_26 hT) rfl ?_
  refine v_bin (w := ((d : Int) + 1)) (hi_X12_doOne_27 hT) (hq_add (by omega) (by omega)) ?_
  refine v_putf (r := 121) hO (hi_X12_doOne_28 hT) rfl (fun hf2 => ?_)
  refine v_push (277) (hi_X12_doOne_31 hT) rfl ?_
  refine v_push (9) (hi_X12_doOne_34 hT) rfl ?_
  refine v_load (v := (0, (s : Int))) (hi_X12_doOne_36 hT) rfl rfl ?_
  refine v_bin (w := (9 * (s : Int))) (hi_X12_doOne_37 hT) (hq_mul (by omega) (by omega)) ?_
  refine v_bin (w := (277 + (9 * (s : Int)))) (hi_X12_doOne_38 hT) (hq_add (by omega) (by omega)) ?_
  refine v_store1 [some (2, 121), some (0, (s : Int)), some (0, (277 + (9 * (s : Int)))), none, none] (hi_X12_doOne_39 hT) ⟨rfl, Nat.ne_of_beq_eq_false rfl⟩ (Nat.le_of_ble_eq_true rfl) rfl ?_
  refine v_load (v := (2, 121)) (hi_X12_doOne_40 hT) rfl rfl ?_
  refine v_getR (c := 126) (r := 121) (hi_X12_doOne_41 hT) rfl rfl rfl ?_
  refine v_load (v := (0, (277 + (9 * (s : Int))))) (hi_X12_doOne_44 hT) rfl rfl ?_
  refine v_aldB (t := 0) (r := 126) (w := 4) (hi_X12_doOne_45 hT) rfl rfl rfl (fun _ _ => (congrArg Prod.snd ((zset_ne (fun c => absurd c.1 (by decide))).trans w0))) (fun ha3 hb4 => ?_)
  refine v_store1 [some (2, 121), some (0, (s : Int)), some (0, (277 + (9 * (s : Int)))), some (0, 4), none] (hi_X12_doOne_46 hT) ⟨rfl, Nat.ne_of_beq_eq_false rfl⟩ (Nat.le_of_ble_eq_true rfl) rfl ?_
  refine v_load (v := (0, 4)) (hi_X12_doOne_47 hT) rfl rfl ?_
  refine v_push (7) (hi_X12_doOne_48 hT) rfl ?_
  refine v_ic (hi_X12_doOne_50 hT) (fun _ => ?_) (fun hc5 => absurd (show (4 : Int) < 7 from (by decide)) hc5)
  refine v_load (v := (2, 121)) (hi_X12_doOne_53 hT) rfl rfl ?_
  refine v_dup (hi_X12_doOne_54 hT) (Nat.ne_of_beq_eq_false rfl) ?_
  refine v_getf (v := (0, (m : Int))) (r := 121) (hi_X12_doOne_55 hT) rfl rfl (fun _ => Eq.trans (zset_ne (fun c => absurd c.2 (by decide))) (e44)) ?_
  refine v_load (v := (2, 121)) (hi_X12_doOne_58 hT) rfl rfl ?_
  refine v_load (v := (0, (277 + (9 * (s : Int))))) (hi_X12_doOne_59 hT) rfl rfl ?_
  refine v_call (w := 4) [some (2, 121), some (0, (277 + (9 * (s : Int)))), none, none] hO (hi_X12_doOne_60 hT) rfl rfl ?_
  exact k0 ha3 hb4
theorem qr_do5 {D : zD} {T : zT} (hT : hTab T) (hO : vOK T) {N : Nat} {h : zH} {Q : zR → Prop} {s d m : Nat} (hv0 : zHv h) (e43 : h 121 43 = (0, (d : Int))) (hd : (d : Int) ≠ 300) (bd : d < 300) (bs : s < 30) (e44 : h 121 44 = (0, (m : Int))) (w0 : h 126 (277 + (9 * (s : Int))).toNat = (0, 5))
    (k0 : (0 ≤ (277 + (9 * (s : Int)))) → ((277 + (9 * (s : Int))) < 2750) → vP D T N 221 0 (zset h 121 43 (0, ((d : Int) + 1))) [some (2, 121), some (0, (277 + (9 * (s : Int)))), none, none] [] (fun r1 => vP D T N 220 63 r1.1 [some (2, 121), some (0, (s : Int)), some (0, (277 + (9 * (s : Int)))), some (0, 5), none] (zpush r1.2 [(0, (m : Int)), (2, 121)]) Q)) :
    vP D T N 220 0 h [some (2, 121), some (0, (s : Int)), none, none, none] [] Q := by
  refine v_load (v := (2, 121)) (hi_X12_doOne_0 hT) rfl rfl ?_
  refine v_getf (v := (0, (d : Int))) (r := 121) (hi_X12_doOne_1 hT) rfl rfl (fun _ => e43) ?_
  refine v_push (300) (hi_X12_doOne_4 hT) rfl ?_
  refine v_ic (hi_X12_doOne_7 hT) (fun hc1 => absurd (show (d : Int) = 300 from hc1) hd) (fun _ => ?_)
  refine v_load (v := (2, 121)) (hi_X12_doOne_21 hT) rfl rfl ?_
  refine v_dup (hi_X12_doOne_22 hT) (Nat.ne_of_beq_eq_false rfl) ?_
  refine v_getf (v := (0, (d : Int))) (r := 121) (hi_X12_doOne_23 hT) rfl rfl (fun _ => e43) ?_
  refine v_push (1) (hi_X12_doOne_26 hT) rfl ?_
  refine v_bin (w := ((d : Int) + 1)) (hi_X12_doOne_27 hT) (hq_add (by omega) (by omega)) ?_
  refine v_putf (r := 121) hO (hi_X12_doOne_28 hT) rfl (fun hf2 => ?_)
  refine v_push (277) (hi_X12_doOne_31 hT) rfl ?_
  refine v_push (9) (hi_X12_doOne_34 hT) rfl ?_
  refine v_load (v := (0, (s : Int))) (hi_X12_doOne_36 hT) rfl rfl ?_
  refine v_bin (w := (9 * (s : Int))) (hi_X12_doOne_37 hT) (hq_mul (by omega) (by omega)) ?_
  refine v_bin (w := (277 + (9 * (s : Int)))) (hi_X12_doOne_38 hT) (hq_add (by omega) (by omega)) ?_
  refine v_store1 [some (2, 121), some (0, (s : Int)), some (0, (277 + (9 * (s : Int)))), none, none] (hi_X12_doOne_39 hT) ⟨rfl, Nat.ne_of_beq_eq_false rfl⟩ (Nat.le_of_ble_eq_true rfl) rfl ?_
  refine v_load (v := (2, 121)) (hi_X12_doOne_40 hT) rfl rfl ?_
  refine v_getR (c := 126) (r := 121) (hi_X12_doOne_41 hT) rfl rfl rfl ?_
  refine v_load (v := (0, (277 + (9 * (s : Int))))) (hi_X12_doOne_44 hT) rfl rfl ?_
  refine v_aldB (t := 0) (r := 126) (w := 5) (hi_X12_doOne_45 hT) rfl rfl rfl (fun _ _ => (congrArg Prod.snd ((zset_ne (fun c => absurd c.1 (by decide))).trans w0))) (fun ha3 hb4 => ?_)
  refine v_store1 [some (2, 121), some (0, (s : Int)), some (0, (277 + (9 * (s : Int)))), some (0, 5), none] (hi_X12_doOne_46 hT) ⟨rfl, Nat.ne_of_beq_eq_false rfl⟩ (Nat.le_of_ble_eq_true rfl) rfl ?_
  refine v_load (v := (0, 5)) (hi_X12_doOne_47 hT) rfl rfl ?_
  refine v_push (7) (hi_X12_doOne_48 hT) rfl ?_
  refine v_ic (hi_X12_doOne_50 hT) (fun _ => ?_) (fun hc5 => absurd (show (5 : Int) < 7 from (by decide)) hc5)
  refine v_load (v := (2, 121)) (hi_X12_doOne_53 hT) rfl rfl ?_
  refine v_dup (hi_X12_doOne_54 hT) (Nat.ne_of_beq_eq_false rfl) ?_
  refine v_getf (v := (0, (m : Int))) (r := 121) (hi_X12_doOne_55 hT) rfl rfl (fun _ => Eq.trans (zset_ne (fun c => absurd c.2 (by decide))) (e44)) ?_
  refine v_load (v := (2, 121)) (hi_X12_doOne_58 hT) rfl rfl ?_
  refine v_load (v := (0, (277 + (9 * (s : Int))))) (hi_X12_doOne_59 hT) rfl rfl ?_
  refine v_call (w := 4) [some (2, 121), some (0, (277 + (9 * (s : Int)))), none, none] hO (hi_X12_doOne_60 hT) rfl rfl ?_
  exact k0 ha3 hb4
theorem qr_do6 {D : zD} {T : zT} (hT : hTab T) (hO : vOK T) {N : Nat} {h : zH} {Q : zR → Prop} {s d m : Nat} (hv0 : zHv h) (e43 : h 121 43 = (0, (d : Int))) (hd : (d : Int) ≠ 300) (bd : d < 300) (bs : s < 30) (e44 : h 121 44 = (0, (m : Int))) (w0 : h 126 (277 + (9 * (s : Int))).toNat = (0, 6))
    (k0 : (0 ≤ (277 + (9 * (s : Int)))) → ((277 + (9 * (s : Int))) < 2750) → vP D T N 221 0 (zset h 121 43 (0, ((d : Int) + 1))) [some (2, 121), some (0, (277 + (9 * (s : Int)))), none, none] [] (fun r1 => vP D T N 220 63 r1.1 [some (2, 121), some (0, (s : Int)), some (0, (277 + (9 * (s : Int)))), some (0, 6), none] (zpush r1.2 [(0, (m : Int)), (2, 121)]) Q)) :
    vP D T N 220 0 h [some (2, 121), some (0, (s : Int)), none, none, none] [] Q := by
  refine v_load (v := (2, 121)) (hi_X12_doOne_0 hT) rfl rfl ?_
  refine v_getf (v := (0, (d : Int))) (r := 121) (hi_X12_doOne_1 hT) rfl rfl (fun _ => e43) ?_
  refine v_push (300) (hi_X12_doOne_4 hT) rfl ?_
  refine v_ic (hi_X12_doOne_7 hT) (fun hc1 => absurd (show (d : Int) = 300 from hc1) hd) (fun _ => ?_)
  refine v_load (v := (2, 121)) (hi_X12_doOne_21 hT) rfl rfl ?_
  refine v_dup (hi_X12_doOne_22 hT) (Nat.ne_of_beq_eq_false rfl) ?_
  refine v_getf (v := (0, (d : Int))) (r := 121) (hi_X12_doOne_23 hT) rfl rfl (fun _ => e43) ?_
  refine v_push (1) (hi_X12_doOne_26 hT) rfl ?_
  refine v_bin (w := ((d : Int) + 1)) (hi_X12_doOne_27 hT) (hq_add (by omega) (by omega)) ?_
  refine v_putf (r := 121) hO (hi_X12_doOne_28 hT) rfl (fun hf2 => ?_)
  refine v_push (277) (hi_X12_doOne_31 hT) rfl ?_
  refine v_push (9) (hi_X12_doOne_34 hT) rfl ?_
  refine v_load (v := (0, (s : Int))) (hi_X12_doOne_36 hT) rfl rfl ?_
  refine v_bin (w := (9 * (s : Int))) (hi_X12_doOne_37 hT) (hq_mul (by omega) (by omega)) ?_
  refine v_bin (w := (277 + (9 * (s : Int)))) (hi_X12_doOne_38 hT) (hq_add (by omega) (by omega)) ?_
  refine v_store1 [some (2, 121), some (0, (s : Int)), some (0, (277 + (9 * (s : Int)))), none, none] (hi_X12_doOne_39 hT) ⟨rfl, Nat.ne_of_beq_eq_false rfl⟩ (Nat.le_of_ble_eq_true rfl) rfl ?_
  refine v_load (v := (2, 121)) (hi_X12_doOne_40 hT) rfl rfl ?_
  refine v_getR (c := 126) (r := 121) (hi_X12_doOne_41 hT) rfl rfl rfl ?_
  refine v_load (v := (0, (277 + (9 * (s : Int))))) (hi_X12_doOne_44 hT) rfl rfl ?_
  refine v_aldB (t := 0) (r := 126) (w := 6) (hi_X12_doOne_45 hT) rfl rfl rfl (fun _ _ => (congrArg Prod.snd ((zset_ne (fun c => absurd c.1 (by decide))).trans w0))) (fun ha3 hb4 => ?_)
  refine v_store1 [some (2, 121), some (0, (s : Int)), some (0, (277 + (9 * (s : Int)))), some (0, 6), none] (hi_X12_doOne_46 hT) ⟨rfl, Nat.ne_of_beq_eq_false rfl⟩ (Nat.le_of_ble_eq_true rfl) rfl ?_
  refine v_load (v := (0, 6)) (hi_X12_doOne_47 hT) rfl rfl ?_
  refine v_push (7) (hi_X12_doOne_48 hT) rfl ?_
  refine v_ic (hi_X12_doOne_50 hT) (fun _ => ?_) (fun hc5 => absurd (show (6 : Int) < 7 from (by decide)) hc5)
  refine v_load (v := (2, 121)) (hi_X12_doOne_53 hT) rfl rfl ?_
  refine v_dup (hi_X12_doOne_54 hT) (Nat.ne_of_beq_eq_false rfl) ?_
  refine v_getf (v := (0, (m : Int))) (r := 121) (hi_X12_doOne_55 hT) rfl rfl (fun _ => Eq.trans (zset_ne (fun c => absurd c.2 (by decide))) (e44)) ?_
  refine v_load (v := (2, 121)) (hi_X12_doOne_58 hT) rfl rfl ?_
  refine v_load (v := (0, (277 + (9 * (s : Int))))) (hi_X12_doOne_59 hT) rfl rfl ?_
  refine v_call (w := 4) [some (2, 121), some (0, (277 + (9 * (s : Int)))), none, none] hO (hi_X12_doOne_60 hT) rfl rfl ?_
  exact k0 ha3 hb4
theorem qr_do63_0_0 {D : zD} {T : zT} (hT : hTab T) (hO : vOK T) {N : Nat} {h : zH} {Q : zR → Prop} {s m : Nat} (hv0 : zHv h) (bm : m ≤ 300)
    (k0 : Q (zset h 121 44 (0, ((m : Int) + 1)), none)) :
    vP D T N 220 63 h [some (2, 121), some (0, (s : Int)), some (0, (277 + (9 * (s : Int)))), some (0, 0), none] [(0, 0), (0, (m : Int)), (2, 121)] Q := by
  refine v_if (hi_X12_doOne_63 hT) (fun _ => ?_) (fun hc1 => absurd (show (0 : Int) = 0 from (by decide)) hc1)
  refine v_push (1) (hi_X12_doOne_70 hT) rfl ?_
  refine v_bin (w := ((m : Int) + 1)) (hi_X12_doOne_71 hT) (hq_add (by omega) (by omega)) ?_
  refine v_putf (r := 121) hO (hi_X12_doOne_72 hT) rfl (fun hf2 => ?_)
  refine v_goto (hi_X12_doOne_75 hT) ?_
  refine v_ret0 (hi_X12_doOne_176 hT) ?_
  exact k0 
theorem qr_do63_0_1 {D : zD} {T : zT} (hT : hTab T) (hO : vOK T) {N : Nat} {h : zH} {Q : zR → Prop} {s m : Nat} (hv0 : zHv h) (bm : m ≤ 300)
    (k0 : Q (zset h 121 44 (0, ((m : Int) + 0)), none)) :
    vP D T N 220 63 h [some (2, 121), some (0, (s : Int)), some (0, (277 + (9 * (s : Int)))), some (0, 0), none] [(0, 1), (0, (m : Int)), (2, 121)] Q := by
  refine v_if (hi_X12_doOne_63 hT) (fun hc1 => absurd (show (1 : Int) = 0 from hc1) (by decide)) (fun _ => ?_)
  refine v_push (0) (hi_X12_doOne_66 hT) rfl ?_
  refine v_goto (hi_X12_doOne_67 hT) ?_
  refine v_bin (w := ((m : Int) + 0)) (hi_X12_doOne_71 hT) (hq_add (by omega) (by omega)) ?_
  refine v_putf (r := 121) hO (hi_X12_doOne_72 hT) rfl (fun hf2 => ?_)
  refine v_goto (hi_X12_doOne_75 hT) ?_
  refine v_ret0 (hi_X12_doOne_176 hT) ?_
  exact k0 
theorem qr_do63_1_0 {D : zD} {T : zT} (hT : hTab T) (hO : vOK T) {N : Nat} {h : zH} {Q : zR → Prop} {s m : Nat} (hv0 : zHv h) (bm : m ≤ 300)
    (k0 : Q (zset h 121 44 (0, ((m : Int) + 1)), none)) :
    vP D T N 220 63 h [some (2, 121), some (0, (s : Int)), some (0, (277 + (9 * (s : Int)))), some (0, 1), none] [(0, 0), (0, (m : Int)), (2, 121)] Q := by
  refine v_if (hi_X12_doOne_63 hT) (fun _ => ?_) (fun hc1 => absurd (show (0 : Int) = 0 from (by decide)) hc1)
  refine v_push (1) (hi_X12_doOne_70 hT) rfl ?_
  refine v_bin (w := ((m : Int) + 1)) (hi_X12_doOne_71 hT) (hq_add (by omega) (by omega)) ?_
  refine v_putf (r := 121) hO (hi_X12_doOne_72 hT) rfl (fun hf2 => ?_)
  refine v_goto (hi_X12_doOne_75 hT) ?_
  refine v_ret0 (hi_X12_doOne_176 hT) ?_
  exact k0 
theorem qr_do63_1_1 {D : zD} {T : zT} (hT : hTab T) (hO : vOK T) {N : Nat} {h : zH} {Q : zR → Prop} {s m : Nat} (hv0 : zHv h) (bm : m ≤ 300)
    (k0 : Q (zset h 121 44 (0, ((m : Int) + 0)), none)) :
    vP D T N 220 63 h [some (2, 121), some (0, (s : Int)), some (0, (277 + (9 * (s : Int)))), some (0, 1), none] [(0, 1), (0, (m : Int)), (2, 121)] Q := by
  refine v_if (hi_X12_doOne_63 hT) (fun hc1 => absurd (show (1 : Int) = 0 from hc1) (by decide)) (fun _ => ?_)
  refine v_push (0) (hi_X12_doOne_66 hT) rfl ?_
  refine v_goto (hi_X12_doOne_67 hT) ?_
  refine v_bin (w := ((m : Int) + 0)) (hi_X12_doOne_71 hT) (hq_add (by omega) (by omega)) ?_
  refine v_putf (r := 121) hO (hi_X12_doOne_72 hT) rfl (fun hf2 => ?_)
  refine v_goto (hi_X12_doOne_75 hT) ?_
  refine v_ret0 (hi_X12_doOne_176 hT) ?_
  exact k0 
theorem qr_do63_2_0 {D : zD} {T : zT} (hT : hTab T) (hO : vOK T) {N : Nat} {h : zH} {Q : zR → Prop} {s m : Nat} (hv0 : zHv h) (bm : m ≤ 300)
    (k0 : Q (zset h 121 44 (0, ((m : Int) + 1)), none)) :
    vP D T N 220 63 h [some (2, 121), some (0, (s : Int)), some (0, (277 + (9 * (s : Int)))), some (0, 2), none] [(0, 0), (0, (m : Int)), (2, 121)] Q := by
  refine v_if (hi_X12_doOne_63 hT) (fun _ => ?_) (fun hc1 => absurd (show (0 : Int) = 0 from (by decide)) hc1)
  refine v_push (1) (hi_X12_doOne_70 hT) rfl ?_
  refine v_bin (w := ((m : Int) + 1)) (hi_X12_doOne_71 hT) (hq_add (by omega) (by omega)) ?_
  refine v_putf (r := 121) hO (hi_X12_doOne_72 hT) rfl (fun hf2 => ?_)
  refine v_goto (hi_X12_doOne_75 hT) ?_
  refine v_ret0 (hi_X12_doOne_176 hT) ?_
  exact k0 
theorem qr_do63_2_1 {D : zD} {T : zT} (hT : hTab T) (hO : vOK T) {N : Nat} {h : zH} {Q : zR → Prop} {s m : Nat} (hv0 : zHv h) (bm : m ≤ 300)
    (k0 : Q (zset h 121 44 (0, ((m : Int) + 0)), none)) :
    vP D T N 220 63 h [some (2, 121), some (0, (s : Int)), some (0, (277 + (9 * (s : Int)))), some (0, 2), none] [(0, 1), (0, (m : Int)), (2, 121)] Q := by
  refine v_if (hi_X12_doOne_63 hT) (fun hc1 => absurd (show (1 : Int) = 0 from hc1) (by decide)) (fun _ => ?_)
  refine v_push (0) (hi_X12_doOne_66 hT) rfl ?_
  refine v_goto (hi_X12_doOne_67 hT) ?_
  refine v_bin (w := ((m : Int) + 0)) (hi_X12_doOne_71 hT) (hq_add (by omega) (by omega)) ?_
  refine v_putf (r := 121) hO (hi_X12_doOne_72 hT) rfl (fun hf2 => ?_)
  refine v_goto (hi_X12_doOne_75 hT) ?_
  refine v_ret0 (hi_X12_doOne_176 hT) ?_
  exact k0 
theorem qr_do63_3_0 {D : zD} {T : zT} (hT : hTab T) (hO : vOK T) {N : Nat} {h : zH} {Q : zR → Prop} {s m : Nat} (hv0 : zHv h) (bm : m ≤ 300)
    (k0 : Q (zset h 121 44 (0, ((m : Int) + 1)), none)) :
    vP D T N 220 63 h [some (2, 121), some (0, (s : Int)), some (0, (277 + (9 * (s : Int)))), some (0, 3), none] [(0, 0), (0, (m : Int)), (2, 121)] Q := by
  refine v_if (hi_X12_doOne_63 hT) (fun _ => ?_) (fun hc1 => absurd (show (0 : Int) = 0 from (by decide)) hc1)
  refine v_push (1) (hi_X12_doOne_70 hT) rfl ?_
  refine v_bin (w := ((m : Int) + 1)) (hi_X12_doOne_71 hT) (hq_add (by omega) (by omega)) ?_
  refine v_putf (r := 121) hO (hi_X12_doOne_72 hT) rfl (fun hf2 => ?_)
  refine v_goto (hi_X12_doOne_75 hT) ?_
  refine v_ret0 (hi_X12_doOne_176 hT) ?_
  exact k0 
theorem qr_do63_3_1 {D : zD} {T : zT} (hT : hTab T) (hO : vOK T) {N : Nat} {h : zH} {Q : zR → Prop} {s m : Nat} (hv0 : zHv h) (bm : m ≤ 300)
    (k0 : Q (zset h 121 44 (0, ((m : Int) + 0)), none)) :
    vP D T N 220 63 h [some (2, 121), some (0, (s : Int)), some (0, (277 + (9 * (s : Int)))), some (0, 3), none] [(0, 1), (0, (m : Int)), (2, 121)] Q := by
  refine v_if (hi_X12_doOne_63 hT) (fun hc1 => absurd (show (1 : Int) = 0 from hc1) (by decide)) (fun _ => ?_)
  refine v_push (0) (hi_X12_doOne_66 hT) rfl ?_
  refine v_goto (hi_X12_doOne_67 hT) ?_
  refine v_bin (w := ((m : Int) + 0)) (hi_X12_doOne_71 hT) (hq_add (by omega) (by omega)) ?_
  refine v_putf (r := 121) hO (hi_X12_doOne_72 hT) rfl (fun hf2 => ?_)
  refine v_goto (hi_X12_doOne_75 hT) ?_
  refine v_ret0 (hi_X12_doOne_176 hT) ?_
  exact k0 
theorem qr_do63_4_0 {D : zD} {T : zT} (hT : hTab T) (hO : vOK T) {N : Nat} {h : zH} {Q : zR → Prop} {s m : Nat} (hv0 : zHv h) (bm : m ≤ 300)
    (k0 : Q (zset h 121 44 (0, ((m : Int) + 1)), none)) :
    vP D T N 220 63 h [some (2, 121), some (0, (s : Int)), some (0, (277 + (9 * (s : Int)))), some (0, 4), none] [(0, 0), (0, (m : Int)), (2, 121)] Q := by
  refine v_if (hi_X12_doOne_63 hT) (fun _ => ?_) (fun hc1 => absurd (show (0 : Int) = 0 from (by decide)) hc1)
  refine v_push (1) (hi_X12_doOne_70 hT) rfl ?_
  refine v_bin (w := ((m : Int) + 1)) (hi_X12_doOne_71 hT) (hq_add (by omega) (by omega)) ?_
  refine v_putf (r := 121) hO (hi_X12_doOne_72 hT) rfl (fun hf2 => ?_)
  refine v_goto (hi_X12_doOne_75 hT) ?_
  refine v_ret0 (hi_X12_doOne_176 hT) ?_
  exact k0 
theorem qr_do63_4_1 {D : zD} {T : zT} (hT : hTab T) (hO : vOK T) {N : Nat} {h : zH} {Q : zR → Prop} {s m : Nat} (hv0 : zHv h) (bm : m ≤ 300)
    (k0 : Q (zset h 121 44 (0, ((m : Int) + 0)), none)) :
    vP D T N 220 63 h [some (2, 121), some (0, (s : Int)), some (0, (277 + (9 * (s : Int)))), some (0, 4), none] [(0, 1), (0, (m : Int)), (2, 121)] Q := by
  refine v_if (hi_X12_doOne_63 hT) (fun hc1 => absurd (show (1 : Int) = 0 from hc1) (by decide)) (fun _ => ?_)
  refine v_push (0) (hi_X12_doOne_66 hT) rfl ?_
  refine v_goto (hi_X12_doOne_67 hT) ?_
  refine v_bin (w := ((m : Int) + 0)) (hi_X12_doOne_71 hT) (hq_add (by omega) (by omega)) ?_
  refine v_putf (r := 121) hO (hi_X12_doOne_72 hT) rfl (fun hf2 => ?_)
  refine v_goto (hi_X12_doOne_75 hT) ?_
  refine v_ret0 (hi_X12_doOne_176 hT) ?_
  exact k0 
theorem qr_do63_5_0 {D : zD} {T : zT} (hT : hTab T) (hO : vOK T) {N : Nat} {h : zH} {Q : zR → Prop} {s m : Nat} (hv0 : zHv h) (bm : m ≤ 300)
    (k0 : Q (zset h 121 44 (0, ((m : Int) + 1)), none)) :
    vP D T N 220 63 h [some (2, 121), some (0, (s : Int)), some (0, (277 + (9 * (s : Int)))), some (0, 5), none] [(0, 0), (0, (m : Int)), (2, 121)] Q := by
  refine v_if (hi_X12_doOne_63 hT) (fun _ => ?_) (fun hc1 => absurd (show (0 : Int) = 0 from (by decide)) hc1)
  refine v_push (1) (hi_X12_doOne_70 hT) rfl ?_
  refine v_bin (w := ((m : Int) + 1)) (hi_X12_doOne_71 hT) (hq_add (by omega) (by omega)) ?_
  refine v_putf (r := 121) hO (hi_X12_doOne_72 hT) rfl (fun hf2 => ?_)
  refine v_goto (hi_X12_doOne_75 hT) ?_
  refine v_ret0 (hi_X12_doOne_176 hT) ?_
  exact k0 
theorem qr_do63_5_1 {D : zD} {T : zT} (hT : hTab T) (hO : vOK T) {N : Nat} {h : zH} {Q : zR → Prop} {s m : Nat} (hv0 : zHv h) (bm : m ≤ 300)
    (k0 : Q (zset h 121 44 (0, ((m : Int) + 0)), none)) :
    vP D T N 220 63 h [some (2, 121), some (0, (s : Int)), some (0, (277 + (9 * (s : Int)))), some (0, 5), none] [(0, 1), (0, (m : Int)), (2, 121)] Q := by
  refine v_if (hi_X12_doOne_63 hT) (fun hc1 => absurd (show (1 : Int) = 0 from hc1) (by decide)) (fun _ => ?_)
  refine v_push (0) (hi_X12_doOne_66 hT) rfl ?_
  refine v_goto (hi_X12_doOne_67 hT) ?_
  refine v_bin (w := ((m : Int) + 0)) (hi_X12_doOne_71 hT) (hq_add (by omega) (by omega)) ?_
  refine v_putf (r := 121) hO (hi_X12_doOne_72 hT) rfl (fun hf2 => ?_)
  refine v_goto (hi_X12_doOne_75 hT) ?_
  refine v_ret0 (hi_X12_doOne_176 hT) ?_
  exact k0 
theorem qr_do63_6_0 {D : zD} {T : zT} (hT : hTab T) (hO : vOK T) {N : Nat} {h : zH} {Q : zR → Prop} {s m : Nat} (hv0 : zHv h) (bm : m ≤ 300)
    (k0 : Q (zset h 121 44 (0, ((m : Int) + 1)), none)) :
    vP D T N 220 63 h [some (2, 121), some (0, (s : Int)), some (0, (277 + (9 * (s : Int)))), some (0, 6), none] [(0, 0), (0, (m : Int)), (2, 121)] Q := by
  refine v_if (hi_X12_doOne_63 hT) (fun _ => ?_) (fun hc1 => absurd (show (0 : Int) = 0 from (by decide)) hc1)
  refine v_push (1) (hi_X12_doOne_70 hT) rfl ?_
  refine v_bin (w := ((m : Int) + 1)) (hi_X12_doOne_71 hT) (hq_add (by omega) (by omega)) ?_
  refine v_putf (r := 121) hO (hi_X12_doOne_72 hT) rfl (fun hf2 => ?_)
  refine v_goto (hi_X12_doOne_75 hT) ?_
  refine v_ret0 (hi_X12_doOne_176 hT) ?_
  exact k0 
theorem qr_do63_6_1 {D : zD} {T : zT} (hT : hTab T) (hO : vOK T) {N : Nat} {h : zH} {Q : zR → Prop} {s m : Nat} (hv0 : zHv h) (bm : m ≤ 300)
    (k0 : Q (zset h 121 44 (0, ((m : Int) + 0)), none)) :
    vP D T N 220 63 h [some (2, 121), some (0, (s : Int)), some (0, (277 + (9 * (s : Int)))), some (0, 6), none] [(0, 1), (0, (m : Int)), (2, 121)] Q := by
  refine v_if (hi_X12_doOne_63 hT) (fun hc1 => absurd (show (1 : Int) = 0 from hc1) (by decide)) (fun _ => ?_)
  refine v_push (0) (hi_X12_doOne_66 hT) rfl ?_
  refine v_goto (hi_X12_doOne_67 hT) ?_
  refine v_bin (w := ((m : Int) + 0)) (hi_X12_doOne_71 hT) (hq_add (by omega) (by omega)) ?_
  refine v_putf (r := 121) hO (hi_X12_doOne_72 hT) rfl (fun hf2 => ?_)
  refine v_goto (hi_X12_doOne_75 hT) ?_
  refine v_ret0 (hi_X12_doOne_176 hT) ?_
  exact k0 
theorem qr_do7 {D : zD} {T : zT} (hT : hTab T) (hO : vOK T) {N : Nat} {h : zH} {Q : zR → Prop} {s d : Nat} (hv0 : zHv h) (e43 : h 121 43 = (0, (d : Int))) (hd : (d : Int) ≠ 300) (bd : d < 300) (bs : s < 30) (w0 : h 126 (277 + (9 * (s : Int))).toNat = (0, 7))
    (k0 : (0 ≤ (277 + (9 * (s : Int)))) → ((277 + (9 * (s : Int))) < 2750) → vP D T N 261 0 (zset h 121 43 (0, ((d : Int) + 1))) [some (2, 121), some (0, (277 + (9 * (s : Int)))), none] [] (fun r1 => vP D T N 220 89 r1.1 [some (2, 121), some (0, (s : Int)), some (0, (277 + (9 * (s : Int)))), some (0, 7), none] (zpush r1.2 []) Q)) :
    vP D T N 220 0 h [some (2, 121), some (0, (s : Int)), none, none, none] [] Q := by
  refine v_load (v := (2, 121)) (hi_X12_doOne_0 hT) rfl rfl ?_
  refine v_getf (v := (0, (d : Int))) (r := 121) (hi_X12_doOne_1 hT) rfl rfl (fun _ => e43) ?_
  refine v_push (300) (hi_X12_doOne_4 hT) rfl ?_
  refine v_ic (hi_X12_doOne_7 hT) (fun hc1 => absurd (show (d : Int) = 300 from hc1) hd) (fun _ => ?_)
  refine v_load (v := (2, 121)) (hi_X12_doOne_21 hT) rfl rfl ?_
  refine v_dup (hi_X12_doOne_22 hT) (Nat.ne_of_beq_eq_false rfl) ?_
  refine v_getf (v := (0, (d : Int))) (r := 121) (hi_X12_doOne_23 hT) rfl rfl (fun _ => e43) ?_
  refine v_push (1) (hi_X12_doOne_26 hT) rfl ?_
  refine v_bin (w := ((d : Int) + 1)) (hi_X12_doOne_27 hT) (hq_add (by omega) (by omega)) ?_
  refine v_putf (r := 121) hO (hi_X12_doOne_28 hT) rfl (fun hf2 => ?_)
  refine v_push (277) (hi_X12_doOne_31 hT) rfl ?_
  refine v_push (9) (hi_X12_doOne_34 hT) rfl ?_
  refine v_load (v := (0, (s : Int))) (hi_X12_doOne_36 hT) rfl rfl ?_
  refine v_bin (w := (9 * (s : Int))) (hi_X12_doOne_37 hT) (hq_mul (by omega) (by omega)) ?_
  refine v_bin (w := (277 + (9 * (s : Int)))) (hi_X12_doOne_38 hT) (hq_add (by omega) (by omega)) ?_
  refine v_store1 [some (2, 121), some (0, (s : Int)), some (0, (277 + (9 * (s : Int)))), none, none] (hi_X12_doOne_39 hT) ⟨rfl, Nat.ne_of_beq_eq_false rfl⟩ (Nat.le_of_ble_eq_true rfl) rfl ?_
  refine v_load (v := (2, 121)) (hi_X12_doOne_40 hT) rfl rfl ?_
  refine v_getR (c := 126) (r := 121) (hi_X12_doOne_41 hT) rfl rfl rfl ?_
  refine v_load (v := (0, (277 + (9 * (s : Int))))) (hi_X12_doOne_44 hT) rfl rfl ?_
  refine v_aldB (t := 0) (r := 126) (w := 7) (hi_X12_doOne_45 hT) rfl rfl rfl (fun _ _ => (congrArg Prod.snd ((zset_ne (fun c => absurd c.1 (by decide))).trans w0))) (fun ha3 hb4 => ?_)
  refine v_store1 [some (2, 121), some (0, (s : Int)), some (0, (277 + (9 * (s : Int)))), some (0, 7), none] (hi_X12_doOne_46 hT) ⟨rfl, Nat.ne_of_beq_eq_false rfl⟩ (Nat.le_of_ble_eq_true rfl) rfl ?_
  refine v_load (v := (0, 7)) (hi_X12_doOne_47 hT) rfl rfl ?_
  refine v_push (7) (hi_X12_doOne_48 hT) rfl ?_
  refine v_ic (hi_X12_doOne_50 hT) (fun hc5 => absurd (show (7 : Int) < 7 from hc5) (by decide)) (fun _ => ?_)
  refine v_load (v := (0, 7)) (hz_X12_doOne hT _ _ rfl) rfl rfl ?_
  refine v_push (7) (hz_X12_doOne hT _ _ rfl) rfl ?_
  refine v_ic (hz_X12_doOne hT _ _ rfl) (fun _ => ?_) (fun hc6 => absurd (show (7 : Int) = 7 from (by decide)) hc6)
  refine v_load (v := (2, 121)) (hz_X12_doOne hT _ _ rfl) rfl rfl ?_
  refine v_load (v := (0, (277 + (9 * (s : Int))))) (hz_X12_doOne hT _ _ rfl) rfl rfl ?_
  refine v_call (w := 3) [some (2, 121), some (0, (277 + (9 * (s : Int)))), none] hO (hz_X12_doOne hT _ _ rfl) rfl rfl ?_
  exact k0 ha3 hb4
theorem qr_do89n {D : zD} {T : zT} (hT : hTab T) (hO : vOK T) {N : Nat} {h : zH} {Q : zR → Prop} {s : Nat} (hv0 : zHv h)
    (k0 : Q (h, none)) :
    vP D T N 220 89 h [some (2, 121), some (0, (s : Int)), some (0, (277 + (9 * (s : Int)))), some (0, 7), none] [(0, 0)] Q := by
  refine v_if (hz_X12_doOne hT _ _ rfl) (fun _ => ?_) (fun hc1 => absurd (show (0 : Int) = 0 from (by decide)) hc1)
  refine v_load (v := (0, 7)) (hz_X12_doOne hT _ _ rfl) rfl rfl ?_
  refine v_push (8) (hz_X12_doOne hT _ _ rfl) rfl ?_
  refine v_ic (hz_X12_doOne hT _ _ rfl) (fun hc2 => absurd (show (7 : Int) = 8 from hc2) (by decide)) (fun _ => ?_)
  refine v_load (v := (0, 7)) (hz_X12_doOne hT _ _ rfl) rfl rfl ?_
  refine v_push (8) (hz_X12_doOne hT _ _ rfl) rfl ?_
  refine v_ic (hz_X12_doOne hT _ _ rfl) (fun hc3 => absurd (show 8 < (7 : Int) from hc3) (by decide)) (fun _ => ?_)
  refine v_ret0 (hi_X12_doOne_176 hT) ?_
  exact k0 
theorem qr_do89y {D : zD} {T : zT} (hT : hTab T) (hO : vOK T) {N : Nat} {h : zH} {Q : zR → Prop} {s u : Nat} (hv0 : zHv h) (bs : s < 30) (w8 : h 126 ((277 + (9 * (s : Int))) + 8).toNat = (0, (u : Int)))
    (k0 : (0 ≤ ((277 + (9 * (s : Int))) + 8)) → (((277 + (9 * (s : Int))) + 8) < 2750) → vP D T N 219 0 h [some (2, 121), some (0, ((s : Int) + 1)), some (0, (u : Int)), none] [] (fun r1 => vP D T N 220 108 r1.1 [some (2, 121), some (0, (s : Int)), some (0, (277 + (9 * (s : Int)))), some (0, 7), none] (zpush r1.2 []) Q)) :
    vP D T N 220 89 h [some (2, 121), some (0, (s : Int)), some (0, (277 + (9 * (s : Int)))), some (0, 7), none] [(0, 1)] Q := by
  refine v_if (hz_X12_doOne hT _ _ rfl) (fun hc1 => absurd (show (1 : Int) = 0 from hc1) (by decide)) (fun _ => ?_)
  refine v_load (v := (2, 121)) (hz_X12_doOne hT _ _ rfl) rfl rfl ?_
  refine v_load (v := (0, (s : Int))) (hz_X12_doOne hT _ _ rfl) rfl rfl ?_
  refine v_push (1) (hz_X12_doOne hT _ _ rfl) rfl ?_
  refine v_bin (w := ((s : Int) + 1)) (hz_X12_doOne hT _ _ rfl) (hq_add (by omega) (by omega)) ?_
  refine v_load (v := (2, 121)) (hz_X12_doOne hT _ _ rfl) rfl rfl ?_
  refine v_getR (c := 126) (r := 121) (hz_X12_doOne hT _ _ rfl) rfl rfl rfl ?_
  refine v_load (v := (0, (277 + (9 * (s : Int))))) (hz_X12_doOne hT _ _ rfl) rfl rfl ?_
  refine v_push (8) (hz_X12_doOne hT _ _ rfl) rfl ?_
  refine v_bin (w := ((277 + (9 * (s : Int))) + 8)) (hz_X12_doOne hT _ _ rfl) (hq_add (by omega) (by omega)) ?_
  refine v_aldB (t := 0) (r := 126) (w := (u : Int)) (hz_X12_doOne hT _ _ rfl) rfl rfl rfl (fun _ _ => (congrArg Prod.snd w8)) (fun ha2 hb3 => ?_)
  refine v_call (w := 4) [some (2, 121), some (0, ((s : Int) + 1)), some (0, (u : Int)), none] hO (hz_X12_doOne hT _ _ rfl) rfl rfl ?_
  exact k0 ha2 hb3
theorem qr_do108 {D : zD} {T : zT} (hT : hTab T) (hO : vOK T) {N : Nat} {h : zH} {Q : zR → Prop} {s : Nat} (hv0 : zHv h)
    (k0 : Q (h, none)) :
    vP D T N 220 108 h [some (2, 121), some (0, (s : Int)), some (0, (277 + (9 * (s : Int)))), some (0, 7), none] [] Q := by
  refine v_goto (hz_X12_doOne hT _ _ rfl) ?_
  refine v_ret0 (hi_X12_doOne_176 hT) ?_
  exact k0 
theorem qr_do8 {D : zD} {T : zT} (hT : hTab T) (hO : vOK T) {N : Nat} {h : zH} {Q : zR → Prop} {s d : Nat} (hv0 : zHv h) (e43 : h 121 43 = (0, (d : Int))) (hd : (d : Int) ≠ 300) (bd : d < 300) (bs : s < 30) (w0 : h 126 (277 + (9 * (s : Int))).toNat = (0, 8))
    (k0 : (0 ≤ (277 + (9 * (s : Int)))) → ((277 + (9 * (s : Int))) < 2750) → vP D T N 220 120 (zset h 121 43 (0, ((d : Int) + 1))) [some (2, 121), some (0, (s : Int)), some (0, (277 + (9 * (s : Int)))), some (0, 8), some (0, 0)] [] Q) :
    vP D T N 220 0 h [some (2, 121), some (0, (s : Int)), none, none, none] [] Q := by
  refine v_load (v := (2, 121)) (hi_X12_doOne_0 hT) rfl rfl ?_
  refine v_getf (v := (0, (d : Int))) (r := 121) (hi_X12_doOne_1 hT) rfl rfl (fun _ => e43) ?_
  refine v_push (300) (hi_X12_doOne_4 hT) rfl ?_
  refine v_ic (hi_X12_doOne_7 hT) (fun hc1 => absurd (show (d : Int) = 300 from hc1) hd) (fun _ => ?_)
  refine v_load (v := (2, 121)) (hi_X12_doOne_21 hT) rfl rfl ?_
  refine v_dup (hi_X12_doOne_22 hT) (Nat.ne_of_beq_eq_false rfl) ?_
  refine v_getf (v := (0, (d : Int))) (r := 121) (hi_X12_doOne_23 hT) rfl rfl (fun _ => e43) ?_
  refine v_push (1) (hi_X12_doOne_26 hT) rfl ?_
  refine v_bin (w := ((d : Int) + 1)) (hi_X12_doOne_27 hT) (hq_add (by omega) (by omega)) ?_
  refine v_putf (r := 121) hO (hi_X12_doOne_28 hT) rfl (fun hf2 => ?_)
  refine v_push (277) (hi_X12_doOne_31 hT) rfl ?_
  refine v_push (9) (hi_X12_doOne_34 hT) rfl ?_
  refine v_load (v := (0, (s : Int))) (hi_X12_doOne_36 hT) rfl rfl ?_
  refine v_bin (w := (9 * (s : Int))) (hi_X12_doOne_37 hT) (hq_mul (by omega) (by omega)) ?_
  refine v_bin (w := (277 + (9 * (s : Int)))) (hi_X12_doOne_38 hT) (hq_add (by omega) (by omega)) ?_
  refine v_store1 [some (2, 121), some (0, (s : Int)), some (0, (277 + (9 * (s : Int)))), none, none] (hi_X12_doOne_39 hT) ⟨rfl, Nat.ne_of_beq_eq_false rfl⟩ (Nat.le_of_ble_eq_true rfl) rfl ?_
  refine v_load (v := (2, 121)) (hi_X12_doOne_40 hT) rfl rfl ?_
  refine v_getR (c := 126) (r := 121) (hi_X12_doOne_41 hT) rfl rfl rfl ?_
  refine v_load (v := (0, (277 + (9 * (s : Int))))) (hi_X12_doOne_44 hT) rfl rfl ?_
  refine v_aldB (t := 0) (r := 126) (w := 8) (hi_X12_doOne_45 hT) rfl rfl rfl (fun _ _ => (congrArg Prod.snd ((zset_ne (fun c => absurd c.1 (by decide))).trans w0))) (fun ha3 hb4 => ?_)
  refine v_store1 [some (2, 121), some (0, (s : Int)), some (0, (277 + (9 * (s : Int)))), some (0, 8), none] (hi_X12_doOne_46 hT) ⟨rfl, Nat.ne_of_beq_eq_false rfl⟩ (Nat.le_of_ble_eq_true rfl) rfl ?_
  refine v_load (v := (0, 8)) (hi_X12_doOne_47 hT) rfl rfl ?_
  refine v_push (7) (hi_X12_doOne_48 hT) rfl ?_
  refine v_ic (hi_X12_doOne_50 hT) (fun hc5 => absurd (show (8 : Int) < 7 from hc5) (by decide)) (fun _ => ?_)
  refine v_load (v := (0, 8)) (hz_X12_doOne hT _ _ rfl) rfl rfl ?_
  refine v_push (7) (hz_X12_doOne hT _ _ rfl) rfl ?_
  refine v_ic (hz_X12_doOne hT _ _ rfl) (fun hc6 => absurd (show (8 : Int) = 7 from hc6) (by decide)) (fun _ => ?_)
  refine v_load (v := (0, 8)) (hz_X12_doOne hT _ _ rfl) rfl rfl ?_
  refine v_push (8) (hz_X12_doOne hT _ _ rfl) rfl ?_
  refine v_ic (hz_X12_doOne hT _ _ rfl) (fun _ => ?_) (fun hc7 => absurd (show (8 : Int) = 8 from (by decide)) hc7)
  refine v_push (0) (hz_X12_doOne hT _ _ rfl) rfl ?_
  refine v_store1 [some (2, 121), some (0, (s : Int)), some (0, (277 + (9 * (s : Int)))), some (0, 8), some (0, 0)] (hz_X12_doOne hT _ _ rfl) ⟨rfl, Nat.ne_of_beq_eq_false rfl⟩ (Nat.le_of_ble_eq_true rfl) rfl ?_
  exact k0 ha3 hb4
theorem qr_do120 {D : zD} {T : zT} (hT : hTab T) (hO : vOK T) {N : Nat} {h : zH} {Q : zR → Prop} {s i a u : Nat} (hv0 : zHv h) (bs : s < 30) (w1 : h 126 ((277 + (9 * (s : Int))) + 1).toNat = (0, (a : Int))) (w8 : h 126 ((277 + (9 * (s : Int))) + 8).toNat = (0, (u : Int))) (e41 : h 121 41 = (0, 0)) (hia : (i : Int) < (a : Int))
    (k0 : (0 ≤ ((277 + (9 * (s : Int))) + 1)) → (((277 + (9 * (s : Int))) + 1) < 2750) → (0 ≤ ((277 + (9 * (s : Int))) + 8)) → (((277 + (9 * (s : Int))) + 8) < 2750) → vP D T N 219 0 h [some (2, 121), some (0, ((s : Int) + 1)), some (0, (u : Int)), none] [] (fun r1 => vP D T N 220 156 r1.1 [some (2, 121), some (0, (s : Int)), some (0, (277 + (9 * (s : Int)))), some (0, 8), some (0, (i : Int))] (zpush r1.2 []) Q)) :
    vP D T N 220 120 h [some (2, 121), some (0, (s : Int)), some (0, (277 + (9 * (s : Int)))), some (0, 8), some (0, (i : Int))] [] Q := by
  refine v_load (v := (0, (i : Int))) (hz_X12_doOne hT _ _ rfl) rfl rfl ?_
  refine v_load (v := (2, 121)) (hz_X12_doOne hT _ _ rfl) rfl rfl ?_
  refine v_getR (c := 126) (r := 121) (hz_X12_doOne hT _ _ rfl) rfl rfl rfl ?_
  refine v_load (v := (0, (277 + (9 * (s : Int))))) (hz_X12_doOne hT _ _ rfl) rfl rfl ?_
  refine v_push (1) (hz_X12_doOne hT _ _ rfl) rfl ?_
  refine v_bin (w := ((277 + (9 * (s : Int))) + 1)) (hz_X12_doOne hT _ _ rfl) (hq_add (by omega) (by omega)) ?_
  refine v_aldB (t := 0) (r := 126) (w := (a : Int)) (hz_X12_doOne hT _ _ rfl) rfl rfl rfl (fun _ _ => (congrArg Prod.snd w1)) (fun ha1 hb2 => ?_)
  refine v_ic (hz_X12_doOne hT _ _ rfl) (fun _ => ?_) (fun hc3 => absurd (show (i : Int) < (a : Int) from hia) hc3)
  refine v_load (v := (2, 121)) (hz_X12_doOne hT _ _ rfl) rfl rfl ?_
  refine v_getf (v := (0, 0)) (r := 121) (hz_X12_doOne hT _ _ rfl) rfl rfl (fun _ => e41) ?_
  refine v_if (hz_X12_doOne hT _ _ rfl) (fun _ => ?_) (fun hc4 => absurd (show (0 : Int) = 0 from (by decide)) hc4)
  refine v_load (v := (2, 121)) (hz_X12_doOne hT _ _ rfl) rfl rfl ?_
  refine v_load (v := (0, (s : Int))) (hz_X12_doOne hT _ _ rfl) rfl rfl ?_
  refine v_push (1) (hz_X12_doOne hT _ _ rfl) rfl ?_
  refine v_bin (w := ((s : Int) + 1)) (hz_X12_doOne hT _ _ rfl) (hq_add (by omega) (by omega)) ?_
  refine v_load (v := (2, 121)) (hz_X12_doOne hT _ _ rfl) rfl rfl ?_
  refine v_getR (c := 126) (r := 121) (hz_X12_doOne hT _ _ rfl) rfl rfl rfl ?_
  refine v_load (v := (0, (277 + (9 * (s : Int))))) (hz_X12_doOne hT _ _ rfl) rfl rfl ?_
  refine v_push (8) (hz_X12_doOne hT _ _ rfl) rfl ?_
  refine v_bin (w := ((277 + (9 * (s : Int))) + 8)) (hz_X12_doOne hT _ _ rfl) (hq_add (by omega) (by omega)) ?_
  refine v_aldB (t := 0) (r := 126) (w := (u : Int)) (hz_X12_doOne hT _ _ rfl) rfl rfl rfl (fun _ _ => (congrArg Prod.snd w8)) (fun ha5 hb6 => ?_)
  refine v_call (w := 4) [some (2, 121), some (0, ((s : Int) + 1)), some (0, (u : Int)), none] hO (hz_X12_doOne hT _ _ rfl) rfl rfl ?_
  exact k0 ha1 hb2 ha5 hb6
theorem qr_do120o {D : zD} {T : zT} (hT : hTab T) (hO : vOK T) {N : Nat} {h : zH} {Q : zR → Prop} {s i a : Nat} (hv0 : zHv h) (bs : s < 30) (w1 : h 126 ((277 + (9 * (s : Int))) + 1).toNat = (0, (a : Int))) (e41 : h 121 41 = (0, 1))
    (k0 : (0 ≤ ((277 + (9 * (s : Int))) + 1)) → (((277 + (9 * (s : Int))) + 1) < 2750) → ((i : Int) < (a : Int)) → Q (h, none))
    (k1 : (0 ≤ ((277 + (9 * (s : Int))) + 1)) → (((277 + (9 * (s : Int))) + 1) < 2750) → ((a : Int) ≤ (i : Int)) → Q (h, none)) :
    vP D T N 220 120 h [some (2, 121), some (0, (s : Int)), some (0, (277 + (9 * (s : Int)))), some (0, 8), some (0, (i : Int))] [] Q := by
  refine v_load (v := (0, (i : Int))) (hz_X12_doOne hT _ _ rfl) rfl rfl ?_
  refine v_load (v := (2, 121)) (hz_X12_doOne hT _ _ rfl) rfl rfl ?_
  refine v_getR (c := 126) (r := 121) (hz_X12_doOne hT _ _ rfl) rfl rfl rfl ?_
  refine v_load (v := (0, (277 + (9 * (s : Int))))) (hz_X12_doOne hT _ _ rfl) rfl rfl ?_
  refine v_push (1) (hz_X12_doOne hT _ _ rfl) rfl ?_
  refine v_bin (w := ((277 + (9 * (s : Int))) + 1)) (hz_X12_doOne hT _ _ rfl) (hq_add (by omega) (by omega)) ?_
  refine v_aldB (t := 0) (r := 126) (w := (a : Int)) (hz_X12_doOne hT _ _ rfl) rfl rfl rfl (fun _ _ => (congrArg Prod.snd w1)) (fun ha1 hb2 => ?_)
  refine v_ic (hz_X12_doOne hT _ _ rfl) (fun hc3 => ?_) (fun hc3 => ?_)
  · have hc3 : (i : Int) < (a : Int) := hc3
    refine v_load (v := (2, 121)) (hz_X12_doOne hT _ _ rfl) rfl rfl ?_
    refine v_getf (v := (0, 1)) (r := 121) (hz_X12_doOne hT _ _ rfl) rfl rfl (fun _ => e41) ?_
    refine v_if (hz_X12_doOne hT _ _ rfl) (fun hc4 => absurd (show (1 : Int) = 0 from hc4) (by decide)) (fun _ => ?_)
    refine v_goto (hz_X12_doOne hT _ _ rfl) ?_
    refine v_ret0 (hi_X12_doOne_176 hT) ?_
    exact k0 ha1 hb2 hc3
  · have hc3 : (a : Int) ≤ (i : Int) := Int.not_lt.mp hc3
    refine v_goto (hz_X12_doOne hT _ _ rfl) ?_
    refine v_ret0 (hi_X12_doOne_176 hT) ?_
    exact k1 ha1 hb2 hc3
theorem qr_do120x {D : zD} {T : zT} (hT : hTab T) (hO : vOK T) {N : Nat} {h : zH} {Q : zR → Prop} {s a : Nat} (hv0 : zHv h) (bs : s < 30) (w1 : h 126 ((277 + (9 * (s : Int))) + 1).toNat = (0, (a : Int)))
    (k0 : (0 ≤ ((277 + (9 * (s : Int))) + 1)) → (((277 + (9 * (s : Int))) + 1) < 2750) → Q (h, none)) :
    vP D T N 220 120 h [some (2, 121), some (0, (s : Int)), some (0, (277 + (9 * (s : Int)))), some (0, 8), some (0, (a : Int))] [] Q := by
  refine v_load (v := (0, (a : Int))) (hz_X12_doOne hT _ _ rfl) rfl rfl ?_
  refine v_load (v := (2, 121)) (hz_X12_doOne hT _ _ rfl) rfl rfl ?_
  refine v_getR (c := 126) (r := 121) (hz_X12_doOne hT _ _ rfl) rfl rfl rfl ?_
  refine v_load (v := (0, (277 + (9 * (s : Int))))) (hz_X12_doOne hT _ _ rfl) rfl rfl ?_
  refine v_push (1) (hz_X12_doOne hT _ _ rfl) rfl ?_
  refine v_bin (w := ((277 + (9 * (s : Int))) + 1)) (hz_X12_doOne hT _ _ rfl) (hq_add (by omega) (by omega)) ?_
  refine v_aldB (t := 0) (r := 126) (w := (a : Int)) (hz_X12_doOne hT _ _ rfl) rfl rfl rfl (fun _ _ => (congrArg Prod.snd w1)) (fun ha1 hb2 => ?_)
  refine v_ic (hz_X12_doOne hT _ _ rfl) (fun hc3 => absurd (show (a : Int) < (a : Int) from hc3) (by omega)) (fun _ => ?_)
  refine v_goto (hz_X12_doOne hT _ _ rfl) ?_
  refine v_ret0 (hi_X12_doOne_176 hT) ?_
  exact k0 ha1 hb2
theorem qr_do156 {D : zD} {T : zT} (hT : hTab T) (hO : vOK T) {N : Nat} {h : zH} {Q : zR → Prop} {s i : Nat} (hv0 : zHv h) (hi : i < 99)
    (k0 : vP D T N 220 120 h [some (2, 121), some (0, (s : Int)), some (0, (277 + (9 * (s : Int)))), some (0, 8), some (0, ((i : Int) + 1))] [] Q) :
    vP D T N 220 156 h [some (2, 121), some (0, (s : Int)), some (0, (277 + (9 * (s : Int)))), some (0, 8), some (0, (i : Int))] [] Q := by
  refine v_iinc (x := (i : Int)) (u := 1) (w := ((i : Int) + 1)) [some (2, 121), some (0, (s : Int)), some (0, (277 + (9 * (s : Int)))), some (0, 8), some (0, ((i : Int) + 1))] (hz_X12_doOne hT _ _ rfl) rfl rfl (Nat.le_of_ble_eq_true rfl) (vz_inc (by omega) (by omega)) rfl ?_
  refine v_goto (hz_X12_doOne hT _ _ rfl) ?_
  exact k0 
theorem qr_do9 {D : zD} {T : zT} (hT : hTab T) (hO : vOK T) {N : Nat} {h : zH} {Q : zR → Prop} {s d : Nat} (hv0 : zHv h) (e43 : h 121 43 = (0, (d : Int))) (hd : (d : Int) ≠ 300) (bd : d < 300) (bs : s < 30) (w0 : h 126 (277 + (9 * (s : Int))).toNat = (0, 9))
    (k0 : (0 ≤ (277 + (9 * (s : Int)))) → ((277 + (9 * (s : Int))) < 2750) → Q (zset (zset h 121 43 (0, ((d : Int) + 1))) 121 41 (0, 1), none)) :
    vP D T N 220 0 h [some (2, 121), some (0, (s : Int)), none, none, none] [] Q := by
  refine v_load (v := (2, 121)) (hi_X12_doOne_0 hT) rfl rfl ?_
  refine v_getf (v := (0, (d : Int))) (r := 121) (hi_X12_doOne_1 hT) rfl rfl (fun _ => e43) ?_
  refine v_push (300) (hi_X12_doOne_4 hT) rfl ?_
  refine v_ic (hi_X12_doOne_7 hT) (fun hc1 => absurd (show (d : Int) = 300 from hc1) hd) (fun _ => ?_)
  refine v_load (v := (2, 121)) (hi_X12_doOne_21 hT) rfl rfl ?_
  refine v_dup (hi_X12_doOne_22 hT) (Nat.ne_of_beq_eq_false rfl) ?_
  refine v_getf (v := (0, (d : Int))) (r := 121) (hi_X12_doOne_23 hT) rfl rfl (fun _ => e43) ?_
  refine v_push (1) (hi_X12_doOne_26 hT) rfl ?_
  refine v_bin (w := ((d : Int) + 1)) (hi_X12_doOne_27 hT) (hq_add (by omega) (by omega)) ?_
  refine v_putf (r := 121) hO (hi_X12_doOne_28 hT) rfl (fun hf2 => ?_)
  refine v_push (277) (hi_X12_doOne_31 hT) rfl ?_
  refine v_push (9) (hi_X12_doOne_34 hT) rfl ?_
  refine v_load (v := (0, (s : Int))) (hi_X12_doOne_36 hT) rfl rfl ?_
  refine v_bin (w := (9 * (s : Int))) (hi_X12_doOne_37 hT) (hq_mul (by omega) (by omega)) ?_
  refine v_bin (w := (277 + (9 * (s : Int)))) (hi_X12_doOne_38 hT) (hq_add (by omega) (by omega)) ?_
  refine v_store1 [some (2, 121), some (0, (s : Int)), some (0, (277 + (9 * (s : Int)))), none, none] (hi_X12_doOne_39 hT) ⟨rfl, Nat.ne_of_beq_eq_false rfl⟩ (Nat.le_of_ble_eq_true rfl) rfl ?_
  refine v_load (v := (2, 121)) (hi_X12_doOne_40 hT) rfl rfl ?_
  refine v_getR (c := 126) (r := 121) (hi_X12_doOne_41 hT) rfl rfl rfl ?_
  refine v_load (v := (0, (277 + (9 * (s : Int))))) (hi_X12_doOne_44 hT) rfl rfl ?_
  refine v_aldB (t := 0) (r := 126) (w := 9) (hi_X12_doOne_45 hT) rfl rfl rfl (fun _ _ => (congrArg Prod.snd ((zset_ne (fun c => absurd c.1 (by decide))).trans w0))) (fun ha3 hb4 => ?_)
  refine v_store1 [some (2, 121), some (0, (s : Int)), some (0, (277 + (9 * (s : Int)))), some (0, 9), none] (hi_X12_doOne_46 hT) ⟨rfl, Nat.ne_of_beq_eq_false rfl⟩ (Nat.le_of_ble_eq_true rfl) rfl ?_
  refine v_load (v := (0, 9)) (hi_X12_doOne_47 hT) rfl rfl ?_
  refine v_push (7) (hi_X12_doOne_48 hT) rfl ?_
  refine v_ic (hi_X12_doOne_50 hT) (fun hc5 => absurd (show (9 : Int) < 7 from hc5) (by decide)) (fun _ => ?_)
  refine v_load (v := (0, 9)) (hz_X12_doOne hT _ _ rfl) rfl rfl ?_
  refine v_push (7) (hz_X12_doOne hT _ _ rfl) rfl ?_
  refine v_ic (hz_X12_doOne hT _ _ rfl) (fun hc6 => absurd (show (9 : Int) = 7 from hc6) (by decide)) (fun _ => ?_)
  refine v_load (v := (0, 9)) (hz_X12_doOne hT _ _ rfl) rfl rfl ?_
  refine v_push (8) (hz_X12_doOne hT _ _ rfl) rfl ?_
  refine v_ic (hz_X12_doOne hT _ _ rfl) (fun hc7 => absurd (show (9 : Int) = 8 from hc7) (by decide)) (fun _ => ?_)
  refine v_load (v := (0, 9)) (hz_X12_doOne hT _ _ rfl) rfl rfl ?_
  refine v_push (8) (hz_X12_doOne hT _ _ rfl) rfl ?_
  refine v_ic (hz_X12_doOne hT _ _ rfl) (fun _ => ?_) (fun hc8 => absurd (show 8 < (9 : Int) from (by decide)) hc8)
  refine v_load (v := (2, 121)) (hz_X12_doOne hT _ _ rfl) rfl rfl ?_
  refine v_push (1) (hz_X12_doOne hT _ _ rfl) rfl ?_
  refine v_putf (r := 121) hO (hz_X12_doOne hT _ _ rfl) rfl (fun hf9 => ?_)
  refine v_ret0 (hi_X12_doOne_176 hT) ?_
  exact k0 ha3 hb4
theorem qr_da0 {D : zD} {T : zT} (hT : hTab T) (hO : vOK T) {N : Nat} {h : zH} {Q : zR → Prop} {s u : Nat} (hv0 : zHv h)
    (k0 : vP D T N 219 2 h [some (2, 121), some (0, (s : Int)), some (0, (u : Int)), some (0, (s : Int))] [] Q) :
    vP D T N 219 0 h [some (2, 121), some (0, (s : Int)), some (0, (u : Int)), none] [] Q := by
  refine v_load (v := (0, (s : Int))) (hz_X12_doAll hT _ _ rfl) rfl rfl ?_
  refine v_store1 [some (2, 121), some (0, (s : Int)), some (0, (u : Int)), some (0, (s : Int))] (hz_X12_doAll hT _ _ rfl) ⟨rfl, Nat.ne_of_beq_eq_false rfl⟩ (Nat.le_of_ble_eq_true rfl) rfl ?_
  exact k0 
theorem qr_da2 {D : zD} {T : zT} (hT : hTab T) (hO : vOK T) {N : Nat} {h : zH} {Q : zR → Prop} {s u : Nat} (f : Int) (hv0 : zHv h) (e41 : h 121 41 = (0, 0)) (hsu : (s : Int) < (u : Int))
    (k0 : vP D T N 220 0 h [some (2, 121), some (0, (s : Int)), none, none, none] [] (fun r1 => vP D T N 219 19 r1.1 [some (2, 121), some (0, f), some (0, (u : Int)), some (0, (s : Int))] (zpush r1.2 []) Q)) :
    vP D T N 219 2 h [some (2, 121), some (0, f), some (0, (u : Int)), some (0, (s : Int))] [] Q := by
  refine v_load (v := (0, (s : Int))) (hz_X12_doAll hT _ _ rfl) rfl rfl ?_
  refine v_load (v := (0, (u : Int))) (hz_X12_doAll hT _ _ rfl) rfl rfl ?_
  refine v_ic (hz_X12_doAll hT _ _ rfl) (fun _ => ?_) (fun hc1 => absurd (show (s : Int) < (u : Int) from hsu) hc1)
  refine v_load (v := (2, 121)) (hz_X12_doAll hT _ _ rfl) rfl rfl ?_
  refine v_getf (v := (0, 0)) (r := 121) (hz_X12_doAll hT _ _ rfl) rfl rfl (fun _ => e41) ?_
  refine v_if (hz_X12_doAll hT _ _ rfl) (fun _ => ?_) (fun hc2 => absurd (show (0 : Int) = 0 from (by decide)) hc2)
  refine v_load (v := (2, 121)) (hz_X12_doAll hT _ _ rfl) rfl rfl ?_
  refine v_load (v := (0, (s : Int))) (hz_X12_doAll hT _ _ rfl) rfl rfl ?_
  refine v_call (w := 5) [some (2, 121), some (0, (s : Int)), none, none, none] hO (hz_X12_doAll hT _ _ rfl) rfl rfl ?_
  exact k0 
theorem qr_da2o {D : zD} {T : zT} (hT : hTab T) (hO : vOK T) {N : Nat} {h : zH} {Q : zR → Prop} {s u : Nat} (f : Int) (hv0 : zHv h) (e41 : h 121 41 = (0, 1))
    (k0 : ((s : Int) < (u : Int)) → Q (h, none))
    (k1 : ((u : Int) ≤ (s : Int)) → Q (h, none)) :
    vP D T N 219 2 h [some (2, 121), some (0, f), some (0, (u : Int)), some (0, (s : Int))] [] Q := by
  refine v_load (v := (0, (s : Int))) (hz_X12_doAll hT _ _ rfl) rfl rfl ?_
  refine v_load (v := (0, (u : Int))) (hz_X12_doAll hT _ _ rfl) rfl rfl ?_
  refine v_ic (hz_X12_doAll hT _ _ rfl) (fun hc1 => ?_) (fun hc1 => ?_)
  · have hc1 : (s : Int) < (u : Int) := hc1
    refine v_load (v := (2, 121)) (hz_X12_doAll hT _ _ rfl) rfl rfl ?_
    refine v_getf (v := (0, 1)) (r := 121) (hz_X12_doAll hT _ _ rfl) rfl rfl (fun _ => e41) ?_
    refine v_if (hz_X12_doAll hT _ _ rfl) (fun hc2 => absurd (show (1 : Int) = 0 from hc2) (by decide)) (fun _ => ?_)
    refine v_ret0 (hz_X12_doAll hT _ _ rfl) ?_
    exact k0 hc1
  · have hc1 : (u : Int) ≤ (s : Int) := Int.not_lt.mp hc1
    refine v_ret0 (hz_X12_doAll hT _ _ rfl) ?_
    exact k1 hc1
theorem qr_da2x {D : zD} {T : zT} (hT : hTab T) (hO : vOK T) {N : Nat} {h : zH} {Q : zR → Prop} {u : Nat} (f : Int) (hv0 : zHv h)
    (k0 : Q (h, none)) :
    vP D T N 219 2 h [some (2, 121), some (0, f), some (0, (u : Int)), some (0, (u : Int))] [] Q := by
  refine v_load (v := (0, (u : Int))) (hz_X12_doAll hT _ _ rfl) rfl rfl ?_
  refine v_load (v := (0, (u : Int))) (hz_X12_doAll hT _ _ rfl) rfl rfl ?_
  refine v_ic (hz_X12_doAll hT _ _ rfl) (fun hc1 => absurd (show (u : Int) < (u : Int) from hc1) (by omega)) (fun _ => ?_)
  refine v_ret0 (hz_X12_doAll hT _ _ rfl) ?_
  exact k0 
theorem qr_da19 {D : zD} {T : zT} (hT : hTab T) (hO : vOK T) {N : Nat} {h : zH} {Q : zR → Prop} {s u n : Nat} (f : Int) (hv0 : zHv h) (bs : s < 30) (w8 : h 126 ((277 + (9 * (s : Int))) + 8).toNat = (0, (n : Int)))
    (k0 : (0 ≤ ((277 + (9 * (s : Int))) + 8)) → (((277 + (9 * (s : Int))) + 8) < 2750) → vP D T N 219 2 h [some (2, 121), some (0, f), some (0, (u : Int)), some (0, (n : Int))] [] Q) :
    vP D T N 219 19 h [some (2, 121), some (0, f), some (0, (u : Int)), some (0, (s : Int))] [] Q := by
  refine v_load (v := (2, 121)) (hz_X12_doAll hT _ _ rfl) rfl rfl ?_
  refine v_getR (c := 126) (r := 121) (hz_X12_doAll hT _ _ rfl) rfl rfl rfl ?_
  refine v_push (277) (hz_X12_doAll hT _ _ rfl) rfl ?_
  refine v_push (9) (hz_X12_doAll hT _ _ rfl) rfl ?_
  refine v_load (v := (0, (s : Int))) (hz_X12_doAll hT _ _ rfl) rfl rfl ?_
  refine v_bin (w := (9 * (s : Int))) (hz_X12_doAll hT _ _ rfl) (hq_mul (by omega) (by omega)) ?_
  refine v_bin (w := (277 + (9 * (s : Int)))) (hz_X12_doAll hT _ _ rfl) (hq_add (by omega) (by omega)) ?_
  refine v_push (8) (hz_X12_doAll hT _ _ rfl) rfl ?_
  refine v_bin (w := ((277 + (9 * (s : Int))) + 8)) (hz_X12_doAll hT _ _ rfl) (hq_add (by omega) (by omega)) ?_
  refine v_aldB (t := 0) (r := 126) (w := (n : Int)) (hz_X12_doAll hT _ _ rfl) rfl rfl rfl (fun _ _ => (congrArg Prod.snd w8)) (fun ha1 hb2 => ?_)
  refine v_store1 [some (2, 121), some (0, f), some (0, (u : Int)), some (0, (n : Int))] (hz_X12_doAll hT _ _ rfl) ⟨rfl, Nat.ne_of_beq_eq_false rfl⟩ (Nat.le_of_ble_eq_true rfl) rfl ?_
  refine v_goto (hz_X12_doAll hT _ _ rfl) ?_
  exact k0 ha1 hb2
theorem qr_ru0 {D : zD} {T : zT} (hT : hTab T) (hO : vOK T) {N : Nat} {h : zH} {Q : zR → Prop} {n : Nat} (x : Int) (hv0 : zHv h) (e6 : h 126 276 = (0, (n : Int)))
    (k0 : vP D T N 219 0 (zset (zset (zset (zset (zset (zset (zset h 121 42 (0, x)) 121 43 (0, 0)) 121 44 (0, 0)) 121 45 (0, 0)) 121 46 (0, 0)) 121 47 (0, 0)) 121 41 (0, 0)) [some (2, 121), some (0, 0), some (0, (n : Int)), none] [] (fun r1 => vP D T N 308 48 r1.1 [some (2, 121), some (0, x)] (zpush r1.2 []) Q)) :
    vP D T N 308 0 h [some (2, 121), some (0, x)] [] Q := by
  refine v_load (v := (2, 121)) (hz_X12_runs hT _ _ rfl) rfl rfl ?_
  refine v_load (v := (0, x)) (hz_X12_runs hT _ _ rfl) rfl rfl ?_
  refine v_putf (r := 121) hO (hz_X12_runs hT _ _ rfl) rfl (fun hf1 => ?_)
  refine v_load (v := (2, 121)) (hz_X12_runs hT _ _ rfl) rfl rfl ?_
  refine v_push (0) (hz_X12_runs hT _ _ rfl) rfl ?_
  refine v_putf (r := 121) hO (hz_X12_runs hT _ _ rfl) rfl (fun hf2 => ?_)
  refine v_load (v := (2, 121)) (hz_X12_runs hT _ _ rfl) rfl rfl ?_
  refine v_push (0) (hz_X12_runs hT _ _ rfl) rfl ?_
  refine v_putf (r := 121) hO (hz_X12_runs hT _ _ rfl) rfl (fun hf3 => ?_)
  refine v_load (v := (2, 121)) (hz_X12_runs hT _ _ rfl) rfl rfl ?_
  refine v_push (0) (hz_X12_runs hT _ _ rfl) rfl ?_
  refine v_putf (r := 121) hO (hz_X12_runs hT _ _ rfl) rfl (fun hf4 => ?_)
  refine v_load (v := (2, 121)) (hz_X12_runs hT _ _ rfl) rfl rfl ?_
  refine v_push (0) (hz_X12_runs hT _ _ rfl) rfl ?_
  refine v_putf (r := 121) hO (hz_X12_runs hT _ _ rfl) rfl (fun hf5 => ?_)
  refine v_load (v := (2, 121)) (hz_X12_runs hT _ _ rfl) rfl rfl ?_
  refine v_push (0) (hz_X12_runs hT _ _ rfl) rfl ?_
  refine v_putf (r := 121) hO (hz_X12_runs hT _ _ rfl) rfl (fun hf6 => ?_)
  refine v_load (v := (2, 121)) (hz_X12_runs hT _ _ rfl) rfl rfl ?_
  refine v_push (0) (hz_X12_runs hT _ _ rfl) rfl ?_
  refine v_putf (r := 121) hO (hz_X12_runs hT _ _ rfl) rfl (fun hf7 => ?_)
  refine v_load (v := (2, 121)) (hz_X12_runs hT _ _ rfl) rfl rfl ?_
  refine v_push (0) (hz_X12_runs hT _ _ rfl) rfl ?_
  refine v_load (v := (2, 121)) (hz_X12_runs hT _ _ rfl) rfl rfl ?_
  refine v_getR (c := 126) (r := 121) (hz_X12_runs hT _ _ rfl) rfl rfl rfl ?_
  refine v_push (276) (hz_X12_runs hT _ _ rfl) rfl ?_
  refine v_aldV (v := (0, (n : Int))) (r := 126) (hz_X12_runs hT _ _ rfl) rfl rfl (fun _ _ _ => (Eq.trans (Eq.trans (zset_ne (fun c => absurd c.1 (by decide))) (Eq.trans (zset_ne (fun c => absurd c.1 (by decide))) (Eq.trans (zset_ne (fun c => absurd c.1 (by decide))) (Eq.trans (zset_ne (fun c => absurd c.1 (by decide))) (Eq.trans (zset_ne (fun c => absurd c.1 (by decide))) (Eq.trans (zset_ne (fun c => absurd c.1 (by decide))) (zset_ne (fun c => absurd c.1 (by decide))))))))) (e6))) (fun ha8 hb9 => ?_)
  refine v_call (w := 4) [some (2, 121), some (0, 0), some (0, (n : Int)), none] hO (hz_X12_runs hT _ _ rfl) rfl rfl ?_
  exact k0 
theorem qr_ru48 {D : zD} {T : zT} (hT : hTab T) (hO : vOK T) {N : Nat} {h : zH} {Q : zR → Prop} (x : Int) (hv0 : zHv h)
    (k0 : Q (h, none)) :
    vP D T N 308 48 h [some (2, 121), some (0, x)] [] Q := by
  refine v_ret0 (hz_X12_runs hT _ _ rfl) ?_
  exact k0 
/-! the reference's run -/
def rR1 (S : RuS) (h : zH) : Prop := rBk 0 S.P h ∧ h 121 42 = (0, S.r) ∧ h 121 43 = (0, (S.dn : Int)) ∧ h 121 44 = (0, (S.ms : Int)) ∧ h 121 45 = (0, (S.bt : Int)) ∧ h 121 46 = (0, (S.sk : Int))
def rAF (h g : zH) : Prop := ∀ a b, ¬ ((a = 126 ∧ b < 275) ∨ a = 130 ∨ a = 132 ∨ (a = 121 ∧ (b = 31 ∨ b = 33 ∨ (42 ≤ b ∧ b ≤ 46)))) → g a b = h a b
def rDF (h g : zH) : Prop := ∀ a b, ¬ ((a = 126 ∧ b < 275) ∨ a = 130 ∨ a = 132 ∨ (a = 121 ∧ (b = 31 ∨ b = 33 ∨ (41 ≤ b ∧ b ≤ 47)))) → g a b = h a b
theorem rAF.rfl {h : zH} : rAF h h := fun _ _ _ => Eq.refl _
theorem rDF.rfl {h : zH} : rDF h h := fun _ _ _ => Eq.refl _
theorem rAF.trans {h g g2 : zH} (f : rAF h g) (f2 : rAF g g2) : rAF h g2 := fun a b hn => (f2 a b hn).trans (f a b hn)
theorem rDF.trans {h g g2 : zH} (f : rDF h g) (f2 : rDF g g2) : rDF h g2 := fun a b hn => (f2 a b hn).trans (f a b hn)
theorem rAF.df {h g : zH} (f : rAF h g) : rDF h g := fun a b hn => f a b (fun e => hn (by omega))
theorem rAF.z {k : Nat} {v : zV} {h g : zH} (hk : 42 ≤ k ∧ k ≤ 46) (f : rAF h g) : rAF h (zset g 121 k v) := fun a b hn => (zset_ne (fun e => hn (by omega))).trans (f a b hn)
theorem rDF.z {k : Nat} {v : zV} {h g : zH} (hk : 41 ≤ k ∧ k ≤ 47) (f : rDF h g) : rDF h (zset g 121 k v) := fun a b hn => (zset_ne (fun e => hn (by omega))).trans (f a b hn)
theorem rR1.fr {S : RuS} {h g : zH} (r : rR1 S h) (lb : lB S.P) (f : ∀ a b, (a = 126 ∧ b < 275) ∨ (a = 121 ∧ 42 ≤ b ∧ b ≤ 46) → g a b = h a b) : rR1 S g := ⟨r.1.eq lb (fun b _ h2 => f 126 b (by omega)), (f _ _ (by omega)).trans r.2.1, (f _ _ (by omega)).trans r.2.2.1, (f _ _ (by omega)).trans r.2.2.2.1, (f _ _ (by omega)).trans r.2.2.2.2.1, (f _ _ (by omega)).trans r.2.2.2.2.2⟩
theorem rBk.z1 {P : PT} {h : zH} {k : Nat} {v : zV} (r : rBk 0 P h) (lb : lB P) : rBk 0 P (zset h 121 k v) := r.eq lb (fun b _ _ => zset_ne (fun e => absurd e.1 (by decide)))
theorem rR1.miss {S : RuS} {h : zH} (r : rR1 S h) (lb : lB S.P) : rR1 (sMiss S) (zset h 121 44 (0, (S.ms : Int) + 1)) := ⟨r.1.z1 lb, (zset_ne (by decide)).trans r.2.1, (zset_ne (by decide)).trans r.2.2.1, zset_same, (zset_ne (by decide)).trans r.2.2.2.2.1, (zset_ne (by decide)).trans r.2.2.2.2.2⟩
theorem rR1.up {S : RuS} {h : zH} (r : rR1 S h) (lb : lB S.P) : rR1 (sUp S) (zset h 121 43 (0, (S.dn : Int) + 1)) := ⟨r.1.z1 lb, (zset_ne (by decide)).trans r.2.1, zset_same, (zset_ne (by decide)).trans r.2.2.2.1, (zset_ne (by decide)).trans r.2.2.2.2.1, (zset_ne (by decide)).trans r.2.2.2.2.2⟩
section RX
variable {D : zD} {T : zT} {N : Nat} {h : zH} {Q : zR → Prop}
theorem rx_dr (hT : hTab T) (hO : vOK T) (r x : Int) (hx : 1 ≤ x ∧ x ≤ 48) (e4 : h 121 42 = (0, r)) (br : 0 ≤ r ∧ r < 65536) (k : Q (zset h 121 42 (0, dR r), some (0, dV r x))) : vP D T N 222 0 h [some (2, 121), some (0, x)] [] Q := vP_hv (fun hv => qr_dr hT hO r x hv e4 br hx (fun _ => k))
theorem rx_dc (hT : hTab T) (hO : vOK T) {P : PT} (r : Int) (hR : rBk 0 P h) (lb : lB P) (hw : 1 ≤ P 0 0 ∧ 1 ≤ P 0 1) (e4 : h 121 42 = (0, r)) (br : 0 ≤ r ∧ r < 65536) (k : ∀ g : zH, g 121 42 = (0, dR (dR r)) → (∀ a b, ¬ (a = 121 ∧ b = 42) → g a b = h a b) → Q (g, some (0, ((gJ P (dQ P r) : Nat) : Int)))) : vP D T N 223 0 h [some (2, 121), none] [] Q := by
  have l1 := lb.1
  have l2 := lb.2.1
  have a := dV_b (r := r) hw.1
  have b := dV_b (r := dR r) hw.2
  refine vP_hv (fun hv => qr_dc0 hT hO hv hR.w ?_)
  refine rx_dr hT hO r (P 0 0) ⟨hw.1, by omega⟩ e4 br ?_
  show vP D T N 223 10 (zset h 121 42 (0, dR r)) [some (2, 121), none] [(0, dV r (P 0 0))] Q
  refine vP_hv (fun hv => qr_dc10 (P := P) hT hO (dV r (P 0 0)) hv ((zset_ne (by decide)).trans hR.r) ?_)
  refine rx_dr hT hO (dR r) (P 0 1) ⟨hw.2, by omega⟩ zset_same (dR_b r) ?_
  show vP D T N 223 23 (zset (zset h 121 42 (0, dR r)) 121 42 (0, dR (dR r))) [some (2, 121), some (0, dV r (P 0 0))] [(0, dV (dR r) (P 0 1)), (0, dV r (P 0 0)), (2, 121)] Q
  refine vP_hv (fun hv => qr_dc23 (P := P) hT hO (dV r (P 0 0)) (dV (dR r) (P 0 1)) hv ((zset_ne (by decide)).trans ((zset_ne (by decide)).trans hR.w)) lb ⟨a.1, by omega⟩ ⟨b.1, by omega⟩ ?_)
  have e : P 0 0 * dV (dR r) (P 0 1) + dV r (P 0 0) = ((gJ P (dQ P r) : Nat) : Int) := by
    rw [gJ_i lb.1.1, show ((dQ P r / 8 : Nat) : Int) = dV (dR r) (P 0 1) from by unfold dQ; omega, show ((dQ P r % 8 : Nat) : Int) = dV r (P 0 0) from by unfold dQ; omega]
  rw [e]
  exact k _ zset_same (fun a b hn => (zset_ne hn).trans (zset_ne hn))
theorem rx_eat (hT : hTab T) (hO : vOK T) {S : RuS} {B : Nat} (j q : Nat) (hS : rR1 S h) (hb : rBb S B) (hB : B ≤ 4000) (hj : j < 3) (gq : gIn S.P q) (k1 : S.P 3 (48 * j + q) = 1 → Q (h, some (0, 0))) (k2 : S.P 3 (48 * j + q) ≠ 1 → ∀ g : zH, rR1 (sEat j q S) g → rAF h g → Q (g, some (0, 1))) : vP D T N 224 0 h [some (2, 121), some (0, (j : Int)), some (0, ((gJ S.P q : Nat) : Int))] [] Q := by
  have b5 := hb.2.2.2.2.1
  refine vP_hv (fun hv => qr_ea0 hT hO hv ?_)
  refine rb_bi hT hO _ j q rfl hj gq hS.1 hb.1 (fun c => ?_) (fun c g hR f => ?_)
  · show vP D T N 224 6 h [some (2, 121), some (0, (j : Int)), some (0, ((gJ S.P q : Nat) : Int))] [(0, -1)] Q
    exact vP_hv (fun hv => qr_ea6n hT hO hv (k1 c))
  · show vP D T N 224 6 g [some (2, 121), some (0, (j : Int)), some (0, ((gJ S.P q : Nat) : Int))] [(0, gCr S.P q)] Q
    have cr := gCr_b hb.1 gq.1
    have e9 : g 121 45 = (0, (S.bt : Int)) := (f 121 45 (by omega)).trans hS.2.2.2.2.1
    refine vP_hv (fun hv => qr_ea6y hT hO (gCr S.P q) hv (by omega) e9 (by omega) ?_)
    have e : sEat j q S = (sPb S (pBite S.P j q) (S.bt + 1)) := if_neg c
    refine k2 c _ ?_ (rAF.z (by decide) (fun a b hn => f a b (fun e => hn (Or.inl e))))
    rw [e]
    exact ⟨hR.z1 (hb.1.1), (zset_ne (by decide)).trans ((f 121 42 (by omega)).trans hS.2.1), (zset_ne (by decide)).trans ((f 121 43 (by omega)).trans hS.2.2.1), (zset_ne (by decide)).trans ((f 121 44 (by omega)).trans hS.2.2.2.1), zset_same, (zset_ne (by decide)).trans ((f 121 46 (by omega)).trans hS.2.2.2.2.2)⟩
theorem rx_eatz (hT : hTab T) (hO : vOK T) {S : RuS} {B : Nat} (j q : Nat) (hS : rR1 S h) (hb : rBb S B) (hB : B ≤ 4000) (hj : j < 3) (gq : gIn S.P q) (k : ∀ (g : zH) (z : Int), rR1 (sEat j q S) g → rAF h g → Q (g, some (0, z))) : vP D T N 224 0 h [some (2, 121), some (0, (j : Int)), some (0, ((gJ S.P q : Nat) : Int))] [] Q := by
  refine rx_eat hT hO j q hS hb hB hj gq (fun c => ?_) (fun c g a b => k g 1 a b)
  have e : sEat j q S = S := if_pos c
  exact k h 0 (by rw [e]; exact hS) rAF.rfl
end RX
theorem rx_moL {D : zD} {T : zT} (hT : hTab T) (hO : vOK T) {N : Nat} {Q : zR → Prop} {j b : Nat} (hj : j < 3) (hb12 : b ≤ 12) : ∀ (n i q : Nat) (S : RuS) (B : Nat) (h : zH) (o : Option zV), i + n = b → rR1 S h → rBb S B → B + n ≤ 4000 → gIn S.P q → (∀ g : zH, rR1 (sMouse j n q S) g → rAF h g → Q (g, none)) → vP D T N 281 15 h [some (2, 121), some (0, (j : Int)), some (0, (b : Int)), some (0, ((gJ S.P q : Nat) : Int)), some (0, (i : Int)), o] [] Q
  | 0, i, q, S, B, h, o, hi, hS, hb, hB, gq, k => by
    have : i = b := hi
    subst this
    exact vP_hv (fun hv => qr_mox hT hO o hv (k h hS rAF.rfl))
  | n + 1, i, q, S, B, h, o, hi, hS, hb, hB, gq, k => by
    have lb := hb.1.1
    have dv := dV_b (r := S.r) (n := 4) (by omega)
    refine vP_hv (fun hv => qr_mo15 hT hO o hv (by omega) ?_)
    refine rx_dr hT hO S.r 4 (by omega) hS.2.1 hb.2.2.1 ?_
    have ed : dV S.r 4 = (((dV S.r 4).toNat : Nat) : Int) := by omega
    have hS1 : rR1 (sSr S (dR S.r)) (zset h 121 42 (0, dR S.r)) := ⟨hS.1.z1 lb, zset_same, (zset_ne (by decide)).trans hS.2.2.1, (zset_ne (by decide)).trans hS.2.2.2.1, (zset_ne (by decide)).trans hS.2.2.2.2.1, (zset_ne (by decide)).trans hS.2.2.2.2.2⟩
    have F0 : rAF h (zset h 121 42 (0, dR S.r)) := rAF.z (by decide) rAF.rfl
    have go : ∀ (q' : Nat) (w : Int), q' = sTo S.P S.r q → gIn S.P q' → vP D T N 224 0 (zset h 121 42 (0, dR S.r)) [some (2, 121), some (0, (j : Int)), some (0, ((gJ S.P q' : Nat) : Int))] [] (fun r1 => vP D T N 281 51 r1.1 [some (2, 121), some (0, (j : Int)), some (0, (b : Int)), some (0, ((gJ S.P q' : Nat) : Int)), some (0, (i : Int)), some (0, w)] (zpush r1.2 []) Q) := fun q' w eq gq' => by
      refine rx_eatz hT hO (S := (sSr S (dR S.r))) j q' hS1 (hb.draw S.r) (by omega) hj gq' (fun g z a1 a2 => ?_)
      show vP D T N 281 51 g [some (2, 121), some (0, (j : Int)), some (0, (b : Int)), some (0, ((gJ S.P q' : Nat) : Int)), some (0, (i : Int)), some (0, w)] [(0, z)] Q
      refine vP_hv (fun hv => qr_mo51 hT hO z w hv (by omega) ?_)
      obtain ⟨s1, s2, _⟩ := sEat_b (j := j) (q := q') (hb.draw S.r)
      have ih := rx_moL (D := D) (N := N) hT hO hj hb12 n (i + 1) q' (sEat j q' (sSr S (dR S.r))) (B + 1) g (some (0, w)) (by omega) a1 s1 (by omega) (s2.gin.mpr gq') (fun g2 b1 b2 => k g2 (by subst eq; exact b1) ((F0.trans a2).trans b2))
      rw [s2.gj q'] at ih
      exact ih
    rw [ed]
    show vP D T N 281 28 (zset h 121 42 (0, dR S.r)) [some (2, 121), some (0, (j : Int)), some (0, (b : Int)), some (0, ((gJ S.P q : Nat) : Int)), some (0, (i : Int)), o] [(0, (((dV S.r 4).toNat : Nat) : Int)), (0, ((gJ S.P q : Nat) : Int)), (2, 121)] Q
    refine vP_hv (fun hv => qr_mo28 (P := S.P) hT hO o hv ((zset_ne (by decide)).trans hS.1.w) ((zset_ne (by decide)).trans hS.1.r) hb.1 gq (by omega) ?_ ?_ ?_)
    · intro c
      exact go q (-1) (by unfold sTo; rw [if_pos c]) gq
    · intro q1 _ _ c
      omega
    · intro q1 c g1 _
      exact go q1 _ (by unfold sTo; rw [c, if_neg (by omega), Int.toNat_natCast]) g1
/-- how many of the first n cells differ -/
def uS (P : PT) (j t : Nat) : Nat → Nat
  | 0 => 0
  | n + 1 => uS P j t n + (if P 3 (48 * j + gQ P n) = P 3 (48 * t + gQ P n) then 0 else 1)
theorem uS_le {P : PT} {j t : Nat} : ∀ n, uS P j t n ≤ n
  | 0 => Nat.le_refl _
  | n + 1 => by
    have := uS_le (P := P) (j := j) (t := t) n
    show uS P j t n + (if P 3 (48 * j + gQ P n) = P 3 (48 * t + gQ P n) then 0 else 1) ≤ n + 1
    split <;> omega
theorem wr_i {P : PT} (lb : lB P) : (((P 0 0).toNat * (P 0 1).toNat : Nat) : Int) = P 0 0 * P 0 1 := by rw [Int.natCast_mul, Int.toNat_of_nonneg lb.1.1, Int.toNat_of_nonneg lb.2.1.1]
theorem wr_48 {P : PT} (lb : lB P) : (P 0 0).toNat * (P 0 1).toNat ≤ 48 := by
  have : (P 0 0).toNat * (P 0 1).toNat ≤ 8 * 6 := Nat.mul_le_mul (by have := lb.1.2; omega) (by have := lb.2.1.2; omega)
  omega
theorem rx_unL {D : zD} {T : zT} (hT : hTab T) (hO : vOK T) {N : Nat} {h : zH} {Q : zR → Prop} {P : PT} {j t : Nat} (hR : rBk 0 P h) (hb : fB P) (hj : j < 3) (ht : t < 3) (k : Q (h, some (0, ((uS P j t ((P 0 0).toNat * (P 0 1).toNat) : Nat) : Int)))) : ∀ (r n m : Nat), n + r = (P 0 0).toNat * (P 0 1).toNat → m = uS P j t n → vP D T N 333 5 h [some (2, 121), some (0, (j : Int)), some (0, (t : Int)), some (0, (m : Int)), some (0, (n : Int))] [] Q
  | 0, n, m, hn, hm => by
    have e := wr_i hb.1
    have hn : n = (P 0 0).toNat * (P 0 1).toNat := hn
    subst hm
    refine vP_dn (vP_hv (fun hv => qr_un9 hT hO hv hR hb (by rw [← e, hn]; exact Int.le_refl _) ?_))
    rw [hn]
    exact k
  | r + 1, n, m, hn, hm => by
    have e := wr_i hb.1
    have w := wr_48 hb.1
    obtain ⟨gq, ej⟩ := gQ_ok hb.1 (n := n) (by omega)
    have um := uS_le (P := P) (j := j) (t := t) n
    have ih := rx_unL (D := D) (N := N) hT hO hR hb hj ht k r (n + 1)
    have e1 : ∀ v : Int, vP D T N 333 5 h [some (2, 121), some (0, (j : Int)), some (0, (t : Int)), some (0, v), some (0, ((n + 1 : Nat) : Int))] [] Q → vP D T N 333 5 h [some (2, 121), some (0, (j : Int)), some (0, (t : Int)), some (0, v), some (0, (((gJ P (gQ P n) : Nat) : Int) + 1))] [] Q := fun v hv => by
      rw [ej]
      exact hv
    have go : vP D T N 333 5 h [some (2, 121), some (0, (j : Int)), some (0, (t : Int)), some (0, (m : Int)), some (0, ((gJ P (gQ P n) : Nat) : Int))] [] Q := by
      refine vP_dn (vP_hv (fun hv => qr_un5 (q := gQ P n) hT hO hv hR hb gq (by omega) hj ht (by omega) (by rw [ej, ← e]; omega) (fun c => e1 _ ?_) (fun c => e1 _ ?_)))
      · rw [Int.add_zero]
        refine ih m (by omega) ?_
        show m = uS P j t n + (if P 3 (48 * j + gQ P n) = P 3 (48 * t + gQ P n) then 0 else 1)
        rw [if_pos c, hm]
        rfl
      · refine ih (m + 1) (by omega) ?_
        show m + 1 = uS P j t n + (if P 3 (48 * j + gQ P n) = P 3 (48 * t + gQ P n) then 0 else 1)
        rw [if_neg c, hm]
    rw [ej] at go
    exact go
theorem rx_ssL {D : zD} {T : zT} (hT : hTab T) (hO : vOK T) {N : Nat} {h : zH} {Q : zR → Prop} {P : PT} {j t : Nat} (hR : rBk 0 P h) (hb : fB P) (hj : j < 3) (ht : t < 3) (hjt : j ≠ t) (z : Int) (k : ∀ g : zH, rBk 0 (pSteam P j t) g → bFr h g → Q (g, some (0, z))) : ∀ (r n : Nat) (g : zH), n + r = (P 0 0).toNat * (P 0 1).toNat → (∀ q, gIn P q → gJ P q < n → g 126 (101 + 48 * t + gJ P q) = (0, P 3 (48 * j + q))) → (∀ a b, ¬ (a = 126 ∧ 101 + 48 * t ≤ b ∧ b < 149 + 48 * t) → g a b = h a b) → vP D T N 317 10 g [some (2, 121), some (0, (j : Int)), some (0, (t : Int)), some (0, z), some (0, (n : Int))] [] Q
  | 0, n, g, hn, h1, h2 => by
    have e := wr_i hb.1
    have lb := hb.1
    have hn : n = (P 0 0).toNat * (P 0 1).toNat := hn
    refine vP_dn (vP_hv (fun hv => qr_ss9 (P := P) hT hO z hv ((h2 126 0 (by omega)).trans hR.w) ((h2 126 1 (by omega)).trans hR.r) hb (by rw [← e, hn]; exact Int.le_refl _) (k g ?_ (fun a b hn => h2 a b (by omega)))))
    obtain ⟨⟨a0, a1, a2, a3, a4⟩, b1, b2, b3⟩ := hR
    refine ⟨⟨(h2 _ _ (by omega)).trans a0, (h2 _ _ (by omega)).trans a1, (h2 _ _ (by omega)).trans a2, (h2 _ _ (by omega)).trans a3, (h2 _ _ (by omega)).trans a4⟩, fun q gq => ?_, fun k' q hk gq => ?_, fun m hm => ?_⟩
    · have gq : gIn P q := gq
      have eq : gJ (pSteam P j t) q = gJ P q := rfl
      have := gJ_lt lb gq
      rw [eq]
      exact ⟨(h2 _ _ (by omega)).trans (b1 q gq).1, (h2 _ _ (by omega)).trans (b1 q gq).2⟩
    · have gq : gIn P q := gq
      have eq : gJ (pSteam P j t) q = gJ P q := rfl
      have l := gJ_lt lb gq
      have q48 := gq.1
      rw [eq]
      show g 126 (0 + 101 + 48 * k' + gJ P q) = (0, if 3 = 3 ∧ 48 * t ≤ 48 * k' + q ∧ 48 * k' + q < 48 * t + 48 then P 3 (48 * j + (48 * k' + q - 48 * t)) else P 3 (48 * k' + q))
      by_cases c : k' = t
      · subst c
        rw [if_pos ⟨rfl, by omega, by omega⟩, show 0 + 101 + 48 * k' + gJ P q = 101 + 48 * k' + gJ P q from by omega, show 48 * j + (48 * k' + q - 48 * k') = 48 * j + q from by omega]
        exact h1 q gq (by rw [hn]; exact gJ_all lb gq)
      · rw [if_neg (by omega)]
        exact (h2 _ _ (by omega)).trans (b2 k' q hk gq)
    · have hm : (m : Int) < P 0 3 := hm
      have := lb.2.2.2.2
      obtain ⟨c1, c2, c3, c4, c5⟩ := b3 m hm
      exact ⟨(h2 _ _ (by omega)).trans c1, (h2 _ _ (by omega)).trans c2, (h2 _ _ (by omega)).trans c3, (h2 _ _ (by omega)).trans c4, (h2 _ _ (by omega)).trans c5⟩
  | r + 1, n, g, hn, h1, h2 => by
    have e := wr_i hb.1
    have lb := hb.1
    have w := wr_48 hb.1
    obtain ⟨gq, ej⟩ := gQ_ok hb.1 (n := n) (by omega)
    have ev : g 126 ((101 + (48 * (j : Int))) + ((gJ P (gQ P n) : Nat) : Int)).toNat = (0, P 3 (48 * j + gQ P n)) := (h2 _ _ (by rw [ej]; omega)).trans (hR.st hj gq)
    have go : vP D T N 317 10 g [some (2, 121), some (0, (j : Int)), some (0, (t : Int)), some (0, z), some (0, ((gJ P (gQ P n) : Nat) : Int))] [] Q := by
      refine vP_dn (vP_hv (fun hv => qr_ss10 (q := gQ P n) hT hO z _ hv ((h2 126 0 (by omega)).trans hR.w) ((h2 126 1 (by omega)).trans hR.r) hb gq (by omega) hj ht (by rw [ej, ← e]; omega) ev (fun _ _ _ _ => ?_)))
      rw [show ((101 + (48 * (t : Int))) + ((gJ P (gQ P n) : Nat) : Int)).toNat = 101 + 48 * t + n from by rw [ej]; omega, show (((gJ P (gQ P n) : Nat) : Int) + 1) = ((n + 1 : Nat) : Int) from by rw [ej]; rfl]
      refine rx_ssL hT hO hR hb hj ht hjt z k r (n + 1) _ (by omega) (fun q g' hq => ?_) (fun a b hab => (zset_ne (fun q => hab (by omega))).trans (h2 a b hab))
      by_cases c : gJ P q = n
      · rw [c, zset_same, show q = gQ P n from by rw [← c, gQ_J lb g']]
      · rw [zset_ne (by omega)]
        exact h1 q g' (by omega)
    rw [ej] at go
    exact go
theorem rx_ss {D : zD} {T : zT} (hT : hTab T) (hO : vOK T) {N : Nat} {h : zH} {Q : zR → Prop} {P : PT} {j t : Nat} (hR : rBk 0 P h) (hb : fB P) (hj : j < 3) (ht : t < 3) (hjt : j ≠ t) (k : ∀ g : zH, rBk 0 (pSteam P j t) g → bFr h g → Q (g, some (0, ((uS P j t ((P 0 0).toNat * (P 0 1).toNat) : Nat) : Int)))) : vP D T N 317 0 h [some (2, 121), some (0, (j : Int)), some (0, (t : Int)), none, none] [] Q := by
  refine vP_hv (fun hv => qr_ss0 hT hO hv ?_)
  refine vP_hv (fun hv => qr_un0 hT hO hv ?_)
  refine rx_unL hT hO hR hb hj ht ?_ ((P 0 0).toNat * (P 0 1).toNat) 0 0 (Nat.zero_add _) rfl
  show vP D T N 317 6 h [some (2, 121), some (0, (j : Int)), some (0, (t : Int)), none, none] [(0, ((uS P j t ((P 0 0).toNat * (P 0 1).toNat) : Nat) : Int))] Q
  refine vP_hv (fun hv => qr_ss6 hT hO _ hv ?_)
  exact rx_ssL hT hO hR hb hj ht hjt _ k ((P 0 0).toNat * (P 0 1).toNat) 0 h (Nat.zero_add _) (fun q _ c => absurd c (Nat.not_lt_zero _)) (fun _ _ _ => rfl)
theorem rx_hmL {D : zD} {T : zT} (hT : hTab T) (hO : vOK T) {N : Nat} {h : zH} {Q : zR → Prop} {P : PT} {s : Nat} (hR : rBk 0 P h) (hb : fB P) (k : ∀ g : zH, rBk 0 (pHome P) g → bFr h g → Q (g, some (0, 1))) : ∀ (r i : Nat) (g : zH), (i : Int) + (r : Int) = P 0 3 → (∀ m : Nat, m < i → g 126 (245 + m) = (0, ((gJ P (P 5 m).toNat : Nat) : Int))) → (∀ a b, ¬ (a = 126 ∧ 245 ≤ b ∧ b < 251) → g a b = h a b) → vP D T N 221 178 g [some (2, 121), some (0, (277 + (9 * (s : Int)))), some (0, 6), some (0, (i : Int))] [] Q
  | 0, i, g, hi, h1, h2 => by
    have lb := hb.1
    refine vP_dn (vP_hv (fun hv => qr_de179 (P := P) hT hO hv ((h2 126 3 (by omega)).trans hR.m) (by omega) (k g ?_ (fun a b hn => h2 a b (by omega)))))
    obtain ⟨⟨a0, a1, a2, a3, a4⟩, b1, b2, b3⟩ := hR
    refine ⟨⟨(h2 _ _ (by omega)).trans a0, (h2 _ _ (by omega)).trans a1, (h2 _ _ (by omega)).trans a2, (h2 _ _ (by omega)).trans a3, (h2 _ _ (by omega)).trans a4⟩, fun q gq => ?_, fun k' q hk gq => ?_, fun m hm => ?_⟩
    · have gq : gIn P q := gq
      have eq : gJ (pHome P) q = gJ P q := rfl
      have := gJ_lt lb gq
      rw [eq]
      exact ⟨(h2 _ _ (by omega)).trans (b1 q gq).1, (h2 _ _ (by omega)).trans (b1 q gq).2⟩
    · have gq : gIn P q := gq
      have eq : gJ (pHome P) q = gJ P q := rfl
      have l := gJ_lt lb gq
      rw [eq]
      exact (h2 _ _ (by omega)).trans (b2 k' q hk gq)
    · have hm : (m : Int) < P 0 3 := hm
      have := lb.2.2.2.2
      obtain ⟨c1, c2, c3, c4, c5⟩ := b3 m hm
      refine ⟨?_, (h2 _ _ (by omega)).trans c2, (h2 _ _ (by omega)).trans c3, (h2 _ _ (by omega)).trans c4, (h2 _ _ (by omega)).trans c5⟩
      show g 126 (0 + 245 + m) = (0, ((gJ P (P 5 m).toNat : Nat) : Int))
      rw [show 0 + 245 + m = 245 + m from by omega]
      exact h1 m (by omega)
  | r + 1, i, g, hi, h1, h2 => by
    have lb := hb.1
    have := lb.2.2.2.2
    have hlt : (i : Int) < P 0 3 := by omega
    have ev : g 126 (257 + (i : Int)).toNat = (0, ((gJ P (P 5 i).toNat : Nat) : Int)) := (h2 _ _ (by omega)).trans (hR.ho hlt)
    refine vP_dn (vP_hv (fun hv => qr_de178 (P := P) hT hO _ hv ((h2 126 3 (by omega)).trans hR.m) hlt (by omega) ev (fun _ _ _ _ => ?_)))
    rw [show (245 + (i : Int)).toNat = 245 + i from by omega]
    refine rx_hmL hT hO hR hb k r (i + 1) _ (by omega) (fun m hm => ?_) (fun a b hab => (zset_ne (fun q => hab (by omega))).trans (h2 a b hab))
    by_cases c : m = i
    · rw [c]; exact zset_same
    · rw [zset_ne (by omega)]
      exact h1 m (by omega)
theorem rx_gm {D : zD} {T : zT} (hT : hTab T) (hO : vOK T) {N : Nat} {h : zH} {Q : zR → Prop} {S : RuS} {B : Nat} (a : Nat) (hS : rR1 S h) (hb : rBb S B) (ha : (a : Int) < S.P 0 3) (k1 : mC S.P a = -1 → ∀ g : zH, rR1 S g → rAF h g → Q (g, some (0, 0))) (k2 : mC S.P a ≠ -1 → ∀ g : zH, rR1 (sMarch a S) g → rAF h g → Q (g, some (0, 1))) : vP D T N 231 0 h [some (2, 121), some (0, (a : Int))] [] Q := by
  have b6 := hb.2.2.2.2.2.1
  have b7 := hb.2.2.2.2.2.2.1
  refine vP_hv (fun hv => qr_go0 hT hO hv ?_)
  refine rx_mv hT hO _ a rfl hS.1 hb.1 ha (fun g f r c => ?_) (fun g c f r v => ?_)
  · show vP D T N 231 5 g [some (2, 121), some (0, (a : Int))] [(0, -1)] Q
    exact vP_hv (fun hv => qr_go5n hT hO hv (k1 c g ⟨r, (f 121 42 (by omega)).trans hS.2.1, (f 121 43 (by omega)).trans hS.2.2.1, (f 121 44 (by omega)).trans hS.2.2.2.1, (f 121 45 (by omega)).trans hS.2.2.2.2.1, (f 121 46 (by omega)).trans hS.2.2.2.2.2⟩ (fun x y hn => f x y (fun e => hn (by omega)))))
  · show vP D T N 231 5 g [some (2, 121), some (0, (a : Int))] [(0, ((mS S.P a : Nat) : Int))] Q
    have c' : mC S.P a ≠ -1 := fun q => by
      have c : 0 ≤ mC S.P a := c
      omega
    have v' : g 121 33 = (0, (((if mS S.P a < mN S.P a then 1 else 0) : Nat) : Int)) := by
      have v : g 121 33 = (0, if mS S.P a < mN S.P a then 1 else 0) := v
      rw [v]
      by_cases q : mS S.P a < mN S.P a
      · rw [if_pos q, if_pos q]; rfl
      · rw [if_neg q, if_neg q]; rfl
    have e46 : g 121 46 = (0, (S.sk : Int)) := (f 121 46 (by omega)).trans hS.2.2.2.2.2
    have es : sMarch a S = (sPk S (pGo S.P a (mP S.P a) (mS S.P a)) (S.sk + (if mS S.P a < mN S.P a then 1 else 0))) := if_neg c'
    refine vP_hv (fun hv => qr_go5y hT hO ((mS S.P a : Nat) : Int) hv (by omega) e46 v' (by omega) (by split <;> omega) ?_)
    refine k2 c' _ ?_ (rAF.z (by decide) (fun x y hn => f x y (fun e => hn (by omega))))
    rw [es]
    have lb2 : lB (pGo S.P a (mP S.P a) (mS S.P a)) := (fB_march hb.1 ha c).1
    exact ⟨rBk.z1 r lb2, (zset_ne (by decide)).trans ((f 121 42 (by omega)).trans hS.2.1), (zset_ne (by decide)).trans ((f 121 43 (by omega)).trans hS.2.2.1), (zset_ne (by decide)).trans ((f 121 44 (by omega)).trans hS.2.2.2.1), (zset_ne (by decide)).trans ((f 121 45 (by omega)).trans hS.2.2.2.2.1), zset_same⟩
/-- the words of a step, as the walk names their places -/
theorem rIt.f {o w : Nat} {h : zH} {k a b s : Nat} (g : rIt 0 w h k a b s) : h 126 (277 + (9 * (s : Int))).toNat = (0, rKd k) ∧ ((k ≠ 14 ∧ k ≠ 18 ∧ k ≠ 21) → h 126 ((277 + (9 * (s : Int))) + 1).toNat = (0, (a : Int))) ∧ ((k = 8 ∨ k = 10 ∨ k = 16) → h 126 ((277 + (9 * (s : Int))) + 2).toNat = (0, ((w * (b / 8) + b % 8 : Nat) : Int))) ∧ ((k = 11 ∨ k = 12 ∨ k = 18) → h 126 ((277 + (9 * (s : Int))) + 2).toNat = (0, (b : Int))) ∧ ((16 ≤ k ∧ k ≤ 18) → h 126 ((277 + (9 * (s : Int))) + 6).toNat = (0, (k : Int) - 16)) ∧ (k = 18 → h 126 ((277 + (9 * (s : Int))) + 7).toNat = (0, (a : Int))) := by
  obtain ⟨g1, g2, g3, g4, g5, g6⟩ := g
  rw [show (277 + (9 * (s : Int))).toNat = 0 + 277 + 9 * s from by omega, show ((277 + (9 * (s : Int))) + 1).toNat = 0 + 278 + 9 * s from by omega, show ((277 + (9 * (s : Int))) + 2).toNat = 0 + 279 + 9 * s from by omega, show ((277 + (9 * (s : Int))) + 6).toNat = 0 + 283 + 9 * s from by omega, show ((277 + (9 * (s : Int))) + 7).toNat = 0 + 284 + 9 * s from by omega]
  exact ⟨g1, g2, g3, g4, g5, g6⟩
theorem rIt.z {w : Nat} {h g : zH} {k a b s : Nat} (i : rIt 0 w h k a b s) (f : rDF h g) : rIt 0 w g k a b s := by
  obtain ⟨g1, g2, g3, g4, g5, g6⟩ := i
  exact ⟨(f _ _ (by omega)).trans g1, fun c => (f _ _ (by omega)).trans (g2 c), fun c => (f _ _ (by omega)).trans (g3 c), fun c => (f _ _ (by omega)).trans (g4 c), fun c => (f _ _ (by omega)).trans (g5 c), fun c => (f _ _ (by omega)).trans (g6 c)⟩
theorem rx_so {D : zD} {T : zT} (hT : hTab T) (hO : vOK T) {N : Nat} {h : zH} {Q : zR → Prop} {P : PT} (k a b s : Nat) (hR : rBk 0 P h) (hb : fB P) (hk : 16 ≤ k ∧ k ≤ 18) (ok : oIt P k a b) (hs : s < 30) (w : rIt 0 (P 0 0).toNat h k a b s) (k1 : sSo k a b P → Q (h, some (0, 1))) (k2 : ¬ sSo k a b P → Q (h, some (0, 0))) : vP D T N 261 0 h [some (2, 121), some (0, (277 + (9 * (s : Int)))), none] [] Q := by
  have lb := hb.1
  have l3 : P 0 2 ≤ 3 := lb.2.2.1.2
  have l6 : P 0 3 ≤ 6 := lb.2.2.2.2
  obtain ⟨o1, o2, o3, o4, o5, o6, o7⟩ := ok
  obtain ⟨w0, w1, w2, w2', w6, w7⟩ := rIt.f (o := 0) w
  have hk' : k = 16 ∨ k = 17 ∨ k = 18 := by omega
  rcases hk' with rfl | rfl | rfl
  · obtain ⟨oa, ob⟩ := o1 (Or.inr (Or.inr rfl))
    refine vP_hv (fun hv => qr_so16 hT hO hv hR hb hs (w6 (by decide)) (w1 (by decide)) (w2 (by decide)) (by omega) ob (fun _ _ _ _ _ _ c => k1 (Or.inl ⟨rfl, c⟩)) (fun _ _ _ _ _ _ c => k2 ?_))
    rintro (⟨_, d⟩ | ⟨d, _⟩ | ⟨d, _⟩)
    · exact c d
    · exact absurd d (by decide)
    · exact absurd d (by decide)
  · have hm := o5 (Or.inr rfl)
    obtain ⟨_, ⟨c6, g6⟩, ⟨c7, g7⟩, _⟩ := hb.2.2.2 a hm
    refine vP_hv (fun hv => qr_so17 (P := P) hT hO hv hs (w6 (by decide)) (w1 (by decide)) (by omega) (hR.at hm) (hR.go hm) (fun _ _ _ _ _ _ _ _ c => k1 (Or.inr (Or.inl ⟨rfl, ?_⟩))) (fun _ _ _ _ _ _ _ _ c => k2 ?_))
    · have := gJ_inj lb g6 g7 (by omega)
      omega
    · rintro (⟨d, _⟩ | ⟨_, d⟩ | ⟨d, _⟩)
      · exact absurd d (by decide)
      · exact c (by rw [d])
      · exact absurd d (by decide)
  · obtain ⟨oa, ob⟩ := o7 rfl
    have no : ∀ {X : Prop}, ¬ X → (((a = 60 ∧ P 0 4 < (b : Int)) ∨ (a = 62 ∧ (b : Int) < P 0 4) ∨ (a = 61 ∧ P 0 4 = (b : Int))) → X) → ¬ sSo 18 a b P := fun nx hx d => by
      rcases d with ⟨d, _⟩ | ⟨d, _⟩ | ⟨_, d⟩
      · exact absurd d (by decide)
      · exact absurd d (by decide)
      · exact nx (hx d)
    rcases oa with rfl | rfl | rfl
    · exact vP_hv (fun hv => qr_so18_60 hT hO hv hs (w6 (by decide)) (w7 rfl) (w2' (by decide)) hR.e (fun _ _ _ _ _ _ c => k1 (Or.inr (Or.inr ⟨rfl, Or.inl ⟨rfl, c⟩⟩))) (fun _ _ _ _ _ _ c => k2 (no (X := P 0 4 < (b : Int)) (by omega) (fun d => by omega))))
    · exact vP_hv (fun hv => qr_so18_61 hT hO hv hs (w6 (by decide)) (w7 rfl) (w2' (by decide)) hR.e (fun _ _ _ _ _ _ c => k1 (Or.inr (Or.inr ⟨rfl, Or.inr (Or.inr ⟨rfl, c⟩)⟩))) (fun _ _ _ _ _ _ c => k2 (no (X := P 0 4 = (b : Int)) c (fun d => by omega))))
    · exact vP_hv (fun hv => qr_so18_62 hT hO hv hs (w6 (by decide)) (w7 rfl) (w2' (by decide)) hR.e (fun _ _ _ _ _ _ c => k1 (Or.inr (Or.inr ⟨rfl, Or.inr (Or.inl ⟨rfl, c⟩)⟩))) (fun _ _ _ _ _ _ c => k2 (no (X := (b : Int) < P 0 4) (by omega) (fun d => by omega))))
/-- does(): one step that is no test, loop or stop; S: done counted -/
theorem rx_de {D : zD} {T : zT} (hT : hTab T) (hO : vOK T) {N : Nat} {h : zH} {Q : zR → Prop} {S : RuS} (k a b s : Nat) (hS : rR1 S h) (hb : rBb S 3900) (hw : 1 ≤ S.P 0 0 ∧ 1 ≤ S.P 0 1) (hk : 8 ≤ k ∧ k ≤ 14) (ok : oIt S.P k a b) (hs : s < 30) (w : rIt 0 (S.P 0 0).toNat h k a b s) (k0 : ∀ (g : zH) (S' : RuS), S'.ms = S.ms → rR1 S' g → rAF h g → sDo k a b S = sMiss S' → lB S'.P → Q (g, some (0, 0))) (k1 : ∀ g : zH, (sDo k a b S).ms = S.ms → rR1 (sDo k a b S) g → rAF h g → Q (g, some (0, 1))) : vP D T N 221 0 h [some (2, 121), some (0, (277 + (9 * (s : Int)))), none, none] [] Q := by
  obtain ⟨a1, a2, a3, a4, a5, a6, a7, a8⟩ := id hb
  have lb := a1.1
  have l3 : S.P 0 2 ≤ 3 := lb.2.2.1.2
  have l6 : S.P 0 3 ≤ 6 := lb.2.2.2.2
  obtain ⟨o1, o2, o3, o4, o5, o6, o7⟩ := ok
  obtain ⟨w0, w1, w2, w2', w6, w7⟩ := rIt.f (o := 0) w
  have hk' : k = 8 ∨ k = 9 ∨ k = 10 ∨ k = 11 ∨ k = 12 ∨ k = 13 ∨ k = 14 := by omega
  have bF : ∀ {g : zH}, bFr h g → rAF h g := fun f x y hn => f x y (fun e => hn (Or.inl e))
  have kp : ∀ {g : zH} {P' : PT}, bFr h g → rBk 0 P' g → rR1 (sSP S (P')) g := fun f r => ⟨r, (f 121 42 (by omega)).trans hS.2.1, (f 121 43 (by omega)).trans hS.2.2.1, (f 121 44 (by omega)).trans hS.2.2.2.1, (f 121 45 (by omega)).trans hS.2.2.2.2.1, (f 121 46 (by omega)).trans hS.2.2.2.2.2⟩
  rcases hk' with rfl | rfl | rfl | rfl | rfl | rfl | rfl
  · obtain ⟨oa, ob⟩ := o1 (Or.inl rfl)
    refine vP_hv (fun hv => qr_de0 (P := S.P) hT hO hv hs w0 (w1 (by decide)) (w2 (by decide)) (fun _ _ _ _ _ _ => ?_))
    refine rx_eat hT hO a b hS hb (by omega) (by omega) ob (fun c => ?_) (fun c g r f => ?_)
    · exact vP_hv (fun hv => qr_de31 hT hO _ 0 hv (Or.inl rfl) (k0 h S rfl hS rAF.rfl (if_pos c) lb))
    · have e : sDo 8 a b S = sEat a b S := if_neg c
      exact vP_hv (fun hv => qr_de31 hT hO _ 1 hv (Or.inr rfl) (k1 g (by rw [e]; exact sEat_ms) (by rw [e]; exact r) f))
  · have oa := o2 rfl
    refine vP_hv (fun hv => qr_de1 hT hO hv hs w0 (w1 (by decide)) (fun _ _ _ _ => ?_))
    refine rx_dc hT hO S.r hS.1 lb hw hS.2.1 a3 (fun g g4 gf => ?_)
    have rg : rR1 (sSr S (dR (dR S.r))) g := ⟨hS.1.eq lb (fun y _ _ => gf 126 y (by omega)), g4, (gf 121 43 (by decide)).trans hS.2.2.1, (gf 121 44 (by decide)).trans hS.2.2.2.1, (gf 121 45 (by decide)).trans hS.2.2.2.2.1, (gf 121 46 (by decide)).trans hS.2.2.2.2.2⟩
    have fg : rAF h g := fun x y hn => gf x y (fun e => hn (by omega))
    show vP D T N 221 50 g [some (2, 121), some (0, (277 + (9 * (s : Int)))), some (0, 1), none] [(0, ((gJ S.P (dQ S.P S.r) : Nat) : Int)), (0, (a : Int)), (2, 121)] Q
    refine vP_hv (fun hv => qr_de50 (P := S.P) hT hO hv ?_)
    refine rb_mo hT hO _ a (dQ S.P S.r) rfl (by omega) (dQ_in lb hw S.r) rg.1 a1 (fun c => ?_) (fun c g2 hP2 f2 => ?_)
    · exact vP_hv (fun hv => qr_de53 hT hO _ 0 hv (Or.inl rfl) (k0 g (sSr S (dR (dR S.r))) rfl rg fg (if_neg c) lb))
    · have e : sDo 9 a b S = (sPr S (pSt S.P a (dQ S.P S.r) 2) (dR (dR S.r))) := if_pos c
      exact vP_hv (fun hv => qr_de53 hT hO _ 1 hv (Or.inr rfl) (k1 g2 (by rw [e]; rfl) (by rw [e]; exact ⟨hP2, (f2 121 42 (by omega)).trans rg.2.1, (f2 121 43 (by omega)).trans rg.2.2.1, (f2 121 44 (by omega)).trans rg.2.2.2.1, (f2 121 45 (by omega)).trans rg.2.2.2.2.1, (f2 121 46 (by omega)).trans rg.2.2.2.2.2⟩) (fg.trans (fun x y hn => f2 x y (fun e => hn (Or.inl e))))))
  · obtain ⟨oa, ob⟩ := o1 (Or.inr (Or.inl rfl))
    refine vP_hv (fun hv => qr_de2 (P := S.P) hT hO hv hs w0 (w1 (by decide)) (w2 (by decide)) (fun _ _ _ _ _ _ => ?_))
    refine rb_ho hT hO _ a b rfl (by omega) ob hS.1 a1 (fun c => ?_) (fun c g2 hP2 f2 => ?_)
    · exact vP_hv (fun hv => qr_de79 hT hO _ 0 hv (Or.inl rfl) (k0 h S rfl hS rAF.rfl (if_neg (show ¬ (S.P 3 (48 * a + b) = 0 ∨ S.P 3 (48 * a + b) = 2) from fun d => d.elim c.1 c.2)) lb))
    · have e : sDo 10 a b S = (sSP S (pSt S.P a b 3)) := if_pos c
      exact vP_hv (fun hv => qr_de79 hT hO _ 1 hv (Or.inr rfl) (k1 g2 (by rw [e]; rfl) (by rw [e]; exact kp f2 hP2) (bF f2)))
  · obtain ⟨oa, ob⟩ := o3 rfl
    by_cases c : a = b
    · subst c
      exact vP_hv (fun hv => qr_de3n hT hO hv hs w0 (w1 (by decide)) (w2' (by decide)) (fun _ _ _ _ _ _ _ => k0 h S rfl hS rAF.rfl (if_pos rfl) lb) (fun _ _ _ _ _ _ c => absurd rfl c))
    · refine vP_hv (fun hv => qr_de3 hT hO hv hs w0 (w1 (by decide)) (w2' (by decide)) (by omega) (fun _ _ _ _ _ _ => ?_))
      refine rx_ss hT hO hS.1 a1 (by omega) (by omega) c (fun g r f => ?_)
      have e : sDo 11 a b S = (sSP S (pSteam S.P a b)) := if_neg c
      exact vP_hv (fun hv => qr_de144 hT hO _ _ hv (k1 g (by rw [e]; rfl) (by rw [e]; exact kp f r) (bF f)))
  · obtain ⟨oa, ob⟩ := o4 rfl
    refine vP_hv (fun hv => qr_de4 hT hO hv hs w0 (w1 (by decide)) (w2' (by decide)) (fun _ _ _ _ _ _ => ?_))
    refine vP_hv (fun hv => qr_mo0 hT hO hv ?_)
    refine rx_dc hT hO S.r hS.1 lb hw hS.2.1 a3 (fun g g4 gf => ?_)
    have rg : rR1 (sSr S (dR (dR S.r))) g := ⟨hS.1.eq lb (fun y _ _ => gf 126 y (by omega)), g4, (gf 121 43 (by decide)).trans hS.2.2.1, (gf 121 44 (by decide)).trans hS.2.2.2.1, (gf 121 45 (by decide)).trans hS.2.2.2.2.1, (gf 121 46 (by decide)).trans hS.2.2.2.2.2⟩
    have fg : rAF h g := fun x y hn => gf x y (fun e => hn (by omega))
    have gq := dQ_in lb hw S.r
    have d0 : rBb (sSr S (dR (dR S.r))) 3900 := hb.draw (dR S.r)
    obtain ⟨s1, s2, s3, _⟩ := sEat_b (j := a) (q := dQ S.P S.r) d0
    show vP D T N 281 4 g [some (2, 121), some (0, (a : Int)), some (0, (b : Int)), none, none, none] [(0, ((gJ S.P (dQ S.P S.r) : Nat) : Int))] _
    refine vP_hv (fun hv => qr_mo4 (P := S.P) hT hO hv ?_)
    refine rx_eatz hT hO (S := (sSr S (dR (dR S.r)))) a (dQ S.P S.r) rg d0 (by omega) (by omega) gq (fun g2 z r2 f2 => ?_)
    show vP D T N 281 11 g2 [some (2, 121), some (0, (a : Int)), some (0, (b : Int)), some (0, ((gJ S.P (dQ S.P S.r) : Nat) : Int)), none, none] [(0, z)] _
    refine vP_hv (fun hv => qr_mo11 (P := S.P) hT hO z hv ?_)
    have ms : ∀ (n q : Nat) (S1 : RuS), (sMouse a n q S1).ms = S1.ms := fun n => by
      induction n with
      | zero => intro q S1; rfl
      | succ n ih =>
        intro q S1
        refine (ih _ _).trans ?_
        exact sEat_ms
    have go := rx_moL (D := D) hT hO (N := N) (Q := fun r1 => vP D T N 221 173 r1.1 [some (2, 121), some (0, (277 + (9 * (s : Int)))), some (0, 4), none] (zpush r1.2 []) Q) (show a < 3 by omega) ob b 0 (dQ S.P S.r) (sEat a (dQ S.P S.r) (sSr S (dR (dR S.r)))) _ g2 none (Nat.zero_add b) r2 s1 (by omega) (s2.gin.mpr gq) (fun g3 r3 f3 => vP_hv (fun hv => qr_de173 hT hO _ hv (k1 g3 ((ms _ _ _).trans sEat_ms) r3 ((fg.trans f2).trans f3))))
    rw [s2.gj] at go
    exact go
  · have hm : (a : Int) < S.P 0 3 := o5 (Or.inl rfl)
    refine vP_hv (fun hv => qr_de5 hT hO hv hs w0 (w1 (by decide)) (fun _ _ _ _ => ?_))
    refine rx_gm hT hO a hS hb hm (fun c g r f => ?_) (fun c g r f => ?_)
    · exact vP_hv (fun hv => qr_de97 hT hO _ 0 hv (Or.inl rfl) (k0 g S rfl r f (if_pos c) lb))
    · exact vP_hv (fun hv => qr_de97 hT hO _ 1 hv (Or.inr rfl) (k1 g (sMarch_ms c) r f))
  · refine vP_hv (fun hv => qr_de6 hT hO hv hs w0 (fun _ _ => ?_))
    have l0 := lb.2.2.2.1
    exact rx_hmL hT hO hS.1 a1 (fun g r f => k1 g rfl (kp f r) (bF f)) (S.P 0 3).toNat 0 h (by omega) (fun m c => absurd c (Nat.not_lt_zero _)) (fun _ _ _ => rfl)
def ruF (S : RuS) (h : zH) : Prop := h 121 41 = (0, if S.ov = 0 then 0 else 1) ∧ h 121 47 = (0, if S.ov = 2 then 1 else 0)
/-- doOne(): a step that is no block -/
theorem rx_act {D : zD} {T : zT} (hT : hTab T) (hO : vOK T) {N : Nat} {h : zH} {Q : zR → Prop} {S : RuS} (k a b s : Nat) (hS : rR1 S h) (hr : ruB S) (hd : S.dn < 300) (ov : S.ov = 0) (hf : ruF S h) (hk : (8 ≤ k ∧ k ≤ 14) ∨ k = 21) (ok : oIt S.P k a b) (hs : s < 30) (w : rIt 0 (S.P 0 0).toNat h k a b s) (kk : ∀ g : zH, rR1 (sDo k a b (sUp S)) g → ruF (sDo k a b (sUp S)) g → rDF h g → Q (g, none)) : vP D T N 220 0 h [some (2, 121), some (0, (s : Int)), none, none, none] [] Q := by
  obtain ⟨a1, a2, a3, a4, a5, a6, a7, a8⟩ := id hr
  have lb := a1.1
  obtain ⟨f41, f47⟩ := hf
  rw [if_pos ov] at f41
  rw [if_neg (by omega)] at f47
  have d1 : rDF h (zset h 121 43 (0, (S.dn : Int) + 1)) := rDF.z (by decide) rDF.rfl
  have rU : rR1 (sUp S) (zset h 121 43 (0, (S.dn : Int) + 1)) := hS.up lb
  have w0 := (rIt.f (o := 0) w).1
  have u0 : rBb (sUp S) 3900 := ⟨a1, a2, a3, Nat.le_succ_of_le a4, by show S.bt ≤ 3900; omega, Nat.le_succ_of_le a6, hd, a8⟩
  obtain ⟨q1, q2, q3, q4⟩ := sDo_ok (a := a) (b := b) hr hd hk ok
  rcases hk with hk | rfl
  · have qo : (sDo k a b (sUp S)).ov = 0 := (q4 (by omega)).trans ov
    have fl : ∀ g : zH, rAF (zset h 121 43 (0, (S.dn : Int) + 1)) g → ∀ v : zV, ruF (sDo k a b (sUp S)) (zset g 121 44 v) := fun g f v => by
      refine ⟨?_, ?_⟩
      · rw [if_pos qo]
        exact (zset_ne (by decide)).trans ((f 121 41 (by omega)).trans ((zset_ne (by decide)).trans f41))
      · rw [if_neg (by omega)]
        exact (zset_ne (by decide)).trans ((f 121 47 (by omega)).trans ((zset_ne (by decide)).trans f47))
    have de : ∀ {Q' : zR → Prop}, (∀ (g : zH) (S' : RuS), S'.ms = S.ms → rR1 S' g → rAF (zset h 121 43 (0, (S.dn : Int) + 1)) g → sDo k a b (sUp S) = sMiss S' → lB S'.P → Q' (g, some (0, 0))) → (∀ g : zH, (sDo k a b (sUp S)).ms = S.ms → rR1 (sDo k a b (sUp S)) g → rAF (zset h 121 43 (0, (S.dn : Int) + 1)) g → Q' (g, some (0, 1))) → vP D T N 221 0 (zset h 121 43 (0, (S.dn : Int) + 1)) [some (2, 121), some (0, (277 + (9 * (s : Int)))), none, none] [] Q' := fun k0 k1 => rx_de hT hO k a b s rU u0 a2 hk ok hs (w.z d1) k0 k1
    have m300 : S.ms ≤ 300 := by omega
    have K0 : ∀ (g : zH) (S' : RuS), S'.ms = S.ms → rR1 S' g → rAF (zset h 121 43 (0, (S.dn : Int) + 1)) g → sDo k a b (sUp S) = sMiss S' → lB S'.P → Q (zset g 121 44 (0, (S.ms : Int) + 1), none) := fun g S' e r f eS lb' => by
      have r2 := r.miss lb'
      rw [e] at r2
      exact kk _ (by rw [eS]; exact r2) (fl g f _) (d1.trans (rDF.z (by decide) f.df))
    have K1 : ∀ g : zH, (sDo k a b (sUp S)).ms = S.ms → rR1 (sDo k a b (sUp S)) g → rAF (zset h 121 43 (0, (S.dn : Int) + 1)) g → Q (zset g 121 44 (0, (S.ms : Int) + 0), none) := fun g e r f => by
      refine kk _ ⟨r.1.z1 q1.1.1, (zset_ne (by decide)).trans r.2.1, (zset_ne (by decide)).trans r.2.2.1, ?_, (zset_ne (by decide)).trans r.2.2.2.2.1, (zset_ne (by decide)).trans r.2.2.2.2.2⟩ (fl g f _) (d1.trans (rDF.z (by decide) f.df))
      rw [zset_same, Int.add_zero, e]
    have hk' : k = 8 ∨ k = 9 ∨ k = 10 ∨ k = 11 ∨ k = 12 ∨ k = 13 ∨ k = 14 := by omega
    rcases hk' with rfl | rfl | rfl | rfl | rfl | rfl | rfl
    · exact vP_hv (fun hv => qr_do0 hT hO hv hS.2.2.1 (by omega) hd hs hS.2.2.2.1 w0 (fun _ _ => de (fun g S' e r f eS l => vP_hv (fun hv => qr_do63_0_0 hT hO hv m300 (K0 g S' e r f eS l))) (fun g e r f => vP_hv (fun hv => qr_do63_0_1 hT hO hv m300 (K1 g e r f)))))
    · exact vP_hv (fun hv => qr_do1 hT hO hv hS.2.2.1 (by omega) hd hs hS.2.2.2.1 w0 (fun _ _ => de (fun g S' e r f eS l => vP_hv (fun hv => qr_do63_1_0 hT hO hv m300 (K0 g S' e r f eS l))) (fun g e r f => vP_hv (fun hv => qr_do63_1_1 hT hO hv m300 (K1 g e r f)))))
    · exact vP_hv (fun hv => qr_do2 hT hO hv hS.2.2.1 (by omega) hd hs hS.2.2.2.1 w0 (fun _ _ => de (fun g S' e r f eS l => vP_hv (fun hv => qr_do63_2_0 hT hO hv m300 (K0 g S' e r f eS l))) (fun g e r f => vP_hv (fun hv => qr_do63_2_1 hT hO hv m300 (K1 g e r f)))))
    · exact vP_hv (fun hv => qr_do3 hT hO hv hS.2.2.1 (by omega) hd hs hS.2.2.2.1 w0 (fun _ _ => de (fun g S' e r f eS l => vP_hv (fun hv => qr_do63_3_0 hT hO hv m300 (K0 g S' e r f eS l))) (fun g e r f => vP_hv (fun hv => qr_do63_3_1 hT hO hv m300 (K1 g e r f)))))
    · exact vP_hv (fun hv => qr_do4 hT hO hv hS.2.2.1 (by omega) hd hs hS.2.2.2.1 w0 (fun _ _ => de (fun g S' e r f eS l => vP_hv (fun hv => qr_do63_4_0 hT hO hv m300 (K0 g S' e r f eS l))) (fun g e r f => vP_hv (fun hv => qr_do63_4_1 hT hO hv m300 (K1 g e r f)))))
    · exact vP_hv (fun hv => qr_do5 hT hO hv hS.2.2.1 (by omega) hd hs hS.2.2.2.1 w0 (fun _ _ => de (fun g S' e r f eS l => vP_hv (fun hv => qr_do63_5_0 hT hO hv m300 (K0 g S' e r f eS l))) (fun g e r f => vP_hv (fun hv => qr_do63_5_1 hT hO hv m300 (K1 g e r f)))))
    · exact vP_hv (fun hv => qr_do6 hT hO hv hS.2.2.1 (by omega) hd hs hS.2.2.2.1 w0 (fun _ _ => de (fun g S' e r f eS l => vP_hv (fun hv => qr_do63_6_0 hT hO hv m300 (K0 g S' e r f eS l))) (fun g e r f => vP_hv (fun hv => qr_do63_6_1 hT hO hv m300 (K1 g e r f)))))
  · refine vP_hv (fun hv => qr_do9 hT hO hv hS.2.2.1 (by omega) hd hs w0 (fun _ _ => ?_))
    refine kk _ (show rR1 (sOv (sUp S) 1) _ from ⟨rU.1.z1 lb, (zset_ne (by decide)).trans rU.2.1, (zset_ne (by decide)).trans rU.2.2.1, (zset_ne (by decide)).trans rU.2.2.2.1, (zset_ne (by decide)).trans rU.2.2.2.2.1, (zset_ne (by decide)).trans rU.2.2.2.2.2⟩) ⟨zset_same, ?_⟩ (rDF.z (by decide) d1)
    exact (zset_ne (by decide)).trans ((zset_ne (by decide)).trans f47)
theorem rLay.z {o w : Nat} {h g : zH} (f : rDF h g) {t : OT} {s : Nat} (l : rLay o w h t s) (hs : s + tS t ≤ 30) : rLay o w g t s := l.tr (fun j h1 h2 => f 126 (o + j) (by omega)) hs
/-- all of a tree, from its first step to behind its last -/
theorem rx_ev {D : zD} {T : zT} (hT : hTab T) (hO : vOK T) {N : Nat} {P0 : PT} {h0 : zH} : ∀ (t : OT) (S : RuS) (s : Nat) (f : Int) (h : zH) (Q : zR → Prop), oOk P0 t → rLay 0 (P0 0 0).toNat h0 t s → s + tS t ≤ 30 → ruB S → pSh P0 S.P → rR1 S h → ruF S h → rDF h0 h → (∀ g : zH, rR1 (ev t S) g → ruF (ev t S) g → rDF h g → Q (g, none)) → vP D T N 219 2 h [some (2, 121), some (0, f), some (0, ((s + tS t : Nat) : Int)), some (0, (s : Int))] [] Q
  | .leaf _, S, s, f, h, Q, _, _, _, _, _, hS, hf, _, kk => vP_hv (fun hv => qr_da2x hT hO f hv (kk h hS hf rDF.rfl))
  | .branch d0 y r, S, s, f, h, Q, ok, ly, hs, hr, sh, hS, hf, hf0, kk => by
    obtain ⟨k, a, b, hd⟩ : ∃ k a b, oD d0 k a b := ⟨_, _, _, rfl, rfl, rfl⟩
    have d7 := hr.2.2.2.2.2.2.1
    by_cases hB : oB d0
    · have hk := oB_k hB hd
      rw [rLay_b hB hd] at ly
      rw [oOk_b hB hd] at ok
      rw [tS_b hB] at hs ⊢
      obtain ⟨it, oky, okr⟩ := ok
      obtain ⟨ly1, ly2, ly3, ly4⟩ := ly
      by_cases ov : S.ov = 0
      · have e41 := hf.1
        rw [if_pos ov] at e41
        refine vP_hv (fun hv => qr_da2 hT hO f hv e41 (by omega) ?_)
        have W8 : ∀ g : zH, rDF h g → g 126 ((277 + (9 * (s : Int))) + 8).toNat = (0, ((s + 1 + tS y : Nat) : Int)) := fun g b5 => by
          rw [show ((277 + (9 * (s : Int))) + 8).toNat = 0 + 285 + 9 * s from by omega]
          exact ((hf0.trans b5) 126 _ (by omega)).trans ly2
        have nx : ∀ (S' : RuS) (g : zH), ruB S' → pSh S.P S'.P → rR1 S' g → ruF S' g → rDF h g → ev (.branch d0 y r) S = ev r S' → vP D T N 219 19 g [some (2, 121), some (0, f), some (0, ((s + (tS y + tS r + 1) : Nat) : Int)), some (0, (s : Int))] [] Q := fun S' g b1 b2 b3 b4 b5 b6 => by
          rw [b6] at kk
          refine vP_hv (fun hv => qr_da19 hT hO f hv (by omega) (W8 g b5) (fun _ _ => ?_))
          rw [show s + (tS y + tS r + 1) = s + 1 + tS y + tS r from by omega]
          exact rx_ev hT hO r S' (s + 1 + tS y) f g Q okr ly4 (by omega) b1 (sh.trans b2) b3 b4 (hf0.trans b5) (fun g2 c1 c2 c3 => kk g2 c1 c2 (b5.trans c3))
        by_cases d : S.dn = 300
        · have e43 : h 121 43 = (0, 300) := by rw [hS.2.2.1, d]; rfl
          have E : ev (.branch d0 y r) S = ev r (sLeft S) := (ev_3 ov d).trans (ev_ov (S := sLeft S) (by show 2 ≠ 0; decide) r).symm
          refine vP_hv (fun hv => qr_do300 hT hO hv e43 ?_)
          refine nx (sLeft S) (zset (zset h 121 41 (0, 1)) 121 47 (0, 1)) ⟨hr.1, hr.2.1, hr.2.2.1, hr.2.2.2.1, hr.2.2.2.2.1, hr.2.2.2.2.2.1, hr.2.2.2.2.2.2.1, Nat.le_refl 2⟩ pSh.rfl ⟨(hS.1.z1 hr.1.1).z1 hr.1.1, (zset_ne (by decide)).trans ((zset_ne (by decide)).trans hS.2.1), (zset_ne (by decide)).trans ((zset_ne (by decide)).trans hS.2.2.1), (zset_ne (by decide)).trans ((zset_ne (by decide)).trans hS.2.2.2.1), (zset_ne (by decide)).trans ((zset_ne (by decide)).trans hS.2.2.2.2.1), (zset_ne (by decide)).trans ((zset_ne (by decide)).trans hS.2.2.2.2.2)⟩ ⟨(zset_ne (by decide)).trans zset_same, zset_same⟩ (rDF.z (by decide) (rDF.z (by decide) rDF.rfl)) E
        · have dl : S.dn < 300 := by omega
          have E : ev (.branch d0 y r) S = ev r (if k = 19 then evN (ev y) a (sUp S) else evT k a b S.P (ev y (sUp S)) (sUp S)) := ev_b ov d hB hd
          have u := sUp_ok hr dl
          have lb := hr.1.1
          have d1 : rDF h (zset h 121 43 (0, (S.dn : Int) + 1)) := rDF.z (by decide) rDF.rfl
          have rU : rR1 (sUp S) (zset h 121 43 (0, (S.dn : Int) + 1)) := hS.up lb
          have fU : ruF (sUp S) (zset h 121 43 (0, (S.dn : Int) + 1)) := ⟨(zset_ne (by decide)).trans hf.1, (zset_ne (by decide)).trans hf.2⟩
          have ly1' := ly1.z hf0
          rw [← sh.1] at ly1'
          obtain ⟨w0, w1, _⟩ := rIt.f (o := 0) ly1'
          -- the body, called
          have body : ∀ (S1 : RuS) (g : zH) (Q' : zR → Prop), ruB S1 → pSh S.P S1.P → rR1 S1 g → ruF S1 g → rDF h g → (∀ g2 : zH, rR1 (ev y S1) g2 → ruF (ev y S1) g2 → rDF g g2 → Q' (g2, none)) → vP D T N 219 0 g [some (2, 121), some (0, ((s : Int) + 1)), some (0, ((s + 1 + tS y : Nat) : Int)), none] [] Q' := fun S1 g Q' b1 b2 b3 b4 b5 b6 => vP_hv (fun hv => qr_da0 (s := s + 1) (u := s + 1 + tS y) hT hO hv (rx_ev hT hO y S1 (s + 1) ((s + 1 : Nat) : Int) g Q' oky ly3 (by omega) b1 (sh.trans b2) b3 b4 (hf0.trans b5) b6))
          by_cases k9 : k = 19
          · subst k9
            obtain ⟨a1, a99⟩ := it.2.2.2.2.2.1 rfl
            rw [if_pos rfl] at E
            have W1 : ∀ g : zH, rDF h g → g 126 ((277 + (9 * (s : Int))) + 1).toNat = (0, (a : Int)) := fun g b5 => (b5 126 _ (by omega)).trans (w1 (by decide))
            -- j turns more, i done
            have L : ∀ (j i : Nat) (S1 : RuS) (g : zH), i + j = a → ruB S1 → pSh S.P S1.P → rR1 S1 g → ruF S1 g → rDF h g → evN (ev y) a (sUp S) = evN (ev y) j S1 → vP D T N 220 120 g [some (2, 121), some (0, (s : Int)), some (0, (277 + (9 * (s : Int)))), some (0, 8), some (0, (i : Int))] [] (fun r1 => vP D T N 219 19 r1.1 [some (2, 121), some (0, f), some (0, ((s + (tS y + tS r + 1) : Nat) : Int)), some (0, (s : Int))] (zpush r1.2 []) Q) := by
              intro j
              induction j with
              | zero =>
                intro i S1 g hi b1 b2 b3 b4 b5 b6
                have : i = a := hi
                subst this
                exact vP_hv (fun hv => qr_do120x hT hO hv (by omega) (W1 g b5) (fun _ _ => nx S1 g b1 b2 b3 b4 b5 (by rw [E, b6]; rfl)))
              | succ j ihj =>
                intro i S1 g hi b1 b2 b3 b4 b5 b6
                by_cases o1 : S1.ov = 0
                · have e41' := b4.1
                  rw [if_pos o1] at e41'
                  refine vP_hv (fun hv => qr_do120 hT hO hv (by omega) (W1 g b5) (W8 g b5) e41' (by omega) (fun _ _ _ _ => ?_))
                  refine body S1 g _ b1 b2 b3 b4 b5 (fun g2 c1 c2 c3 => ?_)
                  obtain ⟨v1, v2, _⟩ := ev_ok y S1 oky b1 (sh.trans b2)
                  refine vP_hv (fun hv => qr_do156 hT hO hv (by omega) ?_)
                  exact ihj (i + 1) (ev y S1) g2 (by omega) v1 (b2.trans v2) c1 c2 (b5.trans c3) (by rw [b6]; rfl)
                · have e41' := b4.1
                  rw [if_neg o1] at e41'
                  have q := nx S1 g b1 b2 b3 b4 b5 (by rw [E, b6, evN_ov o1 y (j + 1)])
                  exact vP_hv (fun hv => qr_do120o hT hO hv (by omega) (W1 g b5) e41' (fun _ _ _ => q) (fun _ _ _ => q))
            refine vP_hv (fun hv => qr_do8 hT hO hv hS.2.2.1 (by omega) dl (by omega) w0 (fun _ _ => ?_))
            exact L a 0 (sUp S) _ (Nat.zero_add a) u pSh.rfl rU fU d1 rfl
          · rw [if_neg k9] at E
            have rk : rKd k = 7 := by
              have hk' : k = 16 ∨ k = 17 ∨ k = 18 := by omega
              rcases hk' with rfl | rfl | rfl <;> rfl
            rw [rk] at w0
            refine vP_hv (fun hv => qr_do7 hT hO hv hS.2.2.1 (by omega) dl (by omega) w0 (fun _ _ => ?_))
            refine rx_so hT hO k a b s rU.1 hr.1 (by omega) (sh.it it) (by omega) (ly1'.z d1) (fun c => ?_) (fun c => ?_)
            · have c : sSo k a b S.P := c
              rw [evT_y c] at E
              refine vP_hv (fun hv => qr_do89y hT hO hv (by omega) (W8 _ d1) (fun _ _ => ?_))
              refine body (sUp S) _ _ u pSh.rfl rU fU d1 (fun g2 c1 c2 c3 => ?_)
              obtain ⟨v1, v2, _⟩ := ev_ok y (sUp S) oky u sh
              exact vP_hv (fun hv => qr_do108 hT hO hv (nx (ev y (sUp S)) g2 v1 v2 c1 c2 (d1.trans c3) E))
            · have c : ¬ sSo k a b S.P := c
              rw [evT_n c] at E
              exact vP_hv (fun hv => qr_do89n hT hO hv (nx (sUp S) _ u pSh.rfl rU fU d1 E))
      · have e41 := hf.1
        rw [if_neg ov] at e41
        rw [ev_ov ov] at kk
        have q := kk h hS hf rDF.rfl
        exact vP_hv (fun hv => qr_da2o hT hO f hv e41 (fun _ => q) (fun _ => q))
    · rw [rLay_a hB hd] at ly
      rw [oOk_a hB hd] at ok
      rw [tS_a hB] at hs ⊢
      obtain ⟨hk, it, okr⟩ := ok
      obtain ⟨ly1, ly2, ly3⟩ := ly
      by_cases ov : S.ov = 0
      · have e41 := hf.1
        rw [if_pos ov] at e41
        refine vP_hv (fun hv => qr_da2 hT hO f hv e41 (by omega) ?_)
        -- behind the step
        have nx : ∀ (S' : RuS) (g : zH), ruB S' → pSh S.P S'.P → rR1 S' g → ruF S' g → rDF h g → ev (.branch d0 y r) S = ev r S' → vP D T N 219 19 g [some (2, 121), some (0, f), some (0, ((s + (tS r + 1) : Nat) : Int)), some (0, (s : Int))] [] Q := fun S' g b1 b2 b3 b4 b5 b6 => by
          have w8 : g 126 ((277 + (9 * (s : Int))) + 8).toNat = (0, ((s + 1 : Nat) : Int)) := by
            rw [show ((277 + (9 * (s : Int))) + 8).toNat = 0 + 285 + 9 * s from by omega]
            exact ((hf0.trans b5) 126 _ (by omega)).trans ly2
          rw [b6] at kk
          refine vP_hv (fun hv => qr_da19 hT hO f hv (by omega) w8 (fun _ _ => ?_))
          rw [show s + (tS r + 1) = s + 1 + tS r from by omega]
          exact rx_ev hT hO r S' (s + 1) f g Q okr ly3 (by omega) b1 (sh.trans b2) b3 b4 (hf0.trans b5) (fun g2 c1 c2 c3 => kk g2 c1 c2 (b5.trans c3))
        by_cases d : S.dn = 300
        · have e43 : h 121 43 = (0, 300) := by rw [hS.2.2.1, d]; rfl
          have E : ev (.branch d0 y r) S = ev r (sLeft S) := (ev_3 ov d).trans (ev_ov (S := sLeft S) (by show 2 ≠ 0; decide) r).symm
          refine vP_hv (fun hv => qr_do300 hT hO hv e43 ?_)
          refine nx (sLeft S) (zset (zset h 121 41 (0, 1)) 121 47 (0, 1)) ⟨hr.1, hr.2.1, hr.2.2.1, hr.2.2.2.1, hr.2.2.2.2.1, hr.2.2.2.2.2.1, hr.2.2.2.2.2.2.1, Nat.le_refl 2⟩ pSh.rfl ⟨(hS.1.z1 hr.1.1).z1 hr.1.1, (zset_ne (by decide)).trans ((zset_ne (by decide)).trans hS.2.1), (zset_ne (by decide)).trans ((zset_ne (by decide)).trans hS.2.2.1), (zset_ne (by decide)).trans ((zset_ne (by decide)).trans hS.2.2.2.1), (zset_ne (by decide)).trans ((zset_ne (by decide)).trans hS.2.2.2.2.1), (zset_ne (by decide)).trans ((zset_ne (by decide)).trans hS.2.2.2.2.2)⟩ ⟨(zset_ne (by decide)).trans zset_same, zset_same⟩ (rDF.z (by decide) (rDF.z (by decide) rDF.rfl)) E
        · have dl : S.dn < 300 := by omega
          have E : ev (.branch d0 y r) S = ev r (sDo k a b (sUp S)) := ev_a ov d hB hd
          obtain ⟨q1, q2, q3, q4⟩ := sDo_ok (a := a) (b := b) hr dl hk (sh.it it)
          have ly1' := ly1.z hf0
          rw [← sh.1] at ly1'
          exact rx_act hT hO k a b s hS hr dl ov hf hk (sh.it it) (by omega) ly1' (fun g g1 g2 g3 => nx _ g q1 q2 g1 g2 g3 E)
      · have e41 := hf.1
        rw [if_neg ov] at e41
        rw [ev_ov ov] at kk
        have q := kk h hS hf rDF.rfl
        exact vP_hv (fun hv => qr_da2o hT hO f hv e41 (fun _ => q) (fun _ => q))
/-- runs(): the whole -/
theorem rx_runW {D : zD} {T : zT} (hT : hTab T) (hO : vOK T) {N : Nat} {h : zH} {Q : zR → Prop} {P : PT} {t : OT} (seed : Nat) (hsd : seed ≤ 9999) (hR : rBk 0 P h) (hb : fB P) (hw : 1 ≤ P 0 0 ∧ 1 ≤ P 0 1) (ok : oOk P t) (ly : rLay 0 (P 0 0).toNat h t 0) (hs : tS t ≤ 30) (e6 : h 126 276 = (0, (tS t : Int))) (kk : ∀ g : zH, rR1 (ev t (runS P seed)) g → ruF (ev t (runS P seed)) g → rDF h g → Q (g, none)) : vP D T N 308 0 h [some (2, 121), some (0, (seed : Int))] [] Q := by
  refine vP_hv (fun hv => qr_ru0 hT hO _ hv e6 ?_)
  have F : rDF h (zset (zset (zset (zset (zset (zset (zset h 121 42 (0, (seed : Int))) 121 43 (0, 0)) 121 44 (0, 0)) 121 45 (0, 0)) 121 46 (0, 0)) 121 47 (0, 0)) 121 41 (0, 0)) := rDF.z (by decide) (rDF.z (by decide) (rDF.z (by decide) (rDF.z (by decide) (rDF.z (by decide) (rDF.z (by decide) (rDF.z (by decide) rDF.rfl))))))
  refine vP_hv (fun hv => qr_da0 (s := 0) (u := tS t) hT hO hv ?_)
  have go := rx_ev (D := D) hT hO (N := N) (P0 := P) (h0 := h) t (runS P seed) 0 0 (zset (zset (zset (zset (zset (zset (zset h 121 42 (0, (seed : Int))) 121 43 (0, 0)) 121 44 (0, 0)) 121 45 (0, 0)) 121 46 (0, 0)) 121 47 (0, 0)) 121 41 (0, 0)) (fun r1 => vP D T N 308 48 r1.1 [some (2, 121), some (0, (seed : Int))] (zpush r1.2 []) Q) ok ly (by omega) (runS_B hb hw hsd) pSh.rfl ⟨((((((hR.z1 hb.1).z1 hb.1).z1 hb.1).z1 hb.1).z1 hb.1).z1 hb.1).z1 hb.1, (zset_ne (by decide)).trans ((zset_ne (by decide)).trans ((zset_ne (by decide)).trans ((zset_ne (by decide)).trans ((zset_ne (by decide)).trans ((zset_ne (by decide)).trans zset_same))))), (zset_ne (by decide)).trans ((zset_ne (by decide)).trans ((zset_ne (by decide)).trans ((zset_ne (by decide)).trans ((zset_ne (by decide)).trans zset_same)))), (zset_ne (by decide)).trans ((zset_ne (by decide)).trans ((zset_ne (by decide)).trans ((zset_ne (by decide)).trans zset_same))), (zset_ne (by decide)).trans ((zset_ne (by decide)).trans ((zset_ne (by decide)).trans zset_same)), (zset_ne (by decide)).trans ((zset_ne (by decide)).trans zset_same)⟩ ⟨zset_same, (zset_ne (by decide)).trans zset_same⟩ F (fun g g1 g2 g3 => vP_hv (fun hv => qr_ru48 hT hO _ hv (kk g g1 g2 (F.trans g3))))
  rw [Nat.zero_add] at go
  exact go
