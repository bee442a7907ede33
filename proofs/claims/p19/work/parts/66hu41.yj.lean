theorem qr_ct0 {D : zD} {T : zT} (hT : hTab T) (hO : vOK T) {N : Nat} {h : zH} {Q : zR → Prop} {m : Nat} (f c : Int) (hv0 : zHv h)
    (k0 : vP D T N 210 0 h [some (2, 121), some (0, (m : Int))] [] (fun r1 => vP D T N 218 5 r1.1 [some (2, 121), some (0, (m : Int)), some (0, f), some (0, c), none, none, none, none] (zpush r1.2 []) Q)) :
    vP D T N 218 0 h [some (2, 121), some (0, (m : Int)), some (0, f), some (0, c), none, none, none, none] [] Q := by
  refine v_load (v := (2, 121)) (hz_X12_cutsOff hT _ _ rfl) rfl rfl ?_
  refine v_load (v := (0, (m : Int))) (hz_X12_cutsOff hT _ _ rfl) rfl rfl ?_
  refine v_call (w := 2) [some (2, 121), some (0, (m : Int))] hO (hz_X12_cutsOff hT _ _ rfl) rfl rfl ?_
  exact k0 
theorem qr_ct5f {D : zD} {T : zT} (hT : hTab T) (hO : vOK T) {N : Nat} {h : zH} {Q : zR → Prop} {m : Nat} (f c : Int) (hv0 : zHv h)
    (k0 : Q (h, some (0, 1))) :
    vP D T N 218 5 h [some (2, 121), some (0, (m : Int)), some (0, f), some (0, c), none, none, none, none] [(0, 1000000)] Q := by
  refine v_push (1000000) (hz_X12_cutsOff hT _ _ rfl) rfl ?_
  refine v_ic (hz_X12_cutsOff hT _ _ rfl) (fun _ => ?_) (fun hc1 => absurd (show (1000000 : Int) = 1000000 from (by omega)) hc1)
  refine v_push (1) (hz_X12_cutsOff hT _ _ rfl) rfl ?_
  refine v_ret (hz_X12_cutsOff hT _ _ rfl) (Or.inl rfl) ?_
  exact k0 
theorem qr_ct5z {D : zD} {T : zT} (hT : hTab T) (hO : vOK T) {N : Nat} {h : zH} {Q : zR → Prop} {m : Nat} (f p : Int) (hv0 : zHv h) (hp : p ≠ 1000000)
    (k0 : Q (h, some (0, 0))) :
    vP D T N 218 5 h [some (2, 121), some (0, (m : Int)), some (0, f), some (0, 0), none, none, none, none] [(0, p)] Q := by
  refine v_push (1000000) (hz_X12_cutsOff hT _ _ rfl) rfl ?_
  refine v_ic (hz_X12_cutsOff hT _ _ rfl) (fun hc1 => absurd (show p = 1000000 from hc1) hp) (fun _ => ?_)
  refine v_load (v := (0, 0)) (hz_X12_cutsOff hT _ _ rfl) rfl rfl ?_
  refine v_if (hz_X12_cutsOff hT _ _ rfl) (fun _ => ?_) (fun hc2 => absurd (show (0 : Int) = 0 from (by omega)) hc2)
  refine v_push (0) (hz_X12_cutsOff hT _ _ rfl) rfl ?_
  refine v_ret (hz_X12_cutsOff hT _ _ rfl) (Or.inl rfl) ?_
  exact k0 
theorem qr_ct5 {D : zD} {T : zT} (hT : hTab T) (hO : vOK T) {N : Nat} {h : zH} {Q : zR → Prop} {P : PT} {m c : Nat} (f p : Int) (hv0 : zHv h) (hp : p ≠ 1000000) (m6 : m < 6) (eb : h 126 (263 + (m : Int)).toNat = (0, P 8 m))
    (k0 : (0 ≤ (263 + (m : Int))) → ((263 + (m : Int)) < 2750) → vP D T N 218 34 h [some (2, 121), some (0, (m : Int)), some (0, f), some (0, ((c + 1 : Nat) : Int)), some (0, (P 8 m)), some (0, f), none, none] [] Q) :
    vP D T N 218 5 h [some (2, 121), some (0, (m : Int)), some (0, f), some (0, ((c + 1 : Nat) : Int)), none, none, none, none] [(0, p)] Q := by
  refine v_push (1000000) (hz_X12_cutsOff hT _ _ rfl) rfl ?_
  refine v_ic (hz_X12_cutsOff hT _ _ rfl) (fun hc1 => absurd (show p = 1000000 from hc1) hp) (fun _ => ?_)
  refine v_load (v := (0, ((c + 1 : Nat) : Int))) (hz_X12_cutsOff hT _ _ rfl) rfl rfl ?_
  refine v_if (hz_X12_cutsOff hT _ _ rfl) (fun hc2 => absurd (show ((c + 1 : Nat) : Int) = 0 from hc2) (by omega)) (fun _ => ?_)
  refine v_load (v := (2, 121)) (hz_X12_cutsOff hT _ _ rfl) rfl rfl ?_
  refine v_getR (c := 126) (r := 121) (hz_X12_cutsOff hT _ _ rfl) rfl rfl rfl ?_
  refine v_push (263) (hz_X12_cutsOff hT _ _ rfl) rfl ?_
  refine v_load (v := (0, (m : Int))) (hz_X12_cutsOff hT _ _ rfl) rfl rfl ?_
  refine v_bin (w := (263 + (m : Int))) (hz_X12_cutsOff hT _ _ rfl) (hq_add (by omega) (by omega)) ?_
  refine v_aldB (t := 0) (r := 126) (w := (P 8 m)) (hz_X12_cutsOff hT _ _ rfl) rfl rfl rfl (fun _ _ => (congrArg Prod.snd eb)) (fun ha3 hb4 => ?_)
  refine v_store1 [some (2, 121), some (0, (m : Int)), some (0, f), some (0, ((c + 1 : Nat) : Int)), some (0, (P 8 m)), none, none, none] (hz_X12_cutsOff hT _ _ rfl) ⟨rfl, Nat.ne_of_beq_eq_false rfl⟩ (Nat.le_of_ble_eq_true rfl) rfl ?_
  refine v_load (v := (0, f)) (hz_X12_cutsOff hT _ _ rfl) rfl rfl ?_
  refine v_store1 [some (2, 121), some (0, (m : Int)), some (0, f), some (0, ((c + 1 : Nat) : Int)), some (0, (P 8 m)), some (0, f), none, none] (hz_X12_cutsOff hT _ _ rfl) ⟨rfl, Nat.ne_of_beq_eq_false rfl⟩ (Nat.le_of_ble_eq_true rfl) rfl ?_
  exact k0 ha3 hb4
theorem qr_ct34 {D : zD} {T : zT} (hT : hTab T) (hO : vOK T) {N : Nat} {h : zH} {Q : zR → Prop} {P : PT} {m c j q : Nat} (f : Int) (o6 o7 : Option zV) (hv0 : zHv h) (hR : rBk 0 P h) (hb : fB P) (m6 : m < 6) (c3 : c < 3) (ea : h 126 (245 + (m : Int)).toNat = (0, ((gJ P (P 6 m).toNat : Nat) : Int))) (eg : h 126 (251 + (m : Int)).toNat = (0, ((gJ P (P 7 m).toNat : Nat) : Int))) (gq : gIn P q) (hq : gJ P q < 48) (hj : j < 3) (hlt : ((gJ P q : Nat) : Int) < ((P 0 0) * (P 0 1)))
    (k0 : (0 ≤ (245 + (m : Int))) → ((245 + (m : Int)) < 2750) → (((gJ P q : Nat) : Int) = ((gJ P (P 6 m).toNat : Nat) : Int)) → vP D T N 218 34 h [some (2, 121), some (0, (m : Int)), some (0, f), some (0, ((c + 1 : Nat) : Int)), some (0, (j : Int)), some (0, (((gJ P q : Nat) : Int) + 1)), o6, o7] [] Q)
    (k1 : (0 ≤ (245 + (m : Int))) → ((245 + (m : Int)) < 2750) → (((gJ P q : Nat) : Int) ≠ ((gJ P (P 6 m).toNat : Nat) : Int)) → (0 ≤ (251 + (m : Int))) → ((251 + (m : Int)) < 2750) → (((gJ P q : Nat) : Int) = ((gJ P (P 7 m).toNat : Nat) : Int)) → vP D T N 218 34 h [some (2, 121), some (0, (m : Int)), some (0, f), some (0, ((c + 1 : Nat) : Int)), some (0, (j : Int)), some (0, (((gJ P q : Nat) : Int) + 1)), o6, o7] [] Q)
    (k2 : (0 ≤ (245 + (m : Int))) → ((245 + (m : Int)) < 2750) → (((gJ P q : Nat) : Int) ≠ ((gJ P (P 6 m).toNat : Nat) : Int)) → (0 ≤ (251 + (m : Int))) → ((251 + (m : Int)) < 2750) → (((gJ P q : Nat) : Int) ≠ ((gJ P (P 7 m).toNat : Nat) : Int)) → ((rCF P ((j : Int)) q) = 1000000) → vP D T N 218 34 h [some (2, 121), some (0, (m : Int)), some (0, f), some (0, ((c + 1 : Nat) : Int)), some (0, (j : Int)), some (0, (((gJ P q : Nat) : Int) + 1)), o6, o7] [] Q)
    (k3 : (0 ≤ (245 + (m : Int))) → ((245 + (m : Int)) < 2750) → (((gJ P q : Nat) : Int) ≠ ((gJ P (P 6 m).toNat : Nat) : Int)) → (0 ≤ (251 + (m : Int))) → ((251 + (m : Int)) < 2750) → (((gJ P q : Nat) : Int) ≠ ((gJ P (P 7 m).toNat : Nat) : Int)) → ((rCF P ((j : Int)) q) ≠ 1000000) → (0 ≤ ((101 + (48 * (j : Int))) + ((gJ P q : Nat) : Int))) → (((101 + (48 * (j : Int))) + ((gJ P q : Nat) : Int)) < 2750) → vP D T N 218 0 (zset h 126 ((((101 + (48 * (j : Int))) + ((gJ P q : Nat) : Int))).toNat) (0, 1)) [some (2, 121), some (0, (m : Int)), some (0, (((gJ P q : Nat) : Int) + 1)), some (0, (((c + 1 : Nat) : Int) - 1)), none, none, none, none] [] (fun r1 => vP D T N 218 125 r1.1 [some (2, 121), some (0, (m : Int)), some (0, f), some (0, ((c + 1 : Nat) : Int)), some (0, (j : Int)), some (0, ((gJ P q : Nat) : Int)), some (0, (P 3 (48 * j + q))), o7] (zpush r1.2 []) Q)) :
    vP D T (N + 1) 218 34 h [some (2, 121), some (0, (m : Int)), some (0, f), some (0, ((c + 1 : Nat) : Int)), some (0, (j : Int)), some (0, ((gJ P q : Nat) : Int)), o6, o7] [] Q := by
  refine v_loadS (v := (0, ((gJ P q : Nat) : Int))) (hz_X12_cutsOff hT _ _ rfl) rfl rfl ?_
  refine v_load (v := (2, 121)) (hz_X12_cutsOff hT _ _ rfl) rfl rfl ?_
  refine v_call (w := 1) [some (2, 121)] hO (hz_X12_cutsOff hT _ _ rfl) rfl rfl (rb_cells hT hO hR.w hR.r hb.1 ?_)
  show vP D T N 218 40 h [some (2, 121), some (0, (m : Int)), some (0, f), some (0, ((c + 1 : Nat) : Int)), some (0, (j : Int)), some (0, ((gJ P q : Nat) : Int)), o6, o7] [(0, ((P 0 0) * (P 0 1))), (0, ((gJ P q : Nat) : Int))] _
  refine v_ic (hz_X12_cutsOff hT _ _ rfl) (fun _ => ?_) (fun hc1 => absurd (show ((gJ P q : Nat) : Int) < ((P 0 0) * (P 0 1)) from hlt) hc1)
  refine v_load (v := (0, ((gJ P q : Nat) : Int))) (hz_X12_cutsOff hT _ _ rfl) rfl rfl ?_
  refine v_load (v := (2, 121)) (hz_X12_cutsOff hT _ _ rfl) rfl rfl ?_
  refine v_getR (c := 126) (r := 121) (hz_X12_cutsOff hT _ _ rfl) rfl rfl rfl ?_
  refine v_push (245) (hz_X12_cutsOff hT _ _ rfl) rfl ?_
  refine v_load (v := (0, (m : Int))) (hz_X12_cutsOff hT _ _ rfl) rfl rfl ?_
  refine v_bin (w := (245 + (m : Int))) (hz_X12_cutsOff hT _ _ rfl) (hq_add (by omega) (by omega)) ?_
  refine v_aldB (t := 0) (r := 126) (w := ((gJ P (P 6 m).toNat : Nat) : Int)) (hz_X12_cutsOff hT _ _ rfl) rfl rfl rfl (fun _ _ => (congrArg Prod.snd ea)) (fun ha2 hb3 => ?_)
  refine v_ic (hz_X12_cutsOff hT _ _ rfl) (fun hc4 => ?_) (fun hc4 => ?_)
  · have hc4 : ((gJ P q : Nat) : Int) = ((gJ P (P 6 m).toNat : Nat) : Int) := hc4
    refine v_iinc (x := ((gJ P q : Nat) : Int)) (u := 1) (w := (((gJ P q : Nat) : Int) + 1)) [some (2, 121), some (0, (m : Int)), some (0, f), some (0, ((c + 1 : Nat) : Int)), some (0, (j : Int)), some (0, (((gJ P q : Nat) : Int) + 1)), o6, o7] (hz_X12_cutsOff hT _ _ rfl) rfl rfl (Nat.le_of_ble_eq_true rfl) (vz_inc (by omega) (by omega)) rfl ?_
    refine v_goto (hz_X12_cutsOff hT _ _ rfl) ?_
    exact k0 ha2 hb3 hc4
  · have hc4 : ((gJ P q : Nat) : Int) ≠ ((gJ P (P 6 m).toNat : Nat) : Int) := hc4
    refine v_load (v := (0, ((gJ P q : Nat) : Int))) (hz_X12_cutsOff hT _ _ rfl) rfl rfl ?_
    refine v_load (v := (2, 121)) (hz_X12_cutsOff hT _ _ rfl) rfl rfl ?_
    refine v_getR (c := 126) (r := 121) (hz_X12_cutsOff hT _ _ rfl) rfl rfl rfl ?_
    refine v_push (251) (hz_X12_cutsOff hT _ _ rfl) rfl ?_
    refine v_load (v := (0, (m : Int))) (hz_X12_cutsOff hT _ _ rfl) rfl rfl ?_
    refine v_bin (w := (251 + (m : Int))) (hz_X12_cutsOff hT _ _ rfl) (hq_add (by omega) (by omega)) ?_
    refine v_aldB (t := 0) (r := 126) (w := ((gJ P (P 7 m).toNat : Nat) : Int)) (hz_X12_cutsOff hT _ _ rfl) rfl rfl rfl (fun _ _ => (congrArg Prod.snd eg)) (fun ha5 hb6 => ?_)
    refine v_ic (hz_X12_cutsOff hT _ _ rfl) (fun hc7 => ?_) (fun hc7 => ?_)
    · have hc7 : ((gJ P q : Nat) : Int) = ((gJ P (P 7 m).toNat : Nat) : Int) := hc7
      refine v_iinc (x := ((gJ P q : Nat) : Int)) (u := 1) (w := (((gJ P q : Nat) : Int) + 1)) [some (2, 121), some (0, (m : Int)), some (0, f), some (0, ((c + 1 : Nat) : Int)), some (0, (j : Int)), some (0, (((gJ P q : Nat) : Int) + 1)), o6, o7] (hz_X12_cutsOff hT _ _ rfl) rfl rfl (Nat.le_of_ble_eq_true rfl) (vz_inc (by omega) (by omega)) rfl ?_
      refine v_goto (hz_X12_cutsOff hT _ _ rfl) ?_
      exact k1 ha2 hb3 hc4 ha5 hb6 hc7
    · have hc7 : ((gJ P q : Nat) : Int) ≠ ((gJ P (P 7 m).toNat : Nat) : Int) := hc7
      refine v_load (v := (2, 121)) (hz_X12_cutsOff hT _ _ rfl) rfl rfl ?_
      refine v_load (v := (0, (j : Int))) (hz_X12_cutsOff hT _ _ rfl) rfl rfl ?_
      refine v_load (v := (0, ((gJ P q : Nat) : Int))) (hz_X12_cutsOff hT _ _ rfl) rfl rfl ?_
      refine v_call (w := 4) [some (2, 121), some (0, (j : Int)), some (0, ((gJ P q : Nat) : Int)), none] hO (hz_X12_cutsOff hT _ _ rfl) rfl rfl (rb_co hT hO ((j : Int)) q (by omega) (by omega) gq hR hb ?_)
      show vP D T N 218 81 h [some (2, 121), some (0, (m : Int)), some (0, f), some (0, ((c + 1 : Nat) : Int)), some (0, (j : Int)), some (0, ((gJ P q : Nat) : Int)), o6, o7] [(0, (rCF P ((j : Int)) q))] _
      refine v_push (1000000) (hz_X12_cutsOff hT _ _ rfl) rfl ?_
      refine v_ic (hz_X12_cutsOff hT _ _ rfl) (fun hc8 => ?_) (fun hc8 => ?_)
      · have hc8 : (rCF P ((j : Int)) q) = 1000000 := hc8
        refine v_goto (hz_X12_cutsOff hT _ _ rfl) ?_
        refine v_iinc (x := ((gJ P q : Nat) : Int)) (u := 1) (w := (((gJ P q : Nat) : Int) + 1)) [some (2, 121), some (0, (m : Int)), some (0, f), some (0, ((c + 1 : Nat) : Int)), some (0, (j : Int)), some (0, (((gJ P q : Nat) : Int) + 1)), o6, o7] (hz_X12_cutsOff hT _ _ rfl) rfl rfl (Nat.le_of_ble_eq_true rfl) (vz_inc (by omega) (by omega)) rfl ?_
        refine v_goto (hz_X12_cutsOff hT _ _ rfl) ?_
        exact k2 ha2 hb3 hc4 ha5 hb6 hc7 hc8
      · have hc8 : (rCF P ((j : Int)) q) ≠ 1000000 := hc8
        refine v_load (v := (2, 121)) (hz_X12_cutsOff hT _ _ rfl) rfl rfl ?_
        refine v_load (v := (0, (j : Int))) (hz_X12_cutsOff hT _ _ rfl) rfl rfl ?_
        refine v_load (v := (0, ((gJ P q : Nat) : Int))) (hz_X12_cutsOff hT _ _ rfl) rfl rfl ?_
        refine v_call (w := 3) [some (2, 121), some (0, (j : Int)), some (0, ((gJ P q : Nat) : Int))] hO (hz_X12_cutsOff hT _ _ rfl) rfl rfl (rb_st hT hO ((j : Int)) j q rfl (by omega) gq hR hb ?_)
        show vP D T N 218 98 h [some (2, 121), some (0, (m : Int)), some (0, f), some (0, ((c + 1 : Nat) : Int)), some (0, (j : Int)), some (0, ((gJ P q : Nat) : Int)), o6, o7] [(0, (P 3 (48 * j + q)))] _
        refine v_store1 [some (2, 121), some (0, (m : Int)), some (0, f), some (0, ((c + 1 : Nat) : Int)), some (0, (j : Int)), some (0, ((gJ P q : Nat) : Int)), some (0, (P 3 (48 * j + q))), o7] (hz_X12_cutsOff hT _ _ rfl) ⟨rfl, Nat.ne_of_beq_eq_false rfl⟩ (Nat.le_of_ble_eq_true rfl) rfl ?_
        refine v_load (v := (2, 121)) (hz_X12_cutsOff hT _ _ rfl) rfl rfl ?_
        refine v_getR (c := 126) (r := 121) (hz_X12_cutsOff hT _ _ rfl) rfl rfl rfl ?_
        refine v_load (v := (0, (j : Int))) (hz_X12_cutsOff hT _ _ rfl) rfl rfl ?_
        refine v_load (v := (0, ((gJ P q : Nat) : Int))) (hz_X12_cutsOff hT _ _ rfl) rfl rfl ?_
        refine v_call (w := 2) [some (0, (j : Int)), some (0, ((gJ P q : Nat) : Int))] hO (hz_X12_cutsOff hT _ _ rfl) rfl rfl ?_
        refine v_push (101) (hz_X12_state hT _ _ rfl) rfl ?_
        refine v_push (48) (hz_X12_state hT _ _ rfl) rfl ?_
        refine v_load (v := (0, (j : Int))) (hz_X12_state hT _ _ rfl) rfl rfl ?_
        refine v_bin (w := (48 * (j : Int))) (hz_X12_state hT _ _ rfl) (hq_mul (by omega) (by omega)) ?_
        refine v_bin (w := (101 + (48 * (j : Int)))) (hz_X12_state hT _ _ rfl) (hq_add (by omega) (by omega)) ?_
        refine v_load (v := (0, ((gJ P q : Nat) : Int))) (hz_X12_state hT _ _ rfl) rfl rfl ?_
        refine v_bin (w := ((101 + (48 * (j : Int))) + ((gJ P q : Nat) : Int))) (hz_X12_state hT _ _ rfl) (hq_add (by omega) (by omega)) ?_
        refine v_ret (hz_X12_state hT _ _ rfl) (Or.inl rfl) ?_
        show vP D T N 218 111 h [some (2, 121), some (0, (m : Int)), some (0, f), some (0, ((c + 1 : Nat) : Int)), some (0, (j : Int)), some (0, ((gJ P q : Nat) : Int)), some (0, (P 3 (48 * j + q))), o7] [(0, ((101 + (48 * (j : Int))) + ((gJ P q : Nat) : Int))), (2, 126)] _
        refine v_push (1) (hz_X12_cutsOff hT _ _ rfl) rfl ?_
        refine v_ast (r := 126) (hz_X12_cutsOff hT _ _ rfl) rfl rfl (fun ha9 hb10 hf11 => ?_)
        refine v_load (v := (2, 121)) (hz_X12_cutsOff hT _ _ rfl) rfl rfl ?_
        refine v_load (v := (0, (m : Int))) (hz_X12_cutsOff hT _ _ rfl) rfl rfl ?_
        refine v_load (v := (0, ((gJ P q : Nat) : Int))) (hz_X12_cutsOff hT _ _ rfl) rfl rfl ?_
        refine v_push (1) (hz_X12_cutsOff hT _ _ rfl) rfl ?_
        refine v_bin (w := (((gJ P q : Nat) : Int) + 1)) (hz_X12_cutsOff hT _ _ rfl) (hq_add (by omega) (by omega)) ?_
        refine v_load (v := (0, ((c + 1 : Nat) : Int))) (hz_X12_cutsOff hT _ _ rfl) rfl rfl ?_
        refine v_push (1) (hz_X12_cutsOff hT _ _ rfl) rfl ?_
        refine v_bin (w := (((c + 1 : Nat) : Int) - 1)) (hz_X12_cutsOff hT _ _ rfl) (hq_sub (by omega) (by omega)) ?_
        refine v_call (w := 8) [some (2, 121), some (0, (m : Int)), some (0, (((gJ P q : Nat) : Int) + 1)), some (0, (((c + 1 : Nat) : Int) - 1)), none, none, none, none] hO (hz_X12_cutsOff hT _ _ rfl) rfl rfl ?_
        exact k3 ha2 hb3 hc4 ha5 hb6 hc7 hc8 ha9 hb10
theorem qr_ct34x {D : zD} {T : zT} (hT : hTab T) (hO : vOK T) {N : Nat} {h : zH} {Q : zR → Prop} {P : PT} {m c j n : Nat} (f : Int) (o6 o7 : Option zV) (hv0 : zHv h) (p0 : h 126 0 = (0, P 0 0)) (p1 : h 126 1 = (0, P 0 1)) (hb : fB P) (hge : ((P 0 0) * (P 0 1)) ≤ (n : Int))
    (k0 : Q (h, some (0, 0))) :
    vP D T (N + 1) 218 34 h [some (2, 121), some (0, (m : Int)), some (0, f), some (0, ((c + 1 : Nat) : Int)), some (0, (j : Int)), some (0, (n : Int)), o6, o7] [] Q := by
  refine v_loadS (v := (0, (n : Int))) (hz_X12_cutsOff hT _ _ rfl) rfl rfl ?_
  refine v_load (v := (2, 121)) (hz_X12_cutsOff hT _ _ rfl) rfl rfl ?_
  refine v_call (w := 1) [some (2, 121)] hO (hz_X12_cutsOff hT _ _ rfl) rfl rfl (rb_cells hT hO p0 p1 hb.1 ?_)
  show vP D T N 218 40 h [some (2, 121), some (0, (m : Int)), some (0, f), some (0, ((c + 1 : Nat) : Int)), some (0, (j : Int)), some (0, (n : Int)), o6, o7] [(0, ((P 0 0) * (P 0 1))), (0, (n : Int))] _
  refine v_ic (hz_X12_cutsOff hT _ _ rfl) (fun hc1 => absurd (show (n : Int) < ((P 0 0) * (P 0 1)) from hc1) (by omega)) (fun _ => ?_)
  refine v_push (0) (hz_X12_cutsOff hT _ _ rfl) rfl ?_
  refine v_ret (hz_X12_cutsOff hT _ _ rfl) (Or.inl rfl) ?_
  exact k0 
theorem qr_ct125_0 {D : zD} {T : zT} (hT : hTab T) (hO : vOK T) {N : Nat} {h : zH} {Q : zR → Prop} {P : PT} {m c j q : Nat} (f w : Int) (o7 : Option zV) (hv0 : zHv h) (hq : gJ P q < 48) (hj : j < 3)
    (k0 : (0 ≤ ((101 + (48 * (j : Int))) + ((gJ P q : Nat) : Int))) → (((101 + (48 * (j : Int))) + ((gJ P q : Nat) : Int)) < 2750) → vP D T N 218 34 (zset h 126 ((((101 + (48 * (j : Int))) + ((gJ P q : Nat) : Int))).toNat) (0, w)) [some (2, 121), some (0, (m : Int)), some (0, f), some (0, ((c + 1 : Nat) : Int)), some (0, (j : Int)), some (0, (((gJ P q : Nat) : Int) + 1)), some (0, w), some (0, 0)] [] Q) :
    vP D T N 218 125 h [some (2, 121), some (0, (m : Int)), some (0, f), some (0, ((c + 1 : Nat) : Int)), some (0, (j : Int)), some (0, ((gJ P q : Nat) : Int)), some (0, w), o7] [(0, 0)] Q := by
  refine v_store1 [some (2, 121), some (0, (m : Int)), some (0, f), some (0, ((c + 1 : Nat) : Int)), some (0, (j : Int)), some (0, ((gJ P q : Nat) : Int)), some (0, w), some (0, 0)] (hz_X12_cutsOff hT _ _ rfl) ⟨rfl, Nat.ne_of_beq_eq_false rfl⟩ (Nat.le_of_ble_eq_true rfl) rfl ?_
  refine v_load (v := (2, 121)) (hz_X12_cutsOff hT _ _ rfl) rfl rfl ?_
  refine v_getR (c := 126) (r := 121) (hz_X12_cutsOff hT _ _ rfl) rfl rfl rfl ?_
  refine v_load (v := (0, (j : Int))) (hz_X12_cutsOff hT _ _ rfl) rfl rfl ?_
  refine v_load (v := (0, ((gJ P q : Nat) : Int))) (hz_X12_cutsOff hT _ _ rfl) rfl rfl ?_
  refine v_call (w := 2) [some (0, (j : Int)), some (0, ((gJ P q : Nat) : Int))] hO (hz_X12_cutsOff hT _ _ rfl) rfl rfl ?_
  refine v_push (101) (hz_X12_state hT _ _ rfl) rfl ?_
  refine v_push (48) (hz_X12_state hT _ _ rfl) rfl ?_
  refine v_load (v := (0, (j : Int))) (hz_X12_state hT _ _ rfl) rfl rfl ?_
  refine v_bin (w := (48 * (j : Int))) (hz_X12_state hT _ _ rfl) (hq_mul (by omega) (by omega)) ?_
  refine v_bin (w := (101 + (48 * (j : Int)))) (hz_X12_state hT _ _ rfl) (hq_add (by omega) (by omega)) ?_
  refine v_load (v := (0, ((gJ P q : Nat) : Int))) (hz_X12_state hT _ _ rfl) rfl rfl ?_
  refine v_bin (w := ((101 + (48 * (j : Int))) + ((gJ P q : Nat) : Int))) (hz_X12_state hT _ _ rfl) (hq_add (by omega) (by omega)) ?_
  refine v_ret (hz_X12_state hT _ _ rfl) (Or.inl rfl) ?_
  show vP D T N 218 138 h [some (2, 121), some (0, (m : Int)), some (0, f), some (0, ((c + 1 : Nat) : Int)), some (0, (j : Int)), some (0, ((gJ P q : Nat) : Int)), some (0, w), some (0, 0)] [(0, ((101 + (48 * (j : Int))) + ((gJ P q : Nat) : Int))), (2, 126)] _
  refine v_load (v := (0, w)) (hz_X12_cutsOff hT _ _ rfl) rfl rfl ?_
  refine v_ast (r := 126) (hz_X12_cutsOff hT _ _ rfl) rfl rfl (fun ha1 hb2 hf3 => ?_)
  refine v_load (v := (0, 0)) (hz_X12_cutsOff hT _ _ rfl) rfl rfl ?_
  refine v_if (hz_X12_cutsOff hT _ _ rfl) (fun _ => ?_) (fun hc4 => absurd (show (0 : Int) = 0 from (by omega)) hc4)
  refine v_iinc (x := ((gJ P q : Nat) : Int)) (u := 1) (w := (((gJ P q : Nat) : Int) + 1)) [some (2, 121), some (0, (m : Int)), some (0, f), some (0, ((c + 1 : Nat) : Int)), some (0, (j : Int)), some (0, (((gJ P q : Nat) : Int) + 1)), some (0, w), some (0, 0)] (hz_X12_cutsOff hT _ _ rfl) rfl rfl (Nat.le_of_ble_eq_true rfl) (vz_inc (by omega) (by omega)) rfl ?_
  refine v_goto (hz_X12_cutsOff hT _ _ rfl) ?_
  exact k0 ha1 hb2
theorem qr_ct125_1 {D : zD} {T : zT} (hT : hTab T) (hO : vOK T) {N : Nat} {h : zH} {Q : zR → Prop} {P : PT} {m c j q : Nat} (f w : Int) (o7 : Option zV) (hv0 : zHv h) (hq : gJ P q < 48) (hj : j < 3)
    (k0 : (0 ≤ ((101 + (48 * (j : Int))) + ((gJ P q : Nat) : Int))) → (((101 + (48 * (j : Int))) + ((gJ P q : Nat) : Int)) < 2750) → Q (zset h 126 ((((101 + (48 * (j : Int))) + ((gJ P q : Nat) : Int))).toNat) (0, w), some (0, 1))) :
    vP D T N 218 125 h [some (2, 121), some (0, (m : Int)), some (0, f), some (0, ((c + 1 : Nat) : Int)), some (0, (j : Int)), some (0, ((gJ P q : Nat) : Int)), some (0, w), o7] [(0, 1)] Q := by
  refine v_store1 [some (2, 121), some (0, (m : Int)), some (0, f), some (0, ((c + 1 : Nat) : Int)), some (0, (j : Int)), some (0, ((gJ P q : Nat) : Int)), some (0, w), some (0, 1)] (hz_X12_cutsOff hT _ _ rfl) ⟨rfl, Nat.ne_of_beq_eq_false rfl⟩ (Nat.le_of_ble_eq_true rfl) rfl ?_
  refine v_load (v := (2, 121)) (hz_X12_cutsOff hT _ _ rfl) rfl rfl ?_
  refine v_getR (c := 126) (r := 121) (hz_X12_cutsOff hT _ _ rfl) rfl rfl rfl ?_
  refine v_load (v := (0, (j : Int))) (hz_X12_cutsOff hT _ _ rfl) rfl rfl ?_
  refine v_load (v := (0, ((gJ P q : Nat) : Int))) (hz_X12_cutsOff hT _ _ rfl) rfl rfl ?_
  refine v_call (w := 2) [some (0, (j : Int)), some (0, ((gJ P q : Nat) : Int))] hO (hz_X12_cutsOff hT _ _ rfl) rfl rfl ?_
  refine v_push (101) (hz_X12_state hT _ _ rfl) rfl ?_
  refine v_push (48) (hz_X12_state hT _ _ rfl) rfl ?_
  refine v_load (v := (0, (j : Int))) (hz_X12_state hT _ _ rfl) rfl rfl ?_
  refine v_bin (w := (48 * (j : Int))) (hz_X12_state hT _ _ rfl) (hq_mul (by omega) (by omega)) ?_
  refine v_bin (w := (101 + (48 * (j : Int)))) (hz_X12_state hT _ _ rfl) (hq_add (by omega) (by omega)) ?_
  refine v_load (v := (0, ((gJ P q : Nat) : Int))) (hz_X12_state hT _ _ rfl) rfl rfl ?_
  refine v_bin (w := ((101 + (48 * (j : Int))) + ((gJ P q : Nat) : Int))) (hz_X12_state hT _ _ rfl) (hq_add (by omega) (by omega)) ?_
  refine v_ret (hz_X12_state hT _ _ rfl) (Or.inl rfl) ?_
  show vP D T N 218 138 h [some (2, 121), some (0, (m : Int)), some (0, f), some (0, ((c + 1 : Nat) : Int)), some (0, (j : Int)), some (0, ((gJ P q : Nat) : Int)), some (0, w), some (0, 1)] [(0, ((101 + (48 * (j : Int))) + ((gJ P q : Nat) : Int))), (2, 126)] _
  refine v_load (v := (0, w)) (hz_X12_cutsOff hT _ _ rfl) rfl rfl ?_
  refine v_ast (r := 126) (hz_X12_cutsOff hT _ _ rfl) rfl rfl (fun ha1 hb2 hf3 => ?_)
  refine v_load (v := (0, 1)) (hz_X12_cutsOff hT _ _ rfl) rfl rfl ?_
  refine v_if (hz_X12_cutsOff hT _ _ rfl) (fun hc4 => absurd (show (1 : Int) = 0 from hc4) (by omega)) (fun _ => ?_)
  refine v_push (1) (hz_X12_cutsOff hT _ _ rfl) rfl ?_
  refine v_ret (hz_X12_cutsOff hT _ _ rfl) (Or.inl rfl) ?_
  exact k0 ha1 hb2
theorem qr_ib0 {D : zD} {T : zT} (hT : hTab T) (hO : vOK T) {N : Nat} {h : zH} {Q : zR → Prop} {P : PT} {a b : Nat} (hv0 : zHv h)
    (k0 : vP D T N 242 2 h [some (2, 121), some (0, ((gJ P a : Nat) : Int)), some (0, ((gJ P b : Nat) : Int)), some (0, 0)] [] Q) :
    vP D T N 242 0 h [some (2, 121), some (0, ((gJ P a : Nat) : Int)), some (0, ((gJ P b : Nat) : Int)), none] [] Q := by
  refine v_push (0) (hz_X12_isBeside hT _ _ rfl) rfl ?_
  refine v_store1 [some (2, 121), some (0, ((gJ P a : Nat) : Int)), some (0, ((gJ P b : Nat) : Int)), some (0, 0)] (hz_X12_isBeside hT _ _ rfl) ⟨rfl, Nat.ne_of_beq_eq_false rfl⟩ (Nat.le_of_ble_eq_true rfl) rfl ?_
  exact k0 
theorem qr_ib2 {D : zD} {T : zT} (hT : hTab T) (hO : vOK T) {N : Nat} {h : zH} {Q : zR → Prop} {P : PT} {a b d : Nat} (hv0 : zHv h) (p0 : h 126 0 = (0, P 0 0)) (p1 : h 126 1 = (0, P 0 1)) (hb : fB P) (ga : gIn P a) (hd : (d : Int) < 4)
    (k0 : (gNb P a d = -1) → (-1 = ((gJ P b : Nat) : Int)) → Q (h, some (0, 1)))
    (k1 : (gNb P a d = -1) → (-1 ≠ ((gJ P b : Nat) : Int)) → vP D T N 242 2 h [some (2, 121), some (0, ((gJ P a : Nat) : Int)), some (0, ((gJ P b : Nat) : Int)), some (0, ((d : Int) + 1))] [] Q)
    (k2 : ∀ (q2 : Nat), (gNb P a d = (q2 : Int)) → (gIn P q2) → (((gJ P q2 : Nat) : Int) = ((gJ P b : Nat) : Int)) → Q (h, some (0, 1)))
    (k3 : ∀ (q2 : Nat), (gNb P a d = (q2 : Int)) → (gIn P q2) → (((gJ P q2 : Nat) : Int) ≠ ((gJ P b : Nat) : Int)) → vP D T N 242 2 h [some (2, 121), some (0, ((gJ P a : Nat) : Int)), some (0, ((gJ P b : Nat) : Int)), some (0, ((d : Int) + 1))] [] Q) :
    vP D T (N + 1) 242 2 h [some (2, 121), some (0, ((gJ P a : Nat) : Int)), some (0, ((gJ P b : Nat) : Int)), some (0, (d : Int))] [] Q := by
  refine v_loadS (v := (0, (d : Int))) (hz_X12_isBeside hT _ _ rfl) rfl rfl ?_
  refine v_push (4) (hz_X12_isBeside hT _ _ rfl) rfl ?_
  refine v_ic (hz_X12_isBeside hT _ _ rfl) (fun _ => ?_) (fun hc1 => absurd (show (d : Int) < 4 from hd) hc1)
  refine v_load (v := (2, 121)) (hz_X12_isBeside hT _ _ rfl) rfl rfl ?_
  refine v_load (v := (0, ((gJ P a : Nat) : Int))) (hz_X12_isBeside hT _ _ rfl) rfl rfl ?_
  refine v_load (v := (0, (d : Int))) (hz_X12_isBeside hT _ _ rfl) rfl rfl ?_
  refine v_call (w := 5) [some (2, 121), some (0, ((gJ P a : Nat) : Int)), some (0, (d : Int)), none, none] hO (hz_X12_isBeside hT _ _ rfl) rfl rfl (rb_bes hT hO ((d : Int)) a d rfl ga (by omega) p0 p1 hb.1 (fun en2 => ?_) (fun q2 en2 hg2 => ?_))
  · show vP D T N 242 13 h [some (2, 121), some (0, ((gJ P a : Nat) : Int)), some (0, ((gJ P b : Nat) : Int)), some (0, (d : Int))] [(0, -1)] _
    refine v_load (v := (0, ((gJ P b : Nat) : Int))) (hz_X12_isBeside hT _ _ rfl) rfl rfl ?_
    refine v_ic (hz_X12_isBeside hT _ _ rfl) (fun hc3 => ?_) (fun hc3 => ?_)
    · have hc3 : -1 = ((gJ P b : Nat) : Int) := hc3
      refine v_push (1) (hz_X12_isBeside hT _ _ rfl) rfl ?_
      refine v_ret (hz_X12_isBeside hT _ _ rfl) (Or.inl rfl) ?_
      exact k0 en2 hc3
    · have hc3 : -1 ≠ ((gJ P b : Nat) : Int) := hc3
      refine v_iinc (x := (d : Int)) (u := 1) (w := ((d : Int) + 1)) [some (2, 121), some (0, ((gJ P a : Nat) : Int)), some (0, ((gJ P b : Nat) : Int)), some (0, ((d : Int) + 1))] (hz_X12_isBeside hT _ _ rfl) rfl rfl (Nat.le_of_ble_eq_true rfl) (vz_inc (by omega) (by omega)) rfl ?_
      refine v_goto (hz_X12_isBeside hT _ _ rfl) ?_
      exact k1 en2 hc3
  · show vP D T N 242 13 h [some (2, 121), some (0, ((gJ P a : Nat) : Int)), some (0, ((gJ P b : Nat) : Int)), some (0, (d : Int))] [(0, ((gJ P q2 : Nat) : Int))] _
    refine v_load (v := (0, ((gJ P b : Nat) : Int))) (hz_X12_isBeside hT _ _ rfl) rfl rfl ?_
    refine v_ic (hz_X12_isBeside hT _ _ rfl) (fun hc4 => ?_) (fun hc4 => ?_)
    · have hc4 : ((gJ P q2 : Nat) : Int) = ((gJ P b : Nat) : Int) := hc4
      refine v_push (1) (hz_X12_isBeside hT _ _ rfl) rfl ?_
      refine v_ret (hz_X12_isBeside hT _ _ rfl) (Or.inl rfl) ?_
      exact k2 q2 en2 hg2 hc4
    · have hc4 : ((gJ P q2 : Nat) : Int) ≠ ((gJ P b : Nat) : Int) := hc4
      refine v_iinc (x := (d : Int)) (u := 1) (w := ((d : Int) + 1)) [some (2, 121), some (0, ((gJ P a : Nat) : Int)), some (0, ((gJ P b : Nat) : Int)), some (0, ((d : Int) + 1))] (hz_X12_isBeside hT _ _ rfl) rfl rfl (Nat.le_of_ble_eq_true rfl) (vz_inc (by omega) (by omega)) rfl ?_
      refine v_goto (hz_X12_isBeside hT _ _ rfl) ?_
      exact k3 q2 en2 hg2 hc4
theorem qr_ib4 {D : zD} {T : zT} (hT : hTab T) (hO : vOK T) {N : Nat} {h : zH} {Q : zR → Prop} {P : PT} {a b : Nat} (hv0 : zHv h)
    (k0 : (((gJ P a : Nat) : Int) = ((gJ P b : Nat) : Int)) → Q (h, some (0, 1)))
    (k1 : (((gJ P a : Nat) : Int) ≠ ((gJ P b : Nat) : Int)) → Q (h, some (0, 0))) :
    vP D T (N + 1) 242 2 h [some (2, 121), some (0, ((gJ P a : Nat) : Int)), some (0, ((gJ P b : Nat) : Int)), some (0, 4)] [] Q := by
  refine v_loadS (v := (0, 4)) (hz_X12_isBeside hT _ _ rfl) rfl rfl ?_
  refine v_push (4) (hz_X12_isBeside hT _ _ rfl) rfl ?_
  refine v_ic (hz_X12_isBeside hT _ _ rfl) (fun hc1 => absurd (show (4 : Int) < 4 from hc1) (by omega)) (fun _ => ?_)
  refine v_load (v := (0, ((gJ P a : Nat) : Int))) (hz_X12_isBeside hT _ _ rfl) rfl rfl ?_
  refine v_load (v := (0, ((gJ P b : Nat) : Int))) (hz_X12_isBeside hT _ _ rfl) rfl rfl ?_
  refine v_ic (hz_X12_isBeside hT _ _ rfl) (fun hc2 => ?_) (fun hc2 => ?_)
  · have hc2 : ((gJ P a : Nat) : Int) = ((gJ P b : Nat) : Int) := hc2
    refine v_push (1) (hz_X12_isBeside hT _ _ rfl) rfl ?_
    refine v_goto (hz_X12_isBeside hT _ _ rfl) ?_
    refine v_ret (hz_X12_isBeside hT _ _ rfl) (Or.inl rfl) ?_
    exact k0 hc2
  · have hc2 : ((gJ P a : Nat) : Int) ≠ ((gJ P b : Nat) : Int) := hc2
    refine v_push (0) (hz_X12_isBeside hT _ _ rfl) rfl ?_
    refine v_ret (hz_X12_isBeside hT _ _ rfl) (Or.inl rfl) ?_
    exact k1 hc2
theorem qs_cut0 {D : zD} {T : zT} (hT : hTab T) (hO : vOK T) {N : Nat} {h : zH} {Q : zR → Prop} {P : PT} (x : Int) (hv0 : zHv h) (p0 : h 126 0 = (0, P 0 0)) (p1 : h 126 1 = (0, P 0 1)) (p2 : h 126 2 = (0, P 0 2)) (p3 : h 126 3 = (0, P 0 3)) (lb : (0 ≤ P 0 0 ∧ P 0 0 ≤ 8) ∧ (0 ≤ P 0 1 ∧ P 0 1 ≤ 6) ∧ (0 ≤ P 0 2 ∧ P 0 2 ≤ 3) ∧ (0 ≤ P 0 3 ∧ P 0 3 ≤ 6))
    (k0 : (x < 0) → Q (zset (zset (zset h 121 1 (0, 0)) 121 0 (0, 0)) 121 0 (0, 2), some (0, -1)))
    (k1 : (0 ≤ x) → (((P 0 3) - 1) < x) → Q (zset (zset (zset h 121 1 (0, 0)) 121 0 (0, 0)) 121 0 (0, 2), some (0, -1)))
    (k2 : (0 ≤ x) → (x ≤ ((P 0 3) - 1)) → vP D T N 210 0 (zset (zset h 121 1 (0, 0)) 121 0 (0, 0)) [some (2, 121), some (0, x)] [] (fun r1 => vP D T N 217 29 r1.1 [some (2, 121), some (0, x), none] (zpush r1.2 []) Q)) :
    vP D T N 217 0 h [some (2, 121), some (0, x), none] [] Q := by
  refine v_load (v := (2, 121)) (hz_X12_cut_ hT _ _ rfl) rfl rfl ?_
  refine v_push (0) (hz_X12_cut_ hT _ _ rfl) rfl ?_
  refine v_putf (r := 121) hO (hz_X12_cut_ hT _ _ rfl) rfl (fun hf1 => ?_)
  refine v_load (v := (2, 121)) (hz_X12_cut_ hT _ _ rfl) rfl rfl ?_
  refine v_push (0) (hz_X12_cut_ hT _ _ rfl) rfl ?_
  refine v_putf (r := 121) hO (hz_X12_cut_ hT _ _ rfl) rfl (fun hf2 => ?_)
  refine v_load (v := (2, 121)) (hz_X12_cut_ hT _ _ rfl) rfl rfl ?_
  refine v_load (v := (0, x)) (hz_X12_cut_ hT _ _ rfl) rfl rfl ?_
  refine v_call (w := 2) [some (2, 121), some (0, x)] hO (hz_X12_cut_ hT _ _ rfl) rfl rfl ?_
  refine v_load (v := (0, x)) (hz_X12_isCompanyAt hT _ _ rfl) rfl rfl ?_
  refine v_i2l (hz_X12_isCompanyAt hT _ _ rfl) ?_
  refine v_push (0) (hz_X12_isCompanyAt hT _ _ rfl) rfl ?_
  refine v_load (v := (2, 121)) (hz_X12_isCompanyAt hT _ _ rfl) rfl rfl ?_
  refine v_getR (c := 126) (r := 121) (hz_X12_isCompanyAt hT _ _ rfl) rfl rfl rfl ?_
  refine v_push (3) (hz_X12_isCompanyAt hT _ _ rfl) rfl ?_
  refine v_aldV (v := (0, (P 0 3))) (r := 126) (hz_X12_isCompanyAt hT _ _ rfl) rfl rfl (fun _ _ _ => (Eq.trans (Eq.trans (zset_ne (fun c => absurd c.1 (by decide))) (zset_ne (fun c => absurd c.1 (by decide)))) (p3))) (fun ha3 hb4 => ?_)
  refine v_push (1) (hz_X12_isCompanyAt hT _ _ rfl) rfl ?_
  refine v_bin (w := ((P 0 3) - 1)) (hz_X12_isCompanyAt hT _ _ rfl) (hq_sub (by omega) (by omega)) ?_
  refine v_i2l (hz_X12_isCompanyAt hT _ _ rfl) ?_
  refine v_call (w := 6) [some (1, x), none, some (1, 0), none, some (1, ((P 0 3) - 1)), none] hO (hz_X12_isCompanyAt hT _ _ rfl) rfl rfl ?_
  refine v_load (v := (1, x)) (hz_X12_isIn hT _ _ rfl) rfl rfl ?_
  refine v_load (v := (1, 0)) (hz_X12_isIn hT _ _ rfl) rfl rfl ?_
  refine v_lif (hz_X12_isIn hT _ _ rfl) (hz_X12_isIn hT _ _ rfl) (fun hc5 => ?_) (fun hc5 => ?_)
  · have hc5 : x < 0 := hc5
    refine v_push (0) (hz_X12_isIn hT _ _ rfl) rfl ?_
    refine v_ret (hz_X12_isIn hT _ _ rfl) (Or.inl rfl) ?_
    show vP D T N 246 15 (zset (zset h 121 1 (0, 0)) 121 0 (0, 0)) [some (2, 121), some (0, x)] [(0, 0)] _
    refine v_ret (hz_X12_isCompanyAt hT _ _ rfl) (Or.inl rfl) ?_
    show vP D T N 217 15 (zset (zset h 121 1 (0, 0)) 121 0 (0, 0)) [some (2, 121), some (0, x), none] [(0, 0)] _
    refine v_if (hz_X12_cut_ hT _ _ rfl) (fun _ => ?_) (fun hc6 => absurd (show (0 : Int) = 0 from (by omega)) hc6)
    refine v_load (v := (2, 121)) (hz_X12_cut_ hT _ _ rfl) rfl rfl ?_
    refine v_push (2) (hz_X12_cut_ hT _ _ rfl) rfl ?_
    refine v_call (w := 2) [some (2, 121), some (0, 2)] hO (hz_X12_cut_ hT _ _ rfl) rfl rfl ?_
    refine v_load (v := (2, 121)) (hz_X12_refuse hT _ _ rfl) rfl rfl ?_
    refine v_load (v := (0, 2)) (hz_X12_refuse hT _ _ rfl) rfl rfl ?_
    refine v_putf (r := 121) hO (hz_X12_refuse hT _ _ rfl) rfl (fun hf7 => ?_)
    refine v_push (-1) (hz_X12_refuse hT _ _ rfl) rfl ?_
    refine v_ret (hz_X12_refuse hT _ _ rfl) (Or.inl rfl) ?_
    show vP D T N 217 23 (zset (zset (zset h 121 1 (0, 0)) 121 0 (0, 0)) 121 0 (0, 2)) [some (2, 121), some (0, x), none] [(0, -1)] _
    refine v_ret (hz_X12_cut_ hT _ _ rfl) (Or.inl rfl) ?_
    exact k0 hc5
  · have hc5 : 0 ≤ x := Int.not_lt.mp hc5
    refine v_load (v := (1, x)) (hz_X12_isIn hT _ _ rfl) rfl rfl ?_
    refine v_load (v := (1, ((P 0 3) - 1))) (hz_X12_isIn hT _ _ rfl) rfl rfl ?_
    refine v_lif (hz_X12_isIn hT _ _ rfl) (hz_X12_isIn hT _ _ rfl) (fun hc8 => ?_) (fun hc8 => ?_)
    · have hc8 : ((P 0 3) - 1) < x := hc8
      refine v_push (0) (hz_X12_isIn hT _ _ rfl) rfl ?_
      refine v_ret (hz_X12_isIn hT _ _ rfl) (Or.inl rfl) ?_
      show vP D T N 246 15 (zset (zset h 121 1 (0, 0)) 121 0 (0, 0)) [some (2, 121), some (0, x)] [(0, 0)] _
      refine v_ret (hz_X12_isCompanyAt hT _ _ rfl) (Or.inl rfl) ?_
      show vP D T N 217 15 (zset (zset h 121 1 (0, 0)) 121 0 (0, 0)) [some (2, 121), some (0, x), none] [(0, 0)] _
      refine v_if (hz_X12_cut_ hT _ _ rfl) (fun _ => ?_) (fun hc9 => absurd (show (0 : Int) = 0 from (by omega)) hc9)
      refine v_load (v := (2, 121)) (hz_X12_cut_ hT _ _ rfl) rfl rfl ?_
      refine v_push (2) (hz_X12_cut_ hT _ _ rfl) rfl ?_
      refine v_call (w := 2) [some (2, 121), some (0, 2)] hO (hz_X12_cut_ hT _ _ rfl) rfl rfl ?_
      refine v_load (v := (2, 121)) (hz_X12_refuse hT _ _ rfl) rfl rfl ?_
      refine v_load (v := (0, 2)) (hz_X12_refuse hT _ _ rfl) rfl rfl ?_
      refine v_putf (r := 121) hO (hz_X12_refuse hT _ _ rfl) rfl (fun hf10 => ?_)
      refine v_push (-1) (hz_X12_refuse hT _ _ rfl) rfl ?_
      refine v_ret (hz_X12_refuse hT _ _ rfl) (Or.inl rfl) ?_
      show vP D T N 217 23 (zset (zset (zset h 121 1 (0, 0)) 121 0 (0, 0)) 121 0 (0, 2)) [some (2, 121), some (0, x), none] [(0, -1)] _
      refine v_ret (hz_X12_cut_ hT _ _ rfl) (Or.inl rfl) ?_
      exact k1 hc5 hc8
    · have hc8 : x ≤ ((P 0 3) - 1) := Int.not_lt.mp hc8
      refine v_push (1) (hz_X12_isIn hT _ _ rfl) rfl ?_
      refine v_goto (hz_X12_isIn hT _ _ rfl) ?_
      refine v_ret (hz_X12_isIn hT _ _ rfl) (Or.inl rfl) ?_
      show vP D T N 246 15 (zset (zset h 121 1 (0, 0)) 121 0 (0, 0)) [some (2, 121), some (0, x)] [(0, 1)] _
      refine v_ret (hz_X12_isCompanyAt hT _ _ rfl) (Or.inl rfl) ?_
      show vP D T N 217 15 (zset (zset h 121 1 (0, 0)) 121 0 (0, 0)) [some (2, 121), some (0, x), none] [(0, 1)] _
      refine v_if (hz_X12_cut_ hT _ _ rfl) (fun hc11 => absurd (show (1 : Int) = 0 from hc11) (by omega)) (fun _ => ?_)
      refine v_load (v := (2, 121)) (hz_X12_cut_ hT _ _ rfl) rfl rfl ?_
      refine v_load (v := (0, x)) (hz_X12_cut_ hT _ _ rfl) rfl rfl ?_
      refine v_call (w := 2) [some (2, 121), some (0, x)] hO (hz_X12_cut_ hT _ _ rfl) rfl rfl ?_
      exact k2 hc5 hc8
theorem qs_cut29f {D : zD} {T : zT} (hT : hTab T) (hO : vOK T) {N : Nat} {h : zH} {Q : zR → Prop} {P : PT} {m : Nat} (hv0 : zHv h)
    (k0 : Q (zset h 121 0 (0, 9), some (0, -1))) :
    vP D T N 217 29 h [some (2, 121), some (0, (m : Int)), none] [(0, 1000000)] Q := by
  refine v_push (1000000) (hz_X12_cut_ hT _ _ rfl) rfl ?_
  refine v_ic (hz_X12_cut_ hT _ _ rfl) (fun _ => ?_) (fun hc1 => absurd (show (1000000 : Int) = 1000000 from (by omega)) hc1)
  refine v_load (v := (2, 121)) (hz_X12_cut_ hT _ _ rfl) rfl rfl ?_
  refine v_push (9) (hz_X12_cut_ hT _ _ rfl) rfl ?_
  refine v_call (w := 2) [some (2, 121), some (0, 9)] hO (hz_X12_cut_ hT _ _ rfl) rfl rfl ?_
  refine v_load (v := (2, 121)) (hz_X12_refuse hT _ _ rfl) rfl rfl ?_
  refine v_load (v := (0, 9)) (hz_X12_refuse hT _ _ rfl) rfl rfl ?_
  refine v_putf (r := 121) hO (hz_X12_refuse hT _ _ rfl) rfl (fun hf2 => ?_)
  refine v_push (-1) (hz_X12_refuse hT _ _ rfl) rfl ?_
  refine v_ret (hz_X12_refuse hT _ _ rfl) (Or.inl rfl) ?_
  show vP D T N 217 68 (zset h 121 0 (0, 9)) [some (2, 121), some (0, (m : Int)), none] [(0, -1)] _
  refine v_ret (hz_X12_cut_ hT _ _ rfl) (Or.inl rfl) ?_
  exact k0 
theorem qs_cut29 {D : zD} {T : zT} (hT : hTab T) (hO : vOK T) {N : Nat} {h : zH} {Q : zR → Prop} {P : PT} {m : Nat} (p : Int) (hv0 : zHv h) (hp : p ≠ 1000000) (m6 : m < 6) (ea : h 126 (245 + (m : Int)).toNat = (0, ((gJ P (P 6 m).toNat : Nat) : Int))) (eg : h 126 (251 + (m : Int)).toNat = (0, ((gJ P (P 7 m).toNat : Nat) : Int)))
    (k0 : (0 ≤ (245 + (m : Int))) → ((245 + (m : Int)) < 2750) → (0 ≤ (251 + (m : Int))) → ((251 + (m : Int)) < 2750) → vP D T N 242 0 h [some (2, 121), some (0, ((gJ P (P 6 m).toNat : Nat) : Int)), some (0, ((gJ P (P 7 m).toNat : Nat) : Int)), none] [] (fun r1 => vP D T N 217 59 r1.1 [some (2, 121), some (0, (m : Int)), none] (zpush r1.2 []) Q)) :
    vP D T N 217 29 h [some (2, 121), some (0, (m : Int)), none] [(0, p)] Q := by
  refine v_push (1000000) (hz_X12_cut_ hT _ _ rfl) rfl ?_
  refine v_ic (hz_X12_cut_ hT _ _ rfl) (fun hc1 => absurd (show p = 1000000 from hc1) hp) (fun _ => ?_)
  refine v_load (v := (2, 121)) (hz_X12_cut_ hT _ _ rfl) rfl rfl ?_
  refine v_load (v := (2, 121)) (hz_X12_cut_ hT _ _ rfl) rfl rfl ?_
  refine v_getR (c := 126) (r := 121) (hz_X12_cut_ hT _ _ rfl) rfl rfl rfl ?_
  refine v_push (245) (hz_X12_cut_ hT _ _ rfl) rfl ?_
  refine v_load (v := (0, (m : Int))) (hz_X12_cut_ hT _ _ rfl) rfl rfl ?_
  refine v_bin (w := (245 + (m : Int))) (hz_X12_cut_ hT _ _ rfl) (hq_add (by omega) (by omega)) ?_
  refine v_aldB (t := 0) (r := 126) (w := ((gJ P (P 6 m).toNat : Nat) : Int)) (hz_X12_cut_ hT _ _ rfl) rfl rfl rfl (fun _ _ => (congrArg Prod.snd ea)) (fun ha2 hb3 => ?_)
  refine v_load (v := (2, 121)) (hz_X12_cut_ hT _ _ rfl) rfl rfl ?_
  refine v_getR (c := 126) (r := 121) (hz_X12_cut_ hT _ _ rfl) rfl rfl rfl ?_
  refine v_push (251) (hz_X12_cut_ hT _ _ rfl) rfl ?_
  refine v_load (v := (0, (m : Int))) (hz_X12_cut_ hT _ _ rfl) rfl rfl ?_
  refine v_bin (w := (251 + (m : Int))) (hz_X12_cut_ hT _ _ rfl) (hq_add (by omega) (by omega)) ?_
  refine v_aldB (t := 0) (r := 126) (w := ((gJ P (P 7 m).toNat : Nat) : Int)) (hz_X12_cut_ hT _ _ rfl) rfl rfl rfl (fun _ _ => (congrArg Prod.snd eg)) (fun ha4 hb5 => ?_)
  refine v_call (w := 4) [some (2, 121), some (0, ((gJ P (P 6 m).toNat : Nat) : Int)), some (0, ((gJ P (P 7 m).toNat : Nat) : Int)), none] hO (hz_X12_cut_ hT _ _ rfl) rfl rfl ?_
  exact k0 ha2 hb3 ha4 hb5
theorem qs_cut59_1 {D : zD} {T : zT} (hT : hTab T) (hO : vOK T) {N : Nat} {h : zH} {Q : zR → Prop} {P : PT} {m : Nat} (hv0 : zHv h)
    (k0 : Q (zset h 121 0 (0, 9), some (0, -1))) :
    vP D T N 217 59 h [some (2, 121), some (0, (m : Int)), none] [(0, 1)] Q := by
  refine v_if (hz_X12_cut_ hT _ _ rfl) (fun hc1 => absurd (show (1 : Int) = 0 from hc1) (by omega)) (fun _ => ?_)
  refine v_load (v := (2, 121)) (hz_X12_cut_ hT _ _ rfl) rfl rfl ?_
  refine v_push (9) (hz_X12_cut_ hT _ _ rfl) rfl ?_
  refine v_call (w := 2) [some (2, 121), some (0, 9)] hO (hz_X12_cut_ hT _ _ rfl) rfl rfl ?_
  refine v_load (v := (2, 121)) (hz_X12_refuse hT _ _ rfl) rfl rfl ?_
  refine v_load (v := (0, 9)) (hz_X12_refuse hT _ _ rfl) rfl rfl ?_
  refine v_putf (r := 121) hO (hz_X12_refuse hT _ _ rfl) rfl (fun hf2 => ?_)
  refine v_push (-1) (hz_X12_refuse hT _ _ rfl) rfl ?_
  refine v_ret (hz_X12_refuse hT _ _ rfl) (Or.inl rfl) ?_
  show vP D T N 217 68 (zset h 121 0 (0, 9)) [some (2, 121), some (0, (m : Int)), none] [(0, -1)] _
  refine v_ret (hz_X12_cut_ hT _ _ rfl) (Or.inl rfl) ?_
  exact k0 
theorem qs_cut59_0 {D : zD} {T : zT} (hT : hTab T) (hO : vOK T) {N : Nat} {h : zH} {Q : zR → Prop} {P : PT} {m : Nat} (hv0 : zHv h)
    (k0 : vP D T N 217 71 h [some (2, 121), some (0, (m : Int)), some (0, 1)] [] Q) :
    vP D T N 217 59 h [some (2, 121), some (0, (m : Int)), none] [(0, 0)] Q := by
  refine v_if (hz_X12_cut_ hT _ _ rfl) (fun _ => ?_) (fun hc1 => absurd (show (0 : Int) = 0 from (by omega)) hc1)
  refine v_push (1) (hz_X12_cut_ hT _ _ rfl) rfl ?_
  refine v_store1 [some (2, 121), some (0, (m : Int)), some (0, 1)] (hz_X12_cut_ hT _ _ rfl) ⟨rfl, Nat.ne_of_beq_eq_false rfl⟩ (Nat.le_of_ble_eq_true rfl) rfl ?_
  exact k0 
theorem qs_cut71 {D : zD} {T : zT} (hT : hTab T) (hO : vOK T) {N : Nat} {h : zH} {Q : zR → Prop} {P : PT} {m : Nat} {n : Nat} (hv0 : zHv h) (hn : (n : Int) < 4)
    (k0 : vP D T N 218 0 h [some (2, 121), some (0, (m : Int)), some (0, 0), some (0, (n : Int)), none, none, none, none] [] (fun r1 => vP D T N 217 83 r1.1 [some (2, 121), some (0, (m : Int)), some (0, (n : Int))] (zpush r1.2 []) Q)) :
    vP D T (N + 1) 217 71 h [some (2, 121), some (0, (m : Int)), some (0, (n : Int))] [] Q := by
  refine v_loadS (v := (0, (n : Int))) (hz_X12_cut_ hT _ _ rfl) rfl rfl ?_
  refine v_push (4) (hz_X12_cut_ hT _ _ rfl) rfl ?_
  refine v_ic (hz_X12_cut_ hT _ _ rfl) (fun _ => ?_) (fun hc1 => absurd (show (n : Int) < 4 from hn) hc1)
  refine v_load (v := (2, 121)) (hz_X12_cut_ hT _ _ rfl) rfl rfl ?_
  refine v_load (v := (0, (m : Int))) (hz_X12_cut_ hT _ _ rfl) rfl rfl ?_
  refine v_push (0) (hz_X12_cut_ hT _ _ rfl) rfl ?_
  refine v_load (v := (0, (n : Int))) (hz_X12_cut_ hT _ _ rfl) rfl rfl ?_
  refine v_call (w := 8) [some (2, 121), some (0, (m : Int)), some (0, 0), some (0, (n : Int)), none, none, none, none] hO (hz_X12_cut_ hT _ _ rfl) rfl rfl ?_
  exact k0 
theorem qs_cut83_1 {D : zD} {T : zT} (hT : hTab T) (hO : vOK T) {N : Nat} {h : zH} {Q : zR → Prop} {P : PT} {m : Nat} {n : Nat} (hv0 : zHv h)
    (k0 : Q (h, some (0, (n : Int)))) :
    vP D T N 217 83 h [some (2, 121), some (0, (m : Int)), some (0, (n : Int))] [(0, 1)] Q := by
  refine v_if (hz_X12_cut_ hT _ _ rfl) (fun hc1 => absurd (show (1 : Int) = 0 from hc1) (by omega)) (fun _ => ?_)
  refine v_load (v := (0, (n : Int))) (hz_X12_cut_ hT _ _ rfl) rfl rfl ?_
  refine v_ret (hz_X12_cut_ hT _ _ rfl) (Or.inl rfl) ?_
  exact k0 
theorem qs_cut83_0 {D : zD} {T : zT} (hT : hTab T) (hO : vOK T) {N : Nat} {h : zH} {Q : zR → Prop} {P : PT} {m : Nat} {n : Nat} (hv0 : zHv h) (hn : (n : Int) < 4)
    (k0 : vP D T N 217 71 h [some (2, 121), some (0, (m : Int)), some (0, ((n : Int) + 1))] [] Q) :
    vP D T N 217 83 h [some (2, 121), some (0, (m : Int)), some (0, (n : Int))] [(0, 0)] Q := by
  refine v_if (hz_X12_cut_ hT _ _ rfl) (fun _ => ?_) (fun hc1 => absurd (show (0 : Int) = 0 from (by omega)) hc1)
  refine v_iinc (x := (n : Int)) (u := 1) (w := ((n : Int) + 1)) [some (2, 121), some (0, (m : Int)), some (0, ((n : Int) + 1))] (hz_X12_cut_ hT _ _ rfl) rfl rfl (Nat.le_of_ble_eq_true rfl) (vz_inc (by omega) (by omega)) rfl ?_
  refine v_goto (hz_X12_cut_ hT _ _ rfl) ?_
  exact k0 
theorem qs_cut71x {D : zD} {T : zT} (hT : hTab T) (hO : vOK T) {N : Nat} {h : zH} {Q : zR → Prop} {P : PT} {m : Nat} (hv0 : zHv h)
    (k0 : Q (h, some (0, 4))) :
    vP D T (N + 1) 217 71 h [some (2, 121), some (0, (m : Int)), some (0, 4)] [] Q := by
  refine v_loadS (v := (0, 4)) (hz_X12_cut_ hT _ _ rfl) rfl rfl ?_
  refine v_push (4) (hz_X12_cut_ hT _ _ rfl) rfl ?_
  refine v_ic (hz_X12_cut_ hT _ _ rfl) (fun hc1 => absurd (show (4 : Int) < 4 from hc1) (by omega)) (fun _ => ?_)
  refine v_push (4) (hz_X12_cut_ hT _ _ rfl) rfl ?_
  refine v_ret (hz_X12_cut_ hT _ _ rfl) (Or.inl rfl) ?_
  exact k0 
/-! cutsOff, isBeside, cut: the reference -/
noncomputable def coT (m : Nat) : Nat → PT → Nat → Prop
  | 0, P, _ => mC P m = -1
  | k + 1, P, n => mC P m = -1 ∨ ∃ i : Nat, n ≤ i ∧ i < (P 0 0).toNat * (P 0 1).toNat ∧ (i ≠ gJ P (P 6 m).toNat ∧ i ≠ gJ P (P 7 m).toNat ∧ rCF P (P 8 m) (gQ P i) ≠ 1000000 ∧ coT m k (pSt P (P 8 m).toNat (gQ P i) 1) (i + 1))
abbrev coA (P : PT) (m k i : Nat) : Prop := i ≠ gJ P (P 6 m).toNat ∧ i ≠ gJ P (P 7 m).toNat ∧ rCF P (P 8 m) (gQ P i) ≠ 1000000 ∧ coT m k (pSt P (P 8 m).toNat (gQ P i) 1) (i + 1)
theorem rx_coL {D : zD} {T : zT} (hT : hTab T) (hO : vOK T) {N : Nat} {Q : zR → Prop} {P : PT} {m c j : Nat} {f : Int} (hb : fB P) (h3 : (m : Int) < P 0 3) (e8 : P 8 m = (j : Int)) (c3 : c < 3)
    (IH : ∀ (P' : PT) (h' : zH) (n' : Nat) (Q' : zR → Prop), rBk 0 P' h' → fB P' → (m : Int) < P' 0 3 → n' ≤ (P' 0 0).toNat * (P' 0 1).toNat → (∀ g : zH, coT m c P' n' → rBk 0 P' g → wqF h' g → Q' (g, some (0, 1))) → (∀ g : zH, ¬ coT m c P' n' → rBk 0 P' g → wqF h' g → Q' (g, some (0, 0))) → vP D T N 218 0 h' [some (2, 121), some (0, (m : Int)), some (0, (n' : Int)), some (0, (c : Int)), none, none, none, none] [] Q') :
    ∀ (r n : Nat) (h : zH) (o6 o7 : Option zV), n + r = (P 0 0).toNat * (P 0 1).toNat → rBk 0 P h → (∀ g : zH, (∃ i : Nat, n ≤ i ∧ i < (P 0 0).toNat * (P 0 1).toNat ∧ coA P m c i) → rBk 0 P g → wqF h g → Q (g, some (0, 1))) → (∀ g : zH, ¬ (∃ i : Nat, n ≤ i ∧ i < (P 0 0).toNat * (P 0 1).toNat ∧ coA P m c i) → rBk 0 P g → wqF h g → Q (g, some (0, 0))) → vP D T N 218 34 h [some (2, 121), some (0, (m : Int)), some (0, f), some (0, ((c + 1 : Nat) : Int)), some (0, (j : Int)), some (0, (n : Int)), o6, o7] [] Q
  | 0, n, h, o6, o7, hn, hR, y, no => by
    have e := wr_i hb.1
    have hn : n = (P 0 0).toNat * (P 0 1).toNat := hn
    exact vP_dn (vP_hv (fun hv => qr_ct34x (P := P) hT hO f o6 o7 hv hR.w hR.r hb (by rw [← e, hn]; exact Int.le_refl _) (no h (fun ⟨i, a, b, _⟩ => by omega) hR wqF.rfl)))
  | r + 1, n, h, o6, o7, hn, hR, y, no => by
    have e := wr_i hb.1
    have lb := hb.1
    have w48 := wr_48 hb.1
    obtain ⟨gq, ej⟩ := gQ_ok hb.1 (n := n) (by omega)
    have lj := gJ_lt lb gq
    have hj : j < 3 := by
      have := (hb.2.2.2 m h3).2.2.2.2
      have := lb.2.2.1.2
      omega
    have m6 : m < 6 := by have := lb.2.2.2.2; omega
    have sk : ¬ coA P m c n → ∀ (h' : zH) (o6 o7 : Option zV), rBk 0 P h' → wqF h h' → vP D T N 218 34 h' [some (2, 121), some (0, (m : Int)), some (0, f), some (0, ((c + 1 : Nat) : Int)), some (0, (j : Int)), some (0, ((n : Int) + 1)), o6, o7] [] Q := fun na h' o6 o7 R' F' => by
      rw [show ((n : Int) + 1) = ((n + 1 : Nat) : Int) from rfl]
      refine rx_coL hT hO hb h3 e8 c3 IH r (n + 1) h' o6 o7 (by omega) R' (fun g d R F => ?_) (fun g d R F => no g ?_ R (F'.trans F))
      · obtain ⟨i, a, b, d⟩ := d
        exact y g ⟨i, by omega, b, d⟩ R (F'.trans F)
      · rintro ⟨i, a, b, d'⟩
        rcases Nat.eq_or_lt_of_le a with q | q
        · subst q; exact na d'
        · exact d ⟨i, q, b, d'⟩
    have go : vP D T N 218 34 h [some (2, 121), some (0, (m : Int)), some (0, f), some (0, ((c + 1 : Nat) : Int)), some (0, (j : Int)), some (0, ((gJ P (gQ P n) : Nat) : Int)), o6, o7] [] Q := by
      refine vP_dn (vP_hv (fun hv => qr_ct34 (P := P) (q := gQ P n) hT hO f o6 o7 hv hR hb m6 c3 (hR.at h3) (hR.go h3) gq lj hj (by rw [ej, ← e]; omega) ?_ ?_ ?_ ?_))
      · intro _ _ d
        rw [ej] at d ⊢
        exact sk (fun a => a.1 (by omega)) h o6 o7 hR wqF.rfl
      · intro _ _ _ _ _ d
        rw [ej] at d ⊢
        exact sk (fun a => a.2.1 (by omega)) h o6 o7 hR wqF.rfl
      · intro _ _ _ _ _ _ d
        rw [ej]
        exact sk (fun a => a.2.2.1 (by rw [e8]; exact d)) h o6 o7 hR wqF.rfl
      · intro _ _ d1 _ _ d2 d3 _ _
        rw [ej] at d1 d2
        rw [show (((c + 1 : Nat) : Int) - 1) = (c : Int) from by omega, show (((gJ P (gQ P n) : Nat) : Int) + 1) = ((n + 1 : Nat) : Int) from by rw [ej]; rfl]
        have R1 := hR.s3 lb hj gq (v := 1)
        have b1 : fB (pSt P j (gQ P n) 1) := hb.s3 (by decide)
        have e8' : (P 8 m).toNat = j := by omega
        have F0 : wqF h (zset h 126 ((101 + (48 * (j : Int))) + ((gJ P (gQ P n) : Nat) : Int)).toNat (0, 1)) := wqF.st lb hj gq
        have back : ∀ g : zH, rBk 0 (pSt P j (gQ P n) 1) g → rBk 0 P (zset g 126 ((101 + (48 * (j : Int))) + ((gJ P (gQ P n) : Nat) : Int)).toNat (0, P 3 (48 * j + gQ P n))) := fun g x => by
          have R2 := x.s3 (show lB (pSt P j (gQ P n) 1) from lb) hj gq (v := P 3 (48 * j + gQ P n))
          rw [pSt_back] at R2
          exact R2
        have A : coT m c (pSt P j (gQ P n) 1) (n + 1) → coA P m c n := fun x => ⟨by omega, by omega, by rw [e8]; exact d3, by rw [e8']; exact x⟩
        have A' : ¬ coT m c (pSt P j (gQ P n) 1) (n + 1) → ¬ coA P m c n := fun x a => x (by have := a.2.2.2; rw [e8'] at this; exact this)
        refine IH (pSt P j (gQ P n) 1) _ (n + 1) _ R1 b1 h3 (show n + 1 ≤ (P 0 0).toNat * (P 0 1).toNat by omega) (fun g x Rg Fg => ?_) (fun g x Rg Fg => ?_)
        · show vP D T N 218 125 g [some (2, 121), some (0, (m : Int)), some (0, f), some (0, ((c + 1 : Nat) : Int)), some (0, (j : Int)), some (0, ((gJ P (gQ P n) : Nat) : Int)), some (0, P 3 (48 * j + gQ P n)), o7] [(0, 1)] Q
          refine vP_hv (fun hv => qr_ct125_1 (P := P) hT hO f _ o7 hv lj hj (fun _ _ => ?_))
          exact y _ ⟨n, Nat.le_refl _, by omega, A x⟩ (back g Rg) ((F0.trans Fg).trans (wqF.st lb hj gq))
        · show vP D T N 218 125 g [some (2, 121), some (0, (m : Int)), some (0, f), some (0, ((c + 1 : Nat) : Int)), some (0, (j : Int)), some (0, ((gJ P (gQ P n) : Nat) : Int)), some (0, P 3 (48 * j + gQ P n)), o7] [(0, 0)] Q
          refine vP_hv (fun hv => qr_ct125_0 (P := P) hT hO f _ o7 hv lj hj (fun _ _ => ?_))
          rw [show (((gJ P (gQ P n) : Nat) : Int) + 1) = ((n : Int) + 1) from by rw [ej]]
          exact sk (A' x) _ _ _ (back g Rg) ((F0.trans Fg).trans (wqF.st lb hj gq))
    rw [ej] at go
    exact go
theorem rx_co {D : zD} {T : zT} (hT : hTab T) (hO : vOK T) {N : Nat} {m : Nat} : ∀ (k : Nat), k ≤ 3 → ∀ (P : PT) (h : zH) (n : Nat) (Q : zR → Prop), rBk 0 P h → fB P → (m : Int) < P 0 3 → n ≤ (P 0 0).toNat * (P 0 1).toNat → (∀ g : zH, coT m k P n → rBk 0 P g → wqF h g → Q (g, some (0, 1))) → (∀ g : zH, ¬ coT m k P n → rBk 0 P g → wqF h g → Q (g, some (0, 0))) → vP D T N 218 0 h [some (2, 121), some (0, (m : Int)), some (0, (n : Int)), some (0, (k : Int)), none, none, none, none] [] Q
  | 0, _, P, h, n, Q, hR, hb, h3, hn, y, no => by
    refine vP_hv (fun hv => qr_ct0 hT hO _ _ hv ?_)
    refine rx_cw hT hO m hR hb h3 (fun g u => ?_)
    have R1 : rBk 0 P g := hR.eq hb.1 (fun b _ _ => u 126 b (by decide))
    have F1 : wqF h g := fun a b hn => u a b (fun e => hn (Or.inl e))
    show vP D T N 218 5 g [some (2, 121), some (0, (m : Int)), some (0, (n : Int)), some (0, 0), none, none, none, none] [(0, cwC P m)] Q
    by_cases w : mC P m = -1
    · rw [show cwC P m = 1000000 from if_pos w]
      exact vP_hv (fun hv => qr_ct5f hT hO _ _ hv (y g w R1 F1))
    · have e : cwC P m = mC P m := if_neg w
      exact vP_hv (fun hv => qr_ct5z hT hO _ _ hv (by rw [e]; have := mC_b hb h3; omega) (no g w R1 F1))
  | k + 1, hk, P, h, n, Q, hR, hb, h3, hn, y, no => by
    refine vP_hv (fun hv => qr_ct0 hT hO _ _ hv ?_)
    refine rx_cw hT hO m hR hb h3 (fun g u => ?_)
    have R1 : rBk 0 P g := hR.eq hb.1 (fun b _ _ => u 126 b (by decide))
    have F1 : wqF h g := fun a b hn => u a b (fun e => hn (Or.inl e))
    show vP D T N 218 5 g [some (2, 121), some (0, (m : Int)), some (0, (n : Int)), some (0, ((k + 1 : Nat) : Int)), none, none, none, none] [(0, cwC P m)] Q
    by_cases w : mC P m = -1
    · rw [show cwC P m = 1000000 from if_pos w]
      exact vP_hv (fun hv => qr_ct5f hT hO _ _ hv (y g (Or.inl w) R1 F1))
    · have e : cwC P m = mC P m := if_neg w
      have m6 : m < 6 := by have := hb.1.2.2.2.2; omega
      refine vP_hv (fun hv => qr_ct5 (P := P) (c := k) hT hO _ _ hv (by rw [e]; have := mC_b hb h3; omega) m6 (R1.by h3) (fun _ _ => ?_))
      obtain ⟨j, e8⟩ : ∃ j : Nat, P 8 m = (j : Int) := ⟨(P 8 m).toNat, by have := (hb.2.2.2 m h3).2.2.2.1; omega⟩
      rw [e8]
      exact rx_coL hT hO hb h3 e8 (by omega) (fun P' h' n' Q' a1 a2 a3 a4 a5 a6 => rx_co hT hO k (by omega) P' h' n' Q' a1 a2 a3 a4 a5 a6) ((P 0 0).toNat * (P 0 1).toNat - n) n g none none (by omega) R1 (fun g2 x r1 f1 => y g2 (Or.inr x) r1 (F1.trans f1)) (fun g2 x r1 f1 => no g2 (fun d => d.elim w x) r1 (F1.trans f1))
abbrev ibD (P : PT) (b d : Nat) (a : Nat) : Prop := ∃ q2 : Nat, gNb P a d = (q2 : Int) ∧ gIn P q2 ∧ gJ P q2 = gJ P b
def ibP (P : PT) (a b n : Nat) : Prop := (∃ d : Nat, n ≤ d ∧ d < 4 ∧ ibD P b d a) ∨ gJ P a = gJ P b
theorem rx_ibL {D : zD} {T : zT} (hT : hTab T) (hO : vOK T) {N : Nat} {Q : zR → Prop} {P : PT} {a b : Nat} {h : zH} (hR : rBk 0 P h) (hb : fB P) (ga : gIn P a) : ∀ (r d : Nat), d + r = 4 → (ibP P a b d → Q (h, some (0, 1))) → (¬ ibP P a b d → Q (h, some (0, 0))) → vP D T N 242 2 h [some (2, 121), some (0, ((gJ P a : Nat) : Int)), some (0, ((gJ P b : Nat) : Int)), some (0, (d : Int))] [] Q
  | 0, d, hd, y, n => by
    obtain rfl : d = 4 := hd
    refine vP_dn (vP_hv (fun hv => qr_ib4 (P := P) (a := a) (b := b) hT hO hv (fun e => y (Or.inr (by omega))) (fun e => n (fun c => ?_))))
    rcases c with ⟨i, c1, c2, _⟩ | c
    · omega
    · omega
  | r + 1, d, hd, y, n => by
    have nx : ¬ ibD P b d a → vP D T N 242 2 h [some (2, 121), some (0, ((gJ P a : Nat) : Int)), some (0, ((gJ P b : Nat) : Int)), some (0, ((d : Int) + 1))] [] Q := fun c => by
      rw [show ((d : Int) + 1) = ((d + 1 : Nat) : Int) from rfl]
      refine rx_ibL hT hO hR hb ga r (d + 1) (by omega) (fun z => y ?_) (fun z => n (fun w => z ?_))
      · rcases z with ⟨i, c1, c2, c3⟩ | z
        · exact Or.inl ⟨i, by omega, c2, c3⟩
        · exact Or.inr z
      · rcases w with ⟨i, c1, c2, c3⟩ | w
        · rcases Nat.eq_or_lt_of_le c1 with q | q
          · subst q; exact absurd c3 c
          · exact Or.inl ⟨i, q, c2, c3⟩
        · exact Or.inr w
    refine vP_dn (vP_hv (fun hv => qr_ib2 (P := P) (a := a) (b := b) (d := d) hT hO hv hR.w hR.r hb ga (by omega) ?_ ?_ ?_ ?_))
    · intro e1 e2
      omega
    · intro e1 e2
      exact nx (by rintro ⟨q2, f1, _, _⟩; omega)
    · intro q2 e1 e2 e3
      exact y (Or.inl ⟨d, Nat.le_refl _, by omega, q2, e1, e2, by omega⟩)
    · intro q2 e1 e2 e3
      exact nx (by
        rintro ⟨q3, f1, _, f3⟩
        have : q3 = q2 := by omega
        subst this
        omega)
theorem rx_ib {D : zD} {T : zT} (hT : hTab T) (hO : vOK T) {N : Nat} {Q : zR → Prop} {P : PT} {a b : Nat} {h : zH} (hR : rBk 0 P h) (hb : fB P) (ga : gIn P a) (y : ibP P a b 0 → Q (h, some (0, 1))) (n : ¬ ibP P a b 0 → Q (h, some (0, 0))) : vP D T N 242 0 h [some (2, 121), some (0, ((gJ P a : Nat) : Int)), some (0, ((gJ P b : Nat) : Int)), none] [] Q :=
  vP_hv (fun hv => qr_ib0 (P := P) (a := a) (b := b) hT hO hv (rx_ibL hT hO hR hb ga 4 0 rfl y n))
/-- what cut answers -/
abbrev okX (P : PT) (x : Int) : Prop := 0 ≤ x ∧ x < P 0 3
def ctV (P : PT) (m : Nat) (v : Int) : Prop := (mC P m = -1 ∧ v = -1) ∨ (mC P m ≠ -1 ∧ ibP P (P 6 m).toNat (P 7 m).toNat 0 ∧ v = -1) ∨ (mC P m ≠ -1 ∧ ¬ ibP P (P 6 m).toNat (P 7 m).toNat 0 ∧ ∃ k : Nat, v = (k : Int) ∧ 1 ≤ k ∧ k ≤ 4 ∧ (∀ i : Nat, 1 ≤ i → i < k → ¬ coT m i P 0) ∧ (k < 4 → coT m k P 0))
theorem rx_ctL {D : zD} {T : zT} (hT : hTab T) (hO : vOK T) {N : Nat} {Q : zR → Prop} {P : PT} {m : Nat} (hb : fB P) (h3 : (m : Int) < P 0 3) : ∀ (r n : Nat) (h : zH), n + r = 4 → 1 ≤ n → rBk 0 P h → (∀ i : Nat, 1 ≤ i → i < n → ¬ coT m i P 0) → (∀ (g : zH) (k : Nat), rBk 0 P g → wqF h g → 1 ≤ k → k ≤ 4 → (∀ i : Nat, 1 ≤ i → i < k → ¬ coT m i P 0) → (k < 4 → coT m k P 0) → Q (g, some (0, (k : Int)))) → vP D T N 217 71 h [some (2, 121), some (0, (m : Int)), some (0, (n : Int))] [] Q
  | 0, n, h, hn, n1, hR, u, k => by
    obtain rfl : n = 4 := hn
    exact vP_dn (vP_hv (fun hv => qs_cut71x (P := P) (m := m) hT hO hv (k h 4 hR wqF.rfl (by omega) (by omega) u (fun q => absurd q (by omega)))))
  | r + 1, n, h, hn, n1, hR, u, k => by
    refine vP_dn (vP_hv (fun hv => qs_cut71 (P := P) (m := m) (n := n) hT hO hv (by omega) ?_))
    refine rx_co hT hO n (by omega) P h 0 _ hR hb h3 (Nat.zero_le _) (fun g x R F => ?_) (fun g x R F => ?_)
    · show vP D T N 217 83 g [some (2, 121), some (0, (m : Int)), some (0, (n : Int))] [(0, 1)] Q
      exact vP_hv (fun hv => qs_cut83_1 (P := P) (m := m) (n := n) hT hO hv (k g n R F n1 (by omega) u (fun _ => x)))
    · show vP D T N 217 83 g [some (2, 121), some (0, (m : Int)), some (0, (n : Int))] [(0, 0)] Q
      refine vP_hv (fun hv => qs_cut83_0 (P := P) (m := m) (n := n) hT hO hv (by omega) ?_)
      rw [show ((n : Int) + 1) = ((n + 1 : Nat) : Int) from rfl]
      refine rx_ctL hT hO hb h3 r (n + 1) g (by omega) (by omega) R (fun i i1 i2 => ?_) (fun g2 k2 R2 F2 => k g2 k2 R2 (F.trans F2))
      rcases Nat.lt_or_ge i n with q | q
      · exact u i i1 q
      · obtain rfl : i = n := by omega
        exact x
theorem rx_cut {D : zD} {T : zT} (hT : hTab T) (hO : vOK T) {N : Nat} {h : zH} {P : PT} (hR : rBk 0 P h) (hb : fB P) (x : Int) : vP D T N 217 0 h [some (2, 121), some (0, x), none] [] (fun r => rBk 0 P r.1 ∧ rSF h r.1 ∧ ((¬ okX P x ∧ r.2 = some (0, -1)) ∨ (okX P x ∧ ∃ v : Int, r.2 = some (0, v) ∧ ctV P x.toNat v))) := by
  have lb := hb.1
  have F2 : rSF h (zset (zset h 121 1 (0, 0)) 121 0 (0, 0)) := fun a b hn => (zset_ne (fun e => hn (by omega))).trans (zset_ne (fun e => hn (by omega)))
  have hR2 : rBk 0 P (zset (zset h 121 1 (0, 0)) 121 0 (0, 0)) := (hR.z1 lb).z1 lb
  have F9 : ∀ (g : zH) (v : zV), rSF h g → rSF h (zset g 121 0 v) := fun g v f a b hn => (zset_ne (fun e => hn (by omega))).trans (f a b hn)
  refine vP_hv (fun hv => qs_cut0 (P := P) hT hO x hv hR.w hR.r hR.c hR.m lb (fun c => ?_) (fun c1 c2 => ?_) (fun c1 c2 => ?_))
  · exact ⟨hR2.z1 lb, F9 _ _ F2, Or.inl ⟨fun d => by have := d.1; omega, rfl⟩⟩
  · exact ⟨hR2.z1 lb, F9 _ _ F2, Or.inl ⟨fun d => by have := d.2; omega, rfl⟩⟩
  obtain ⟨m, rfl⟩ : ∃ m : Nat, x = (m : Int) := ⟨x.toNat, by omega⟩
  have h3 : (m : Int) < P 0 3 := by omega
  have m6 : m < 6 := by have := lb.2.2.2.2; omega
  have ok : okX P (m : Int) := ⟨c1, h3⟩
  have em : ((m : Int)).toNat = m := rfl
  refine rx_cw hT hO m hR2 hb h3 (fun g u => ?_)
  have R1 : rBk 0 P g := hR2.eq lb (fun b _ _ => u 126 b (by decide))
  have F1 : rSF h g := fun a b hn => (u a b (fun e => hn (Or.inl e))).trans (F2 a b hn)
  show vP D T N 217 29 g [some (2, 121), some (0, (m : Int)), none] [(0, cwC P m)] _
  by_cases w : mC P m = -1
  · rw [show cwC P m = 1000000 from if_pos w]
    exact vP_hv (fun hv => qs_cut29f (P := P) (m := m) hT hO hv ⟨R1.z1 lb, F9 _ _ F1, Or.inr ⟨ok, -1, rfl, Or.inl ⟨w, rfl⟩⟩⟩)
  have e : cwC P m = mC P m := if_neg w
  obtain ⟨_, ⟨b6, g6⟩, ⟨b7, g7⟩, _⟩ := hb.2.2.2 m h3
  refine vP_hv (fun hv => qs_cut29 (P := P) (m := m) hT hO _ hv (by rw [e]; have := mC_b hb h3; omega) m6 (R1.at h3) (R1.go h3) (fun _ _ _ _ => ?_))
  refine rx_ib hT hO R1 hb g6 (fun d => ?_) (fun d => ?_)
  · show vP D T N 217 59 g [some (2, 121), some (0, (m : Int)), none] [(0, 1)] _
    exact vP_hv (fun hv => qs_cut59_1 (P := P) (m := m) hT hO hv ⟨R1.z1 lb, F9 _ _ F1, Or.inr ⟨ok, -1, rfl, Or.inr (Or.inl ⟨w, d, rfl⟩)⟩⟩)
  · show vP D T N 217 59 g [some (2, 121), some (0, (m : Int)), none] [(0, 0)] _
    refine vP_hv (fun hv => qs_cut59_0 (P := P) (m := m) hT hO hv ?_)
    refine rx_ctL hT hO hb h3 3 1 g rfl (Nat.le_refl _) R1 (fun i i1 i2 => absurd i2 (by omega)) (fun g2 k R2 F k1 k4 u1 u2 => ⟨R2, fun a b hn => (F a b (fun q => hn (by omega))).trans (F1 a b hn), Or.inr ⟨ok, (k : Int), rfl, Or.inr (Or.inr ⟨w, d, k, rfl, k1, k4, u1, u2⟩)⟩⟩)
theorem fRw_cut {D : zD} (_ : ∀ i, -2147483648 ≤ D.2 i ∧ D.2 i ≤ 2147483647) {h h1 h2 : zH} {x v1 v2 : Int} (hZ : lZ D h) (hZ1 : lZ D h1) (hR : fR h) (z1 : zRun D TLw 614 153 0 (h, zargs 0 [(2, 0), (0, x)], []) (h1, some (0, v1))) (f1 : aFr lM_153 h h1) (z2 : zRun D TLw 614 217 0 (h1, zargs 0 [(2, 121), (0, x)], []) (h2, some (0, v2))) (f2 : aFr lM_217 h1 h2) : fR h2 ∧ True := by
  have k1 : ∀ a k, aIn fpS a k → h1 a k = h a k := fun a k hi => f1.keep (by decide +kernel) hi
  refine ⟨⟨lR_S h h2 (fun a k hi => (f2.keep (by decide +kernel) hi).trans (k1 a k (aIn_l hi))) hR.1, ?_⟩, trivial⟩
  obtain ⟨hM, r, c, s1, s2, s3, P, p1, p2, p3, p4, o⟩ := fX_S k1 hR.2
  obtain ⟨q1, q2, _⟩ := hZ1.run 3 z2 (Q := fun r => rBk 0 P r.1 ∧ rSF h1 r.1 ∧ ((¬ okX P x ∧ r.2 = some (0, -1)) ∨ (okX P x ∧ ∃ v : Int, r.2 = some (0, v) ∧ ctV P x.toNat v))) (fun N => rx_cut TLw_T vOK_T p2 p3 x)
  exact fX_up hM s1 s2 s3 o pSh.rfl (fun a b hf => q2 a b (by unfold fOut at hf; omega)) (p1.eq (fun a b h1 h2 => q2 a b (by have := s1.c2; omega))) q1 p3 p4
