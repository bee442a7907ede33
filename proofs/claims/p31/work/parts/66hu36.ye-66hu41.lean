section
theorem qr_su0 {D : zD} {T : zT} (hT : hTab T) (hO : vOK T) {N : Nat} {h : zH} {Q : zR → Prop} {j : Nat} (hv0 : zHv h)
    (k0 : vP D T N 320 12 (zset (zset h 121 34 (0, 0)) 121 35 (0, 0)) [some (2, 121), some (0, (j : Int)), some (0, 0), none] [] Q) :
    vP D T N 320 0 h [some (2, 121), some (0, (j : Int)), none, none] [] Q := by
  refine v_load (v := (2, 121)) (hz_X12_sums hT _ _ rfl) rfl rfl ?_
  refine v_push (0) (hz_X12_sums hT _ _ rfl) rfl ?_
  refine v_putf (r := 121) hO (hz_X12_sums hT _ _ rfl) rfl (fun hf1 => ?_)
  refine v_load (v := (2, 121)) (hz_X12_sums hT _ _ rfl) rfl rfl ?_
  refine v_push (0) (hz_X12_sums hT _ _ rfl) rfl ?_
  refine v_putf (r := 121) hO (hz_X12_sums hT _ _ rfl) rfl (fun hf2 => ?_)
  refine v_push (0) (hz_X12_sums hT _ _ rfl) rfl ?_
  refine v_store1 [some (2, 121), some (0, (j : Int)), some (0, 0), none] (hz_X12_sums hT _ _ rfl) ⟨rfl, Nat.ne_of_beq_eq_false rfl⟩ (Nat.le_of_ble_eq_true rfl) rfl ?_
  exact k0 
theorem qr_su12 {D : zD} {T : zT} (hT : hTab T) (hO : vOK T) {N : Nat} {h : zH} {Q : zR → Prop} {P : PT} {j m : Nat} (o : Option zV) (hv0 : zHv h) (p3 : h 126 3 = (0, P 0 3)) (eb : h 126 (263 + (m : Int)).toNat = (0, P 8 m)) (hm : (m : Int) < P 0 3) (m6 : m < 6)
    (k0 : (0 ≤ (263 + (m : Int))) → ((263 + (m : Int)) < 2750) → ((P 8 m) = (j : Int)) → vP D T N 210 0 h [some (2, 121), some (0, (m : Int))] [] (fun r1 => vP D T N 320 44 r1.1 [some (2, 121), some (0, (j : Int)), some (0, (m : Int)), o] (zpush r1.2 []) Q))
    (k1 : (0 ≤ (263 + (m : Int))) → ((263 + (m : Int)) < 2750) → ((P 8 m) ≠ (j : Int)) → vP D T N 320 12 h [some (2, 121), some (0, (j : Int)), some (0, ((m : Int) + 1)), o] [] Q) :
    vP D T (N + 1) 320 12 h [some (2, 121), some (0, (j : Int)), some (0, (m : Int)), o] [] Q := by
  refine v_loadS (v := (0, (m : Int))) (hz_X12_sums hT _ _ rfl) rfl rfl ?_
  refine v_load (v := (2, 121)) (hz_X12_sums hT _ _ rfl) rfl rfl ?_
  refine v_getR (c := 126) (r := 121) (hz_X12_sums hT _ _ rfl) rfl rfl rfl ?_
  refine v_push (3) (hz_X12_sums hT _ _ rfl) rfl ?_
  refine v_aldV (v := (0, (P 0 3))) (r := 126) (hz_X12_sums hT _ _ rfl) rfl rfl (fun _ _ _ => p3) (fun ha1 hb2 => ?_)
  refine v_ic (hz_X12_sums hT _ _ rfl) (fun _ => ?_) (fun hc3 => absurd (show (m : Int) < (P 0 3) from hm) hc3)
  refine v_load (v := (2, 121)) (hz_X12_sums hT _ _ rfl) rfl rfl ?_
  refine v_getR (c := 126) (r := 121) (hz_X12_sums hT _ _ rfl) rfl rfl rfl ?_
  refine v_push (263) (hz_X12_sums hT _ _ rfl) rfl ?_
  refine v_load (v := (0, (m : Int))) (hz_X12_sums hT _ _ rfl) rfl rfl ?_
  refine v_bin (w := (263 + (m : Int))) (hz_X12_sums hT _ _ rfl) (hq_add (by omega) (by omega)) ?_
  refine v_aldB (t := 0) (r := 126) (w := (P 8 m)) (hz_X12_sums hT _ _ rfl) rfl rfl rfl (fun _ _ => (congrArg Prod.snd eb)) (fun ha4 hb5 => ?_)
  refine v_load (v := (0, (j : Int))) (hz_X12_sums hT _ _ rfl) rfl rfl ?_
  refine v_ic (hz_X12_sums hT _ _ rfl) (fun hc6 => ?_) (fun hc6 => ?_)
  · have hc6 : (P 8 m) = (j : Int) := hc6
    refine v_load (v := (2, 121)) (hz_X12_sums hT _ _ rfl) rfl rfl ?_
    refine v_load (v := (0, (m : Int))) (hz_X12_sums hT _ _ rfl) rfl rfl ?_
    refine v_call (w := 2) [some (2, 121), some (0, (m : Int))] hO (hz_X12_sums hT _ _ rfl) rfl rfl ?_
    exact k0 ha4 hb5 hc6
  · have hc6 : (P 8 m) ≠ (j : Int) := hc6
    refine v_goto (hz_X12_sums hT _ _ rfl) ?_
    refine v_iinc (x := (m : Int)) (u := 1) (w := ((m : Int) + 1)) [some (2, 121), some (0, (j : Int)), some (0, ((m : Int) + 1)), o] (hz_X12_sums hT _ _ rfl) rfl rfl (Nat.le_of_ble_eq_true rfl) (vz_inc (by omega) (by omega)) rfl ?_
    refine v_goto (hz_X12_sums hT _ _ rfl) ?_
    exact k1 ha4 hb5 hc6
theorem qr_su9 {D : zD} {T : zT} (hT : hTab T) (hO : vOK T) {N : Nat} {h : zH} {Q : zR → Prop} {P : PT} {j m : Nat} (o : Option zV) (hv0 : zHv h) (p3 : h 126 3 = (0, P 0 3)) (hm : P 0 3 ≤ (m : Int))
    (k0 : Q (h, none)) :
    vP D T (N + 1) 320 12 h [some (2, 121), some (0, (j : Int)), some (0, (m : Int)), o] [] Q := by
  refine v_loadS (v := (0, (m : Int))) (hz_X12_sums hT _ _ rfl) rfl rfl ?_
  refine v_load (v := (2, 121)) (hz_X12_sums hT _ _ rfl) rfl rfl ?_
  refine v_getR (c := 126) (r := 121) (hz_X12_sums hT _ _ rfl) rfl rfl rfl ?_
  refine v_push (3) (hz_X12_sums hT _ _ rfl) rfl ?_
  refine v_aldV (v := (0, (P 0 3))) (r := 126) (hz_X12_sums hT _ _ rfl) rfl rfl (fun _ _ _ => p3) (fun ha1 hb2 => ?_)
  refine v_ic (hz_X12_sums hT _ _ rfl) (fun hc3 => absurd (show (m : Int) < (P 0 3) from hc3) (by omega)) (fun _ => ?_)
  refine v_ret0 (hz_X12_sums hT _ _ rfl) ?_
  exact k0 
theorem qr_su44f {D : zD} {T : zT} (hT : hTab T) (hO : vOK T) {N : Nat} {h : zH} {Q : zR → Prop} {j m : Nat} (o : Option zV) (hv0 : zHv h) (m6 : m < 6)
    (k0 : vP D T N 320 12 h [some (2, 121), some (0, (j : Int)), some (0, ((m : Int) + 1)), some (0, 1000000)] [] Q) :
    vP D T N 320 44 h [some (2, 121), some (0, (j : Int)), some (0, (m : Int)), o] [(0, 1000000)] Q := by
  refine v_store1 [some (2, 121), some (0, (j : Int)), some (0, (m : Int)), some (0, 1000000)] (hz_X12_sums hT _ _ rfl) ⟨rfl, Nat.ne_of_beq_eq_false rfl⟩ (Nat.le_of_ble_eq_true rfl) rfl ?_
  refine v_load (v := (0, 1000000)) (hz_X12_sums hT _ _ rfl) rfl rfl ?_
  refine v_push (1000000) (hz_X12_sums hT _ _ rfl) rfl ?_
  refine v_ic (hz_X12_sums hT _ _ rfl) (fun _ => ?_) (fun hc1 => absurd (show (1000000 : Int) = 1000000 from (by decide)) hc1)
  refine v_goto (hz_X12_sums hT _ _ rfl) ?_
  refine v_iinc (x := (m : Int)) (u := 1) (w := ((m : Int) + 1)) [some (2, 121), some (0, (j : Int)), some (0, ((m : Int) + 1)), some (0, 1000000)] (hz_X12_sums hT _ _ rfl) rfl rfl (Nat.le_of_ble_eq_true rfl) (vz_inc (by omega) (by omega)) rfl ?_
  refine v_goto (hz_X12_sums hT _ _ rfl) ?_
  exact k0 
theorem qr_su44 {D : zD} {T : zT} (hT : hTab T) (hO : vOK T) {N : Nat} {h : zH} {Q : zR → Prop} {j m r : Nat} (p c : Int) (o : Option zV) (hv0 : zHv h) (m6 : m < 6) (hp : p ≠ 1000000) (bp : 0 ≤ p ∧ p < 1000000) (e34 : h 121 34 = (0, (r : Int))) (e35 : h 121 35 = (0, c)) (br : r ≤ 6) (bc : 0 ≤ c ∧ c ≤ 6000000)
    (k0 : vP D T N 320 12 (zset (zset h 121 34 (0, ((r : Int) + 1))) 121 35 (0, (c + p))) [some (2, 121), some (0, (j : Int)), some (0, ((m : Int) + 1)), some (0, p)] [] Q) :
    vP D T N 320 44 h [some (2, 121), some (0, (j : Int)), some (0, (m : Int)), o] [(0, p)] Q := by
  refine v_store1 [some (2, 121), some (0, (j : Int)), some (0, (m : Int)), some (0, p)] (hz_X12_sums hT _ _ rfl) ⟨rfl, Nat.ne_of_beq_eq_false rfl⟩ (Nat.le_of_ble_eq_true rfl) rfl ?_
  refine v_load (v := (0, p)) (hz_X12_sums hT _ _ rfl) rfl rfl ?_
  refine v_push (1000000) (hz_X12_sums hT _ _ rfl) rfl ?_
  refine v_ic (hz_X12_sums hT _ _ rfl) (fun hc1 => absurd (show p = 1000000 from hc1) hp) (fun _ => ?_)
  refine v_load (v := (2, 121)) (hz_X12_sums hT _ _ rfl) rfl rfl ?_
  refine v_dup (hz_X12_sums hT _ _ rfl) (Nat.ne_of_beq_eq_false rfl) ?_
  refine v_getf (v := (0, (r : Int))) (r := 121) (hz_X12_sums hT _ _ rfl) rfl rfl (fun _ => e34) ?_
  refine v_push (1) (hz_X12_sums hT _ _ rfl) rfl ?_
  refine v_bin (w := ((r : Int) + 1)) (hz_X12_sums hT _ _ rfl) (hq_add (by omega) (by omega)) ?_
  refine v_putf (r := 121) hO (hz_X12_sums hT _ _ rfl) rfl (fun hf2 => ?_)
  refine v_load (v := (2, 121)) (hz_X12_sums hT _ _ rfl) rfl rfl ?_
  refine v_dup (hz_X12_sums hT _ _ rfl) (Nat.ne_of_beq_eq_false rfl) ?_
  refine v_getf (v := (0, c)) (r := 121) (hz_X12_sums hT _ _ rfl) rfl rfl (fun _ => Eq.trans (zset_ne (fun c => absurd c.2 (by decide))) (e35)) ?_
  refine v_load (v := (0, p)) (hz_X12_sums hT _ _ rfl) rfl rfl ?_
  refine v_bin (w := (c + p)) (hz_X12_sums hT _ _ rfl) (hq_add (by omega) (by omega)) ?_
  refine v_putf (r := 121) hO (hz_X12_sums hT _ _ rfl) rfl (fun hf3 => ?_)
  refine v_iinc (x := (m : Int)) (u := 1) (w := ((m : Int) + 1)) [some (2, 121), some (0, (j : Int)), some (0, ((m : Int) + 1)), some (0, p)] (hz_X12_sums hT _ _ rfl) rfl rfl (Nat.le_of_ble_eq_true rfl) (vz_inc (by omega) (by omega)) rfl ?_
  refine v_goto (hz_X12_sums hT _ _ rfl) ?_
  exact k0 
theorem qr_ta0 {D : zD} {T : zT} (hT : hTab T) (hO : vOK T) {N : Nat} {h : zH} {Q : zR → Prop} {j : Nat} (f s : Int) (hv0 : zHv h)
    (k0 : vP D T N 320 0 h [some (2, 121), some (0, (j : Int)), none, none] [] (fun r1 => vP D T N 322 5 r1.1 [some (2, 121), some (0, (j : Int)), some (0, f), some (0, s)] (zpush r1.2 []) Q)) :
    vP D T N 322 0 h [some (2, 121), some (0, (j : Int)), some (0, f), some (0, s)] [] Q := by
  refine v_load (v := (2, 121)) (hz_X12_tastes hT _ _ rfl) rfl rfl ?_
  refine v_load (v := (0, (j : Int))) (hz_X12_tastes hT _ _ rfl) rfl rfl ?_
  refine v_call (w := 4) [some (2, 121), some (0, (j : Int)), none, none] hO (hz_X12_tastes hT _ _ rfl) rfl rfl ?_
  exact k0 
theorem qr_ta5 {D : zD} {T : zT} (hT : hTab T) (hO : vOK T) {N : Nat} {h : zH} {Q : zR → Prop} {j : Nat} (f s r c t0 t1 : Int) (hv0 : zHv h) (e34 : h 121 34 = (0, r)) (e35 : h 121 35 = (0, c)) (u0 : h 133 0 = (0, t0)) (u1 : h 133 1 = (0, t1))
    (k0 : (r < t0) → Q (h, none))
    (k1 : (t0 ≤ r) → (t0 = r) → (c < t1) → Q (zset (zset (zset (zset h 133 0 (0, r)) 133 1 (0, c)) 133 2 (0, f)) 133 3 (0, s), none))
    (k2 : (t0 ≤ r) → (t0 = r) → (t1 ≤ c) → Q (h, none))
    (k3 : (t0 ≤ r) → (t0 ≠ r) → Q (zset (zset (zset (zset h 133 0 (0, r)) 133 1 (0, c)) 133 2 (0, f)) 133 3 (0, s), none)) :
    vP D T N 322 5 h [some (2, 121), some (0, (j : Int)), some (0, f), some (0, s)] [] Q := by
  refine v_load (v := (2, 121)) (hz_X12_tastes hT _ _ rfl) rfl rfl ?_
  refine v_getR (c := 133) (r := 121) (hz_X12_tastes hT _ _ rfl) rfl rfl rfl ?_
  refine v_push (0) (hz_X12_tastes hT _ _ rfl) rfl ?_
  refine v_aldV (v := (0, t0)) (r := 133) (hz_X12_tastes hT _ _ rfl) rfl rfl (fun _ _ _ => u0) (fun ha1 hb2 => ?_)
  refine v_load (v := (2, 121)) (hz_X12_tastes hT _ _ rfl) rfl rfl ?_
  refine v_getf (v := (0, r)) (r := 121) (hz_X12_tastes hT _ _ rfl) rfl rfl (fun _ => e34) ?_
  refine v_ic (hz_X12_tastes hT _ _ rfl) (fun hc3 => ?_) (fun hc3 => ?_)
  · have hc3 : r < t0 := hc3
    refine v_ret0 (hz_X12_tastes hT _ _ rfl) ?_
    exact k0 hc3
  · have hc3 : t0 ≤ r := Int.not_lt.mp hc3
    refine v_load (v := (2, 121)) (hz_X12_tastes hT _ _ rfl) rfl rfl ?_
    refine v_getR (c := 133) (r := 121) (hz_X12_tastes hT _ _ rfl) rfl rfl rfl ?_
    refine v_push (0) (hz_X12_tastes hT _ _ rfl) rfl ?_
    refine v_aldV (v := (0, t0)) (r := 133) (hz_X12_tastes hT _ _ rfl) rfl rfl (fun _ _ _ => u0) (fun ha4 hb5 => ?_)
    refine v_load (v := (2, 121)) (hz_X12_tastes hT _ _ rfl) rfl rfl ?_
    refine v_getf (v := (0, r)) (r := 121) (hz_X12_tastes hT _ _ rfl) rfl rfl (fun _ => e34) ?_
    refine v_ic (hz_X12_tastes hT _ _ rfl) (fun hc6 => ?_) (fun hc6 => ?_)
    · have hc6 : t0 = r := hc6
      refine v_load (v := (2, 121)) (hz_X12_tastes hT _ _ rfl) rfl rfl ?_
      refine v_getR (c := 133) (r := 121) (hz_X12_tastes hT _ _ rfl) rfl rfl rfl ?_
      refine v_push (1) (hz_X12_tastes hT _ _ rfl) rfl ?_
      refine v_aldV (v := (0, t1)) (r := 133) (hz_X12_tastes hT _ _ rfl) rfl rfl (fun _ _ _ => u1) (fun ha7 hb8 => ?_)
      refine v_load (v := (2, 121)) (hz_X12_tastes hT _ _ rfl) rfl rfl ?_
      refine v_getf (v := (0, c)) (r := 121) (hz_X12_tastes hT _ _ rfl) rfl rfl (fun _ => e35) ?_
      refine v_ic (hz_X12_tastes hT _ _ rfl) (fun hc9 => ?_) (fun hc9 => ?_)
      · have hc9 : c < t1 := hc9
        refine v_load (v := (2, 121)) (hz_X12_tastes hT _ _ rfl) rfl rfl ?_
        refine v_getR (c := 133) (r := 121) (hz_X12_tastes hT _ _ rfl) rfl rfl rfl ?_
        refine v_push (0) (hz_X12_tastes hT _ _ rfl) rfl ?_
        refine v_load (v := (2, 121)) (hz_X12_tastes hT _ _ rfl) rfl rfl ?_
        refine v_getf (v := (0, r)) (r := 121) (hz_X12_tastes hT _ _ rfl) rfl rfl (fun _ => e34) ?_
        refine v_ast (r := 133) (hz_X12_tastes hT _ _ rfl) rfl rfl (fun ha10 hb11 hf12 => ?_)
        refine v_load (v := (2, 121)) (hz_X12_tastes hT _ _ rfl) rfl rfl ?_
        refine v_getR (c := 133) (r := 121) (hz_X12_tastes hT _ _ rfl) rfl rfl rfl ?_
        refine v_push (1) (hz_X12_tastes hT _ _ rfl) rfl ?_
        refine v_load (v := (2, 121)) (hz_X12_tastes hT _ _ rfl) rfl rfl ?_
        refine v_getf (v := (0, c)) (r := 121) (hz_X12_tastes hT _ _ rfl) rfl rfl (fun _ => Eq.trans (zset_ne (fun c => absurd c.1 (by decide))) (e35)) ?_
        refine v_ast (r := 133) (hz_X12_tastes hT _ _ rfl) rfl rfl (fun ha13 hb14 hf15 => ?_)
        refine v_load (v := (2, 121)) (hz_X12_tastes hT _ _ rfl) rfl rfl ?_
        refine v_getR (c := 133) (r := 121) (hz_X12_tastes hT _ _ rfl) rfl rfl rfl ?_
        refine v_push (2) (hz_X12_tastes hT _ _ rfl) rfl ?_
        refine v_load (v := (0, f)) (hz_X12_tastes hT _ _ rfl) rfl rfl ?_
        refine v_ast (r := 133) (hz_X12_tastes hT _ _ rfl) rfl rfl (fun ha16 hb17 hf18 => ?_)
        refine v_load (v := (2, 121)) (hz_X12_tastes hT _ _ rfl) rfl rfl ?_
        refine v_getR (c := 133) (r := 121) (hz_X12_tastes hT _ _ rfl) rfl rfl rfl ?_
        refine v_push (3) (hz_X12_tastes hT _ _ rfl) rfl ?_
        refine v_load (v := (0, s)) (hz_X12_tastes hT _ _ rfl) rfl rfl ?_
        refine v_ast (r := 133) (hz_X12_tastes hT _ _ rfl) rfl rfl (fun ha19 hb20 hf21 => ?_)
        refine v_ret0 (hz_X12_tastes hT _ _ rfl) ?_
        exact k1 hc3 hc6 hc9
      · have hc9 : t1 ≤ c := Int.not_lt.mp hc9
        refine v_ret0 (hz_X12_tastes hT _ _ rfl) ?_
        exact k2 hc3 hc6 hc9
    · have hc6 : t0 ≠ r := hc6
      refine v_load (v := (2, 121)) (hz_X12_tastes hT _ _ rfl) rfl rfl ?_
      refine v_getR (c := 133) (r := 121) (hz_X12_tastes hT _ _ rfl) rfl rfl rfl ?_
      refine v_push (0) (hz_X12_tastes hT _ _ rfl) rfl ?_
      refine v_load (v := (2, 121)) (hz_X12_tastes hT _ _ rfl) rfl rfl ?_
      refine v_getf (v := (0, r)) (r := 121) (hz_X12_tastes hT _ _ rfl) rfl rfl (fun _ => e34) ?_
      refine v_ast (r := 133) (hz_X12_tastes hT _ _ rfl) rfl rfl (fun ha22 hb23 hf24 => ?_)
      refine v_load (v := (2, 121)) (hz_X12_tastes hT _ _ rfl) rfl rfl ?_
      refine v_getR (c := 133) (r := 121) (hz_X12_tastes hT _ _ rfl) rfl rfl rfl ?_
      refine v_push (1) (hz_X12_tastes hT _ _ rfl) rfl ?_
      refine v_load (v := (2, 121)) (hz_X12_tastes hT _ _ rfl) rfl rfl ?_
      refine v_getf (v := (0, c)) (r := 121) (hz_X12_tastes hT _ _ rfl) rfl rfl (fun _ => Eq.trans (zset_ne (fun c => absurd c.1 (by decide))) (e35)) ?_
      refine v_ast (r := 133) (hz_X12_tastes hT _ _ rfl) rfl rfl (fun ha25 hb26 hf27 => ?_)
      refine v_load (v := (2, 121)) (hz_X12_tastes hT _ _ rfl) rfl rfl ?_
      refine v_getR (c := 133) (r := 121) (hz_X12_tastes hT _ _ rfl) rfl rfl rfl ?_
      refine v_push (2) (hz_X12_tastes hT _ _ rfl) rfl ?_
      refine v_load (v := (0, f)) (hz_X12_tastes hT _ _ rfl) rfl rfl ?_
      refine v_ast (r := 133) (hz_X12_tastes hT _ _ rfl) rfl rfl (fun ha28 hb29 hf30 => ?_)
      refine v_load (v := (2, 121)) (hz_X12_tastes hT _ _ rfl) rfl rfl ?_
      refine v_getR (c := 133) (r := 121) (hz_X12_tastes hT _ _ rfl) rfl rfl rfl ?_
      refine v_push (3) (hz_X12_tastes hT _ _ rfl) rfl ?_
      refine v_load (v := (0, s)) (hz_X12_tastes hT _ _ rfl) rfl rfl ?_
      refine v_ast (r := 133) (hz_X12_tastes hT _ _ rfl) rfl rfl (fun ha31 hb32 hf33 => ?_)
      refine v_ret0 (hz_X12_tastes hT _ _ rfl) ?_
      exact k3 hc3 hc6
theorem qs_sup0 {D : zD} {T : zT} (hT : hTab T) (hO : vOK T) {N : Nat} {h : zH} {Q : zR → Prop} {P : PT} (x y z : Int) (hv0 : zHv h) (p0 : h 126 0 = (0, P 0 0)) (p1 : h 126 1 = (0, P 0 1)) (p2 : h 126 2 = (0, P 0 2)) (p3 : h 126 3 = (0, P 0 3)) (lb : (0 ≤ P 0 0 ∧ P 0 0 ≤ 8) ∧ (0 ≤ P 0 1 ∧ P 0 1 ≤ 6) ∧ (0 ≤ P 0 2 ∧ P 0 2 ≤ 3) ∧ (0 ≤ P 0 3 ∧ P 0 3 ≤ 6))
    (k0 : (x < 0) → Q (zset (zset (zset h 121 1 (0, 0)) 121 0 (0, 0)) 121 0 (0, 2), some (0, -1)))
    (k1 : (0 ≤ x) → (((P 0 2) - 1) < x) → Q (zset (zset (zset h 121 1 (0, 0)) 121 0 (0, 0)) 121 0 (0, 2), some (0, -1)))
    (k2 : (0 ≤ x) → (x ≤ ((P 0 2) - 1)) → (y < 1) → Q (zset (zset (zset h 121 1 (0, 0)) 121 0 (0, 0)) 121 0 (0, 5), some (0, -1)))
    (k3 : (0 ≤ x) → (x ≤ ((P 0 2) - 1)) → (1 ≤ y) → (2 < y) → Q (zset (zset (zset h 121 1 (0, 0)) 121 0 (0, 0)) 121 0 (0, 5), some (0, -1)))
    (k4 : (0 ≤ x) → (x ≤ ((P 0 2) - 1)) → (1 ≤ y) → (y ≤ 2) → (z < 0) → Q (zset (zset (zset h 121 1 (0, 0)) 121 0 (0, 0)) 121 0 (0, 5), some (0, -1)))
    (k5 : (0 ≤ x) → (x ≤ ((P 0 2) - 1)) → (1 ≤ y) → (y ≤ 2) → (0 ≤ z) → (3 < z) → Q (zset (zset (zset h 121 1 (0, 0)) 121 0 (0, 0)) 121 0 (0, 5), some (0, -1)))
    (k6 : (0 ≤ x) → (x ≤ ((P 0 2) - 1)) → (1 ≤ y) → (y ≤ 2) → (0 ≤ z) → (z ≤ 3) → vP D T N 321 54 (zset (zset h 121 1 (0, 0)) 121 0 (0, 0)) [some (2, 121), some (0, x), some (0, y), some (0, z), none, none, none, none] [] Q) :
    vP D T N 321 0 h [some (2, 121), some (0, x), some (0, y), some (0, z), none, none, none, none] [] Q := by
  refine v_load (v := (2, 121)) (hz_X12_supper hT _ _ rfl) rfl rfl ?_
  refine v_push (0) (hz_X12_supper hT _ _ rfl) rfl ?_
  refine v_putf (r := 121) hO (hz_X12_supper hT _ _ rfl) rfl (fun hf1 => ?_)
  refine v_load (v := (2, 121)) (hz_X12_supper hT _ _ rfl) rfl rfl ?_
  refine v_push (0) (hz_X12_supper hT _ _ rfl) rfl ?_
  refine v_putf (r := 121) hO (hz_X12_supper hT _ _ rfl) rfl (fun hf2 => ?_)
  refine v_load (v := (2, 121)) (hz_X12_supper hT _ _ rfl) rfl rfl ?_
  refine v_load (v := (0, x)) (hz_X12_supper hT _ _ rfl) rfl rfl ?_
  refine v_call (w := 2) [some (2, 121), some (0, x)] hO (hz_X12_supper hT _ _ rfl) rfl rfl ?_
  refine v_load (v := (0, x)) (hi_X12_isCopy_0 hT) rfl rfl ?_
  refine v_i2l (hi_X12_isCopy_1 hT) ?_
  refine v_push (0) (hi_X12_isCopy_2 hT) rfl ?_
  refine v_load (v := (2, 121)) (hi_X12_isCopy_3 hT) rfl rfl ?_
  refine v_getR (c := 126) (r := 121) (hi_X12_isCopy_4 hT) rfl rfl rfl ?_
  refine v_push (2) (hi_X12_isCopy_7 hT) rfl ?_
  refine v_aldV (v := (0, (P 0 2))) (r := 126) (hi_X12_isCopy_8 hT) rfl rfl (fun _ _ _ => (Eq.trans (Eq.trans (zset_ne (fun c => absurd c.1 (by decide))) (zset_ne (fun c => absurd c.1 (by decide)))) (p2))) (fun ha3 hb4 => ?_)
  refine v_push (1) (hi_X12_isCopy_9 hT) rfl ?_
  refine v_bin (w := ((P 0 2) - 1)) (hi_X12_isCopy_10 hT) (hq_sub (by omega) (by omega)) ?_
  refine v_i2l (hi_X12_isCopy_11 hT) ?_
  refine v_call (w := 6) [some (1, x), none, some (1, 0), none, some (1, ((P 0 2) - 1)), none] hO (hi_X12_isCopy_12 hT) rfl rfl ?_
  refine v_load (v := (1, x)) (hi_X12_isIn_0 hT) rfl rfl ?_
  refine v_load (v := (1, 0)) (hi_X12_isIn_1 hT) rfl rfl ?_
  refine v_lif (hi_X12_isIn_2 hT) (hi_X12_isIn_3 hT) (fun hc5 => ?_) (fun hc5 => ?_)
  · have hc5 : x < 0 := hc5
    refine v_push (0) (hi_X12_isIn_17 hT) rfl ?_
    refine v_ret (hi_X12_isIn_18 hT) (Or.inl rfl) ?_
    show vP D T N 248 15 (zset (zset h 121 1 (0, 0)) 121 0 (0, 0)) [some (2, 121), some (0, x)] [(0, 0)] _
    refine v_ret (hi_X12_isCopy_15 hT) (Or.inl rfl) ?_
    show vP D T N 321 15 (zset (zset h 121 1 (0, 0)) 121 0 (0, 0)) [some (2, 121), some (0, x), some (0, y), some (0, z), none, none, none, none] [(0, 0)] _
    refine v_if (hz_X12_supper hT _ _ rfl) (fun _ => ?_) (fun hc6 => absurd (show (0 : Int) = 0 from (by decide)) hc6)
    refine v_load (v := (2, 121)) (hz_X12_supper hT _ _ rfl) rfl rfl ?_
    refine v_push (2) (hz_X12_supper hT _ _ rfl) rfl ?_
    refine v_call (w := 2) [some (2, 121), some (0, 2)] hO (hz_X12_supper hT _ _ rfl) rfl rfl ?_
    refine v_load (v := (2, 121)) (hi_X12_refuse_0 hT) rfl rfl ?_
    refine v_load (v := (0, 2)) (hi_X12_refuse_1 hT) rfl rfl ?_
    refine v_putf (r := 121) hO (hi_X12_refuse_2 hT) rfl (fun hf7 => ?_)
    refine v_push (-1) (hi_X12_refuse_5 hT) rfl ?_
    refine v_ret (hi_X12_refuse_6 hT) (Or.inl rfl) ?_
    show vP D T N 321 23 (zset (zset (zset h 121 1 (0, 0)) 121 0 (0, 0)) 121 0 (0, 2)) [some (2, 121), some (0, x), some (0, y), some (0, z), none, none, none, none] [(0, -1)] _
    refine v_ret (hz_X12_supper hT _ _ rfl) (Or.inl rfl) ?_
    exact k0 hc5
  · have hc5 : 0 ≤ x := Int.not_lt.mp hc5
    refine v_load (v := (1, x)) (hi_X12_isIn_6 hT) rfl rfl ?_
    refine v_load (v := (1, ((P 0 2) - 1))) (hi_X12_isIn_7 hT) rfl rfl ?_
    refine v_lif (hi_X12_isIn_9 hT) (hi_X12_isIn_10 hT) (fun hc8 => ?_) (fun hc8 => ?_)
    · have hc8 : ((P 0 2) - 1) < x := hc8
      refine v_push (0) (hi_X12_isIn_17 hT) rfl ?_
      refine v_ret (hi_X12_isIn_18 hT) (Or.inl rfl) ?_
      show vP D T N 248 15 (zset (zset h 121 1 (0, 0)) 121 0 (0, 0)) [some (2, 121), some (0, x)] [(0, 0)] _
      refine v_ret (hi_X12_isCopy_15 hT) (Or.inl rfl) ?_
      show vP D T N 321 15 (zset (zset h 121 1 (0, 0)) 121 0 (0, 0)) [some (2, 121), some (0, x), some (0, y), some (0, z), none, none, none, none] [(0, 0)] _
      refine v_if (hz_X12_supper hT _ _ rfl) (fun _ => ?_) (fun hc9 => absurd (show (0 : Int) = 0 from (by decide)) hc9)
      refine v_load (v := (2, 121)) (hz_X12_supper hT _ _ rfl) rfl rfl ?_
      refine v_push (2) (hz_X12_supper hT _ _ rfl) rfl ?_
      refine v_call (w := 2) [some (2, 121), some (0, 2)] hO (hz_X12_supper hT _ _ rfl) rfl rfl ?_
      refine v_load (v := (2, 121)) (hi_X12_refuse_0 hT) rfl rfl ?_
      refine v_load (v := (0, 2)) (hi_X12_refuse_1 hT) rfl rfl ?_
      refine v_putf (r := 121) hO (hi_X12_refuse_2 hT) rfl (fun hf10 => ?_)
      refine v_push (-1) (hi_X12_refuse_5 hT) rfl ?_
      refine v_ret (hi_X12_refuse_6 hT) (Or.inl rfl) ?_
      show vP D T N 321 23 (zset (zset (zset h 121 1 (0, 0)) 121 0 (0, 0)) 121 0 (0, 2)) [some (2, 121), some (0, x), some (0, y), some (0, z), none, none, none, none] [(0, -1)] _
      refine v_ret (hz_X12_supper hT _ _ rfl) (Or.inl rfl) ?_
      exact k1 hc5 hc8
    · have hc8 : x ≤ ((P 0 2) - 1) := Int.not_lt.mp hc8
      refine v_push (1) (hi_X12_isIn_13 hT) rfl ?_
      refine v_goto (hi_X12_isIn_14 hT) ?_
      refine v_ret (hi_X12_isIn_18 hT) (Or.inl rfl) ?_
      show vP D T N 248 15 (zset (zset h 121 1 (0, 0)) 121 0 (0, 0)) [some (2, 121), some (0, x)] [(0, 1)] _
      refine v_ret (hi_X12_isCopy_15 hT) (Or.inl rfl) ?_
      show vP D T N 321 15 (zset (zset h 121 1 (0, 0)) 121 0 (0, 0)) [some (2, 121), some (0, x), some (0, y), some (0, z), none, none, none, none] [(0, 1)] _
      refine v_if (hz_X12_supper hT _ _ rfl) (fun hc11 => absurd (show (1 : Int) = 0 from hc11) (by decide)) (fun _ => ?_)
      refine v_load (v := (0, y)) (hz_X12_supper hT _ _ rfl) rfl rfl ?_
      refine v_i2l (hz_X12_supper hT _ _ rfl) ?_
      refine v_push (1) (hz_X12_supper hT _ _ rfl) rfl ?_
      refine v_push (2) (hz_X12_supper hT _ _ rfl) rfl ?_
      refine v_call (w := 6) [some (1, y), none, some (1, 1), none, some (1, 2), none] hO (hz_X12_supper hT _ _ rfl) rfl rfl ?_
      refine v_load (v := (1, y)) (hi_X12_isIn_0 hT) rfl rfl ?_
      refine v_load (v := (1, 1)) (hi_X12_isIn_1 hT) rfl rfl ?_
      refine v_lif (hi_X12_isIn_2 hT) (hi_X12_isIn_3 hT) (fun hc12 => ?_) (fun hc12 => ?_)
      · have hc12 : y < 1 := hc12
        refine v_push (0) (hi_X12_isIn_17 hT) rfl ?_
        refine v_ret (hi_X12_isIn_18 hT) (Or.inl rfl) ?_
        show vP D T N 321 33 (zset (zset h 121 1 (0, 0)) 121 0 (0, 0)) [some (2, 121), some (0, x), some (0, y), some (0, z), none, none, none, none] [(0, 0)] _
        refine v_if (hz_X12_supper hT _ _ rfl) (fun _ => ?_) (fun hc13 => absurd (show (0 : Int) = 0 from (by decide)) hc13)
        refine v_load (v := (2, 121)) (hi_X12_supper_48 hT) rfl rfl ?_
        refine v_push (5) (hi_X12_supper_49 hT) rfl ?_
        refine v_call (w := 2) [some (2, 121), some (0, 5)] hO (hi_X12_supper_50 hT) rfl rfl ?_
        refine v_load (v := (2, 121)) (hi_X12_refuse_0 hT) rfl rfl ?_
        refine v_load (v := (0, 5)) (hi_X12_refuse_1 hT) rfl rfl ?_
        refine v_putf (r := 121) hO (hi_X12_refuse_2 hT) rfl (fun hf14 => ?_)
        refine v_push (-1) (hi_X12_refuse_5 hT) rfl ?_
        refine v_ret (hi_X12_refuse_6 hT) (Or.inl rfl) ?_
        show vP D T N 321 53 (zset (zset (zset h 121 1 (0, 0)) 121 0 (0, 0)) 121 0 (0, 5)) [some (2, 121), some (0, x), some (0, y), some (0, z), none, none, none, none] [(0, -1)] _
        refine v_ret (hi_X12_supper_53 hT) (Or.inl rfl) ?_
        exact k2 hc5 hc8 hc12
      · have hc12 : 1 ≤ y := Int.not_lt.mp hc12
        refine v_load (v := (1, y)) (hi_X12_isIn_6 hT) rfl rfl ?_
        refine v_load (v := (1, 2)) (hi_X12_isIn_7 hT) rfl rfl ?_
        refine v_lif (hi_X12_isIn_9 hT) (hi_X12_isIn_10 hT) (fun hc15 => ?_) (fun hc15 => ?_)
        · have hc15 : 2 < y := hc15
          refine v_push (0) (hi_X12_isIn_17 hT) rfl ?_
          refine v_ret (hi_X12_isIn_18 hT) (Or.inl rfl) ?_
          show vP D T N 321 33 (zset (zset h 121 1 (0, 0)) 121 0 (0, 0)) [some (2, 121), some (0, x), some (0, y), some (0, z), none, none, none, none] [(0, 0)] _
          refine v_if (hz_X12_supper hT _ _ rfl) (fun _ => ?_) (fun hc16 => absurd (show (0 : Int) = 0 from (by decide)) hc16)
          refine v_load (v := (2, 121)) (hi_X12_supper_48 hT) rfl rfl ?_
          refine v_push (5) (hi_X12_supper_49 hT) rfl ?_
          refine v_call (w := 2) [some (2, 121), some (0, 5)] hO (hi_X12_supper_50 hT) rfl rfl ?_
          refine v_load (v := (2, 121)) (hi_X12_refuse_0 hT) rfl rfl ?_
          refine v_load (v := (0, 5)) (hi_X12_refuse_1 hT) rfl rfl ?_
          refine v_putf (r := 121) hO (hi_X12_refuse_2 hT) rfl (fun hf17 => ?_)
          refine v_push (-1) (hi_X12_refuse_5 hT) rfl ?_
          refine v_ret (hi_X12_refuse_6 hT) (Or.inl rfl) ?_
          show vP D T N 321 53 (zset (zset (zset h 121 1 (0, 0)) 121 0 (0, 0)) 121 0 (0, 5)) [some (2, 121), some (0, x), some (0, y), some (0, z), none, none, none, none] [(0, -1)] _
          refine v_ret (hi_X12_supper_53 hT) (Or.inl rfl) ?_
          exact k3 hc5 hc8 hc12 hc15
        · have hc15 : y ≤ 2 := Int.not_lt.mp hc15
          refine v_push (1) (hi_X12_isIn_13 hT) rfl ?_
          refine v_goto (hi_X12_isIn_14 hT) ?_
          refine v_ret (hi_X12_isIn_18 hT) (Or.inl rfl) ?_
          show vP D T N 321 33 (zset (zset h 121 1 (0, 0)) 121 0 (0, 0)) [some (2, 121), some (0, x), some (0, y), some (0, z), none, none, none, none] [(0, 1)] _
          refine v_if (hz_X12_supper hT _ _ rfl) (fun hc18 => absurd (show (1 : Int) = 0 from hc18) (by decide)) (fun _ => ?_)
          refine v_load (v := (0, z)) (hz_X12_supper hT _ _ rfl) rfl rfl ?_
          refine v_i2l (hz_X12_supper hT _ _ rfl) ?_
          refine v_push (0) (hz_X12_supper hT _ _ rfl) rfl ?_
          refine v_push (3) (hz_X12_supper hT _ _ rfl) rfl ?_
          refine v_call (w := 6) [some (1, z), none, some (1, 0), none, some (1, 3), none] hO (hz_X12_supper hT _ _ rfl) rfl rfl ?_
          refine v_load (v := (1, z)) (hi_X12_isIn_0 hT) rfl rfl ?_
          refine v_load (v := (1, 0)) (hi_X12_isIn_1 hT) rfl rfl ?_
          refine v_lif (hi_X12_isIn_2 hT) (hi_X12_isIn_3 hT) (fun hc19 => ?_) (fun hc19 => ?_)
          · have hc19 : z < 0 := hc19
            refine v_push (0) (hi_X12_isIn_17 hT) rfl ?_
            refine v_ret (hi_X12_isIn_18 hT) (Or.inl rfl) ?_
            show vP D T N 321 45 (zset (zset h 121 1 (0, 0)) 121 0 (0, 0)) [some (2, 121), some (0, x), some (0, y), some (0, z), none, none, none, none] [(0, 0)] _
            refine v_if (hz_X12_supper hT _ _ rfl) (fun _ => ?_) (fun hc20 => absurd (show (0 : Int) = 0 from (by decide)) hc20)
            refine v_load (v := (2, 121)) (hi_X12_supper_48 hT) rfl rfl ?_
            refine v_push (5) (hi_X12_supper_49 hT) rfl ?_
            refine v_call (w := 2) [some (2, 121), some (0, 5)] hO (hi_X12_supper_50 hT) rfl rfl ?_
            refine v_load (v := (2, 121)) (hi_X12_refuse_0 hT) rfl rfl ?_
            refine v_load (v := (0, 5)) (hi_X12_refuse_1 hT) rfl rfl ?_
            refine v_putf (r := 121) hO (hi_X12_refuse_2 hT) rfl (fun hf21 => ?_)
            refine v_push (-1) (hi_X12_refuse_5 hT) rfl ?_
            refine v_ret (hi_X12_refuse_6 hT) (Or.inl rfl) ?_
            show vP D T N 321 53 (zset (zset (zset h 121 1 (0, 0)) 121 0 (0, 0)) 121 0 (0, 5)) [some (2, 121), some (0, x), some (0, y), some (0, z), none, none, none, none] [(0, -1)] _
            refine v_ret (hi_X12_supper_53 hT) (Or.inl rfl) ?_
            exact k4 hc5 hc8 hc12 hc15 hc19
          · have hc19 : 0 ≤ z := Int.not_lt.mp hc19
            refine v_load (v := (1, z)) (hi_X12_isIn_6 hT) rfl rfl ?_
            refine v_load (v := (1, 3)) (hi_X12_isIn_7 hT) rfl rfl ?_
            refine v_lif (hi_X12_isIn_9 hT) (hi_X12_isIn_10 hT) (fun hc22 => ?_) (fun hc22 => ?_)
            · have hc22 : 3 < z := hc22
              refine v_push (0) (hi_X12_isIn_17 hT) rfl ?_
              refine v_ret (hi_X12_isIn_18 hT) (Or.inl rfl) ?_
              show vP D T N 321 45 (zset (zset h 121 1 (0, 0)) 121 0 (0, 0)) [some (2, 121), some (0, x), some (0, y), some (0, z), none, none, none, none] [(0, 0)] _
              refine v_if (hz_X12_supper hT _ _ rfl) (fun _ => ?_) (fun hc23 => absurd (show (0 : Int) = 0 from (by decide)) hc23)
              refine v_load (v := (2, 121)) (hi_X12_supper_48 hT) rfl rfl ?_
              refine v_push (5) (hi_X12_supper_49 hT) rfl ?_
              refine v_call (w := 2) [some (2, 121), some (0, 5)] hO (hi_X12_supper_50 hT) rfl rfl ?_
              refine v_load (v := (2, 121)) (hi_X12_refuse_0 hT) rfl rfl ?_
              refine v_load (v := (0, 5)) (hi_X12_refuse_1 hT) rfl rfl ?_
              refine v_putf (r := 121) hO (hi_X12_refuse_2 hT) rfl (fun hf24 => ?_)
              refine v_push (-1) (hi_X12_refuse_5 hT) rfl ?_
              refine v_ret (hi_X12_refuse_6 hT) (Or.inl rfl) ?_
              show vP D T N 321 53 (zset (zset (zset h 121 1 (0, 0)) 121 0 (0, 0)) 121 0 (0, 5)) [some (2, 121), some (0, x), some (0, y), some (0, z), none, none, none, none] [(0, -1)] _
              refine v_ret (hi_X12_supper_53 hT) (Or.inl rfl) ?_
              exact k5 hc5 hc8 hc12 hc15 hc19 hc22
            · have hc22 : z ≤ 3 := Int.not_lt.mp hc22
              refine v_push (1) (hi_X12_isIn_13 hT) rfl ?_
              refine v_goto (hi_X12_isIn_14 hT) ?_
              refine v_ret (hi_X12_isIn_18 hT) (Or.inl rfl) ?_
              show vP D T N 321 45 (zset (zset h 121 1 (0, 0)) 121 0 (0, 0)) [some (2, 121), some (0, x), some (0, y), some (0, z), none, none, none, none] [(0, 1)] _
              refine v_if (hz_X12_supper hT _ _ rfl) (fun hc25 => absurd (show (1 : Int) = 0 from hc25) (by decide)) (fun _ => ?_)
              exact k6 hc5 hc8 hc12 hc15 hc19 hc22
theorem qs_sup54 {D : zD} {T : zT} (hT : hTab T) (hO : vOK T) {N : Nat} {h : zH} {Q : zR → Prop} {j : Nat} (y z : Int) (hv0 : zHv h)
    (k0 : vP D T N 321 64 (zset h 133 0 (0, -1)) [some (2, 121), some (0, (j : Int)), some (0, y), some (0, z), some (0, 0), none, none, none] [] Q) :
    vP D T N 321 54 h [some (2, 121), some (0, (j : Int)), some (0, y), some (0, z), none, none, none, none] [] Q := by
  refine v_load (v := (2, 121)) (hz_X12_supper hT _ _ rfl) rfl rfl ?_
  refine v_getR (c := 133) (r := 121) (hz_X12_supper hT _ _ rfl) rfl rfl rfl ?_
  refine v_push (0) (hz_X12_supper hT _ _ rfl) rfl ?_
  refine v_push (-1) (hz_X12_supper hT _ _ rfl) rfl ?_
  refine v_ast (r := 133) (hz_X12_supper hT _ _ rfl) rfl rfl (fun ha1 hb2 hf3 => ?_)
  refine v_push (0) (hz_X12_supper hT _ _ rfl) rfl ?_
  refine v_store1 [some (2, 121), some (0, (j : Int)), some (0, y), some (0, z), some (0, 0), none, none, none] (hz_X12_supper hT _ _ rfl) ⟨rfl, Nat.ne_of_beq_eq_false rfl⟩ (Nat.le_of_ble_eq_true rfl) rfl ?_
  exact k0 
theorem qs_sup64 {D : zD} {T : zT} (hT : hTab T) (hO : vOK T) {N : Nat} {h : zH} {Q : zR → Prop} {P : PT} {j q : Nat} (y z : Int) (o5 o6 o7 : Option zV) (hv0 : zHv h) (p0 : h 126 0 = (0, P 0 0)) (p1 : h 126 1 = (0, P 0 1)) (hb : fB P) (gq : gIn P q) (hq : gJ P q < 48) (hj : j < 3) (hlt : ((gJ P q : Nat) : Int) < ((P 0 0) * (P 0 1)))
    (k0 : vP D T N 251 0 h [some (2, 121), some (0, (j : Int)), some (0, ((gJ P q : Nat) : Int))] [] (fun r1 => vP D T N 321 80 r1.1 [some (2, 121), some (0, (j : Int)), some (0, y), some (0, z), some (0, ((gJ P q : Nat) : Int)), o5, o6, o7] (zpush r1.2 []) Q)) :
    vP D T N 321 64 h [some (2, 121), some (0, (j : Int)), some (0, y), some (0, z), some (0, ((gJ P q : Nat) : Int)), o5, o6, o7] [] Q := by
  refine v_load (v := (0, ((gJ P q : Nat) : Int))) (hz_X12_supper hT _ _ rfl) rfl rfl ?_
  refine v_load (v := (2, 121)) (hz_X12_supper hT _ _ rfl) rfl rfl ?_
  refine v_call (w := 1) [some (2, 121)] hO (hz_X12_supper hT _ _ rfl) rfl rfl (rb_cells hT hO p0 p1 hb.1 ?_)
  show vP D T N 321 70 h [some (2, 121), some (0, (j : Int)), some (0, y), some (0, z), some (0, ((gJ P q : Nat) : Int)), o5, o6, o7] [(0, ((P 0 0) * (P 0 1))), (0, ((gJ P q : Nat) : Int))] _
  refine v_ic (hz_X12_supper hT _ _ rfl) (fun _ => ?_) (fun hc1 => absurd (show ((gJ P q : Nat) : Int) < ((P 0 0) * (P 0 1)) from hlt) hc1)
  refine v_load (v := (2, 121)) (hz_X12_supper hT _ _ rfl) rfl rfl ?_
  refine v_load (v := (0, (j : Int))) (hz_X12_supper hT _ _ rfl) rfl rfl ?_
  refine v_load (v := (0, ((gJ P q : Nat) : Int))) (hz_X12_supper hT _ _ rfl) rfl rfl ?_
  refine v_call (w := 3) [some (2, 121), some (0, (j : Int)), some (0, ((gJ P q : Nat) : Int))] hO (hz_X12_supper hT _ _ rfl) rfl rfl ?_
  exact k0 
theorem qs_sup64x {D : zD} {T : zT} (hT : hTab T) (hO : vOK T) {N : Nat} {h : zH} {Q : zR → Prop} {P : PT} {j n : Nat} (y z : Int) (o5 o6 o7 : Option zV) (hv0 : zHv h) (p0 : h 126 0 = (0, P 0 0)) (p1 : h 126 1 = (0, P 0 1)) (hb : fB P) (hge : ((P 0 0) * (P 0 1)) ≤ (n : Int))
    (k0 : vP D T N 321 221 h [some (2, 121), some (0, (j : Int)), some (0, y), some (0, z), some (0, (n : Int)), o5, o6, o7] [] Q) :
    vP D T N 321 64 h [some (2, 121), some (0, (j : Int)), some (0, y), some (0, z), some (0, (n : Int)), o5, o6, o7] [] Q := by
  refine v_load (v := (0, (n : Int))) (hz_X12_supper hT _ _ rfl) rfl rfl ?_
  refine v_load (v := (2, 121)) (hz_X12_supper hT _ _ rfl) rfl rfl ?_
  refine v_call (w := 1) [some (2, 121)] hO (hz_X12_supper hT _ _ rfl) rfl rfl (rb_cells hT hO p0 p1 hb.1 ?_)
  show vP D T N 321 70 h [some (2, 121), some (0, (j : Int)), some (0, y), some (0, z), some (0, (n : Int)), o5, o6, o7] [(0, ((P 0 0) * (P 0 1))), (0, (n : Int))] _
  refine v_ic (hz_X12_supper hT _ _ rfl) (fun hc1 => absurd (show (n : Int) < ((P 0 0) * (P 0 1)) from hc1) (by omega)) (fun _ => ?_)
  exact k0 
theorem qs_sup80n {D : zD} {T : zT} (hT : hTab T) (hO : vOK T) {N : Nat} {h : zH} {Q : zR → Prop} {P : PT} {j q : Nat} (y z : Int) (o5 o6 o7 : Option zV) (hv0 : zHv h) (hq : gJ P q < 48)
    (k0 : vP D T N 321 64 h [some (2, 121), some (0, (j : Int)), some (0, y), some (0, z), some (0, (((gJ P q : Nat) : Int) + 1)), o5, o6, o7] [] Q) :
    vP D T N 321 80 h [some (2, 121), some (0, (j : Int)), some (0, y), some (0, z), some (0, ((gJ P q : Nat) : Int)), o5, o6, o7] [(0, 0)] Q := by
  refine v_if (hz_X12_supper hT _ _ rfl) (fun _ => ?_) (fun hc1 => absurd (show (0 : Int) = 0 from (by decide)) hc1)
  refine v_goto (hz_X12_supper hT _ _ rfl) ?_
  refine v_iinc (x := ((gJ P q : Nat) : Int)) (u := 1) (w := (((gJ P q : Nat) : Int) + 1)) [some (2, 121), some (0, (j : Int)), some (0, y), some (0, z), some (0, (((gJ P q : Nat) : Int) + 1)), o5, o6, o7] (hz_X12_supper hT _ _ rfl) rfl rfl (Nat.le_of_ble_eq_true rfl) (vz_inc (by omega) (by omega)) rfl ?_
  refine v_goto (hz_X12_supper hT _ _ rfl) ?_
  exact k0 
theorem qs_sup80y1 {D : zD} {T : zT} (hT : hTab T) (hO : vOK T) {N : Nat} {h : zH} {Q : zR → Prop} {P : PT} {j q : Nat} (z : Int) (o5 o6 o7 : Option zV) (hv0 : zHv h) (hR : rBk 0 P h) (hb : fB P) (gq : gIn P q) (hq : gJ P q < 48) (hj : j < 3)
    (k0 : (0 ≤ ((101 + (48 * (j : Int))) + ((gJ P q : Nat) : Int))) → (((101 + (48 * (j : Int))) + ((gJ P q : Nat) : Int)) < 2750) → vP D T N 322 0 (zset h 126 ((((101 + (48 * (j : Int))) + ((gJ P q : Nat) : Int))).toNat) (0, 1)) [some (2, 121), some (0, (j : Int)), some (0, ((gJ P q : Nat) : Int)), some (0, -1)] [] (fun r1 => vP D T N 321 120 r1.1 [some (2, 121), some (0, (j : Int)), some (0, 1), some (0, z), some (0, ((gJ P q : Nat) : Int)), some (0, (P 3 (48 * j + q))), o6, o7] (zpush r1.2 []) Q)) :
    vP D T N 321 80 h [some (2, 121), some (0, (j : Int)), some (0, 1), some (0, z), some (0, ((gJ P q : Nat) : Int)), o5, o6, o7] [(0, 1)] Q := by
  refine v_if (hz_X12_supper hT _ _ rfl) (fun hc1 => absurd (show (1 : Int) = 0 from hc1) (by decide)) (fun _ => ?_)
  refine v_load (v := (2, 121)) (hz_X12_supper hT _ _ rfl) rfl rfl ?_
  refine v_load (v := (0, (j : Int))) (hz_X12_supper hT _ _ rfl) rfl rfl ?_
  refine v_load (v := (0, ((gJ P q : Nat) : Int))) (hz_X12_supper hT _ _ rfl) rfl rfl ?_
  refine v_call (w := 3) [some (2, 121), some (0, (j : Int)), some (0, ((gJ P q : Nat) : Int))] hO (hz_X12_supper hT _ _ rfl) rfl rfl (rb_st hT hO ((j : Int)) j q rfl (by omega) gq hR hb ?_)
  show vP D T N 321 93 h [some (2, 121), some (0, (j : Int)), some (0, 1), some (0, z), some (0, ((gJ P q : Nat) : Int)), o5, o6, o7] [(0, (P 3 (48 * j + q)))] _
  refine v_store1 [some (2, 121), some (0, (j : Int)), some (0, 1), some (0, z), some (0, ((gJ P q : Nat) : Int)), some (0, (P 3 (48 * j + q))), o6, o7] (hz_X12_supper hT _ _ rfl) ⟨rfl, Nat.ne_of_beq_eq_false rfl⟩ (Nat.le_of_ble_eq_true rfl) rfl ?_
  refine v_load (v := (2, 121)) (hz_X12_supper hT _ _ rfl) rfl rfl ?_
  refine v_getR (c := 126) (r := 121) (hz_X12_supper hT _ _ rfl) rfl rfl rfl ?_
  refine v_load (v := (0, (j : Int))) (hz_X12_supper hT _ _ rfl) rfl rfl ?_
  refine v_load (v := (0, ((gJ P q : Nat) : Int))) (hz_X12_supper hT _ _ rfl) rfl rfl ?_
  refine v_call (w := 2) [some (0, (j : Int)), some (0, ((gJ P q : Nat) : Int))] hO (hz_X12_supper hT _ _ rfl) rfl rfl ?_
  refine v_push (101) (hi_X12_state_0 hT) rfl ?_
  refine v_push (48) (hi_X12_state_2 hT) rfl ?_
  refine v_load (v := (0, (j : Int))) (hi_X12_state_4 hT) rfl rfl ?_
  refine v_bin (w := (48 * (j : Int))) (hi_X12_state_5 hT) (hq_mul (by omega) (by omega)) ?_
  refine v_bin (w := (101 + (48 * (j : Int)))) (hi_X12_state_6 hT) (hq_add (by omega) (by omega)) ?_
  refine v_load (v := (0, ((gJ P q : Nat) : Int))) (hi_X12_state_7 hT) rfl rfl ?_
  refine v_bin (w := ((101 + (48 * (j : Int))) + ((gJ P q : Nat) : Int))) (hi_X12_state_8 hT) (hq_add (by omega) (by omega)) ?_
  refine v_ret (hi_X12_state_9 hT) (Or.inl rfl) ?_
  show vP D T N 321 105 h [some (2, 121), some (0, (j : Int)), some (0, 1), some (0, z), some (0, ((gJ P q : Nat) : Int)), some (0, (P 3 (48 * j + q))), o6, o7] [(0, ((101 + (48 * (j : Int))) + ((gJ P q : Nat) : Int))), (2, 126)] _
  refine v_push (1) (hz_X12_supper hT _ _ rfl) rfl ?_
  refine v_ast (r := 126) (hz_X12_supper hT _ _ rfl) rfl rfl (fun ha2 hb3 hf4 => ?_)
  refine v_load (v := (0, 1)) (hz_X12_supper hT _ _ rfl) rfl rfl ?_
  refine v_push (1) (hz_X12_supper hT _ _ rfl) rfl ?_
  refine v_ic (hz_X12_supper hT _ _ rfl) (fun _ => ?_) (fun hc5 => absurd (show (1 : Int) = 1 from (by decide)) hc5)
  refine v_load (v := (2, 121)) (hz_X12_supper hT _ _ rfl) rfl rfl ?_
  refine v_load (v := (0, (j : Int))) (hz_X12_supper hT _ _ rfl) rfl rfl ?_
  refine v_load (v := (0, ((gJ P q : Nat) : Int))) (hz_X12_supper hT _ _ rfl) rfl rfl ?_
  refine v_push (-1) (hz_X12_supper hT _ _ rfl) rfl ?_
  refine v_call (w := 4) [some (2, 121), some (0, (j : Int)), some (0, ((gJ P q : Nat) : Int)), some (0, -1)] hO (hz_X12_supper hT _ _ rfl) rfl rfl ?_
  exact k0 ha2 hb3
theorem qs_sup120_1 {D : zD} {T : zT} (hT : hTab T) (hO : vOK T) {N : Nat} {h : zH} {Q : zR → Prop} {P : PT} {j q : Nat} (z w : Int) (o6 o7 : Option zV) (hv0 : zHv h) (hq : gJ P q < 48)
    (k0 : vP D T N 321 126 h [some (2, 121), some (0, (j : Int)), some (0, 1), some (0, z), some (0, ((gJ P q : Nat) : Int)), some (0, w), some (0, (((gJ P q : Nat) : Int) + 1)), o7] [] Q) :
    vP D T N 321 120 h [some (2, 121), some (0, (j : Int)), some (0, 1), some (0, z), some (0, ((gJ P q : Nat) : Int)), some (0, w), o6, o7] [] Q := by
  refine v_load (v := (0, ((gJ P q : Nat) : Int))) (hz_X12_supper hT _ _ rfl) rfl rfl ?_
  refine v_push (1) (hz_X12_supper hT _ _ rfl) rfl ?_
  refine v_bin (w := (((gJ P q : Nat) : Int) + 1)) (hz_X12_supper hT _ _ rfl) (hq_add (by omega) (by omega)) ?_
  refine v_store1 [some (2, 121), some (0, (j : Int)), some (0, 1), some (0, z), some (0, ((gJ P q : Nat) : Int)), some (0, w), some (0, (((gJ P q : Nat) : Int) + 1)), o7] (hz_X12_supper hT _ _ rfl) ⟨rfl, Nat.ne_of_beq_eq_false rfl⟩ (Nat.le_of_ble_eq_true rfl) rfl ?_
  exact k0 
theorem qs_sup80y2 {D : zD} {T : zT} (hT : hTab T) (hO : vOK T) {N : Nat} {h : zH} {Q : zR → Prop} {P : PT} {j q : Nat} (z : Int) (o5 o6 o7 : Option zV) (hv0 : zHv h) (hR : rBk 0 P h) (hb : fB P) (gq : gIn P q) (hq : gJ P q < 48) (hj : j < 3)
    (k0 : (0 ≤ ((101 + (48 * (j : Int))) + ((gJ P q : Nat) : Int))) → (((101 + (48 * (j : Int))) + ((gJ P q : Nat) : Int)) < 2750) → vP D T N 321 126 (zset h 126 ((((101 + (48 * (j : Int))) + ((gJ P q : Nat) : Int))).toNat) (0, 1)) [some (2, 121), some (0, (j : Int)), some (0, 2), some (0, z), some (0, ((gJ P q : Nat) : Int)), some (0, (P 3 (48 * j + q))), some (0, (((gJ P q : Nat) : Int) + 1)), o7] [] Q) :
    vP D T N 321 80 h [some (2, 121), some (0, (j : Int)), some (0, 2), some (0, z), some (0, ((gJ P q : Nat) : Int)), o5, o6, o7] [(0, 1)] Q := by
  refine v_if (hz_X12_supper hT _ _ rfl) (fun hc1 => absurd (show (1 : Int) = 0 from hc1) (by decide)) (fun _ => ?_)
  refine v_load (v := (2, 121)) (hz_X12_supper hT _ _ rfl) rfl rfl ?_
  refine v_load (v := (0, (j : Int))) (hz_X12_supper hT _ _ rfl) rfl rfl ?_
  refine v_load (v := (0, ((gJ P q : Nat) : Int))) (hz_X12_supper hT _ _ rfl) rfl rfl ?_
  refine v_call (w := 3) [some (2, 121), some (0, (j : Int)), some (0, ((gJ P q : Nat) : Int))] hO (hz_X12_supper hT _ _ rfl) rfl rfl (rb_st hT hO ((j : Int)) j q rfl (by omega) gq hR hb ?_)
  show vP D T N 321 93 h [some (2, 121), some (0, (j : Int)), some (0, 2), some (0, z), some (0, ((gJ P q : Nat) : Int)), o5, o6, o7] [(0, (P 3 (48 * j + q)))] _
  refine v_store1 [some (2, 121), some (0, (j : Int)), some (0, 2), some (0, z), some (0, ((gJ P q : Nat) : Int)), some (0, (P 3 (48 * j + q))), o6, o7] (hz_X12_supper hT _ _ rfl) ⟨rfl, Nat.ne_of_beq_eq_false rfl⟩ (Nat.le_of_ble_eq_true rfl) rfl ?_
  refine v_load (v := (2, 121)) (hz_X12_supper hT _ _ rfl) rfl rfl ?_
  refine v_getR (c := 126) (r := 121) (hz_X12_supper hT _ _ rfl) rfl rfl rfl ?_
  refine v_load (v := (0, (j : Int))) (hz_X12_supper hT _ _ rfl) rfl rfl ?_
  refine v_load (v := (0, ((gJ P q : Nat) : Int))) (hz_X12_supper hT _ _ rfl) rfl rfl ?_
  refine v_call (w := 2) [some (0, (j : Int)), some (0, ((gJ P q : Nat) : Int))] hO (hz_X12_supper hT _ _ rfl) rfl rfl ?_
  refine v_push (101) (hi_X12_state_0 hT) rfl ?_
  refine v_push (48) (hi_X12_state_2 hT) rfl ?_
  refine v_load (v := (0, (j : Int))) (hi_X12_state_4 hT) rfl rfl ?_
  refine v_bin (w := (48 * (j : Int))) (hi_X12_state_5 hT) (hq_mul (by omega) (by omega)) ?_
  refine v_bin (w := (101 + (48 * (j : Int)))) (hi_X12_state_6 hT) (hq_add (by omega) (by omega)) ?_
  refine v_load (v := (0, ((gJ P q : Nat) : Int))) (hi_X12_state_7 hT) rfl rfl ?_
  refine v_bin (w := ((101 + (48 * (j : Int))) + ((gJ P q : Nat) : Int))) (hi_X12_state_8 hT) (hq_add (by omega) (by omega)) ?_
  refine v_ret (hi_X12_state_9 hT) (Or.inl rfl) ?_
  show vP D T N 321 105 h [some (2, 121), some (0, (j : Int)), some (0, 2), some (0, z), some (0, ((gJ P q : Nat) : Int)), some (0, (P 3 (48 * j + q))), o6, o7] [(0, ((101 + (48 * (j : Int))) + ((gJ P q : Nat) : Int))), (2, 126)] _
  refine v_push (1) (hz_X12_supper hT _ _ rfl) rfl ?_
  refine v_ast (r := 126) (hz_X12_supper hT _ _ rfl) rfl rfl (fun ha2 hb3 hf4 => ?_)
  refine v_load (v := (0, 2)) (hz_X12_supper hT _ _ rfl) rfl rfl ?_
  refine v_push (1) (hz_X12_supper hT _ _ rfl) rfl ?_
  refine v_ic (hz_X12_supper hT _ _ rfl) (fun hc5 => absurd (show (2 : Int) = 1 from hc5) (by decide)) (fun _ => ?_)
  refine v_load (v := (0, ((gJ P q : Nat) : Int))) (hz_X12_supper hT _ _ rfl) rfl rfl ?_
  refine v_push (1) (hz_X12_supper hT _ _ rfl) rfl ?_
  refine v_bin (w := (((gJ P q : Nat) : Int) + 1)) (hz_X12_supper hT _ _ rfl) (hq_add (by omega) (by omega)) ?_
  refine v_store1 [some (2, 121), some (0, (j : Int)), some (0, 2), some (0, z), some (0, ((gJ P q : Nat) : Int)), some (0, (P 3 (48 * j + q))), some (0, (((gJ P q : Nat) : Int) + 1)), o7] (hz_X12_supper hT _ _ rfl) ⟨rfl, Nat.ne_of_beq_eq_false rfl⟩ (Nat.le_of_ble_eq_true rfl) rfl ?_
  exact k0 ha2 hb3
theorem qs_sup126e {D : zD} {T : zT} (hT : hTab T) (hO : vOK T) {N : Nat} {h : zH} {Q : zR → Prop} {P : PT} {j a n : Nat} (z w : Int) (o7 : Option zV) (hv0 : zHv h) (p0 : h 126 0 = (0, P 0 0)) (p1 : h 126 1 = (0, P 0 1)) (hb : fB P)
    (k0 : ((n : Int) < ((P 0 0) * (P 0 1))) → vP D T N 321 202 h [some (2, 121), some (0, (j : Int)), some (0, 1), some (0, z), some (0, ((gJ P a : Nat) : Int)), some (0, w), some (0, (n : Int)), o7] [] Q)
    (k1 : (((P 0 0) * (P 0 1)) ≤ (n : Int)) → vP D T N 321 202 h [some (2, 121), some (0, (j : Int)), some (0, 1), some (0, z), some (0, ((gJ P a : Nat) : Int)), some (0, w), some (0, (n : Int)), o7] [] Q) :
    vP D T N 321 126 h [some (2, 121), some (0, (j : Int)), some (0, 1), some (0, z), some (0, ((gJ P a : Nat) : Int)), some (0, w), some (0, (n : Int)), o7] [] Q := by
  refine v_load (v := (0, (n : Int))) (hz_X12_supper hT _ _ rfl) rfl rfl ?_
  refine v_load (v := (2, 121)) (hz_X12_supper hT _ _ rfl) rfl rfl ?_
  refine v_call (w := 1) [some (2, 121)] hO (hz_X12_supper hT _ _ rfl) rfl rfl (rb_cells hT hO p0 p1 hb.1 ?_)
  show vP D T N 321 132 h [some (2, 121), some (0, (j : Int)), some (0, 1), some (0, z), some (0, ((gJ P a : Nat) : Int)), some (0, w), some (0, (n : Int)), o7] [(0, ((P 0 0) * (P 0 1))), (0, (n : Int))] _
  refine v_ic (hz_X12_supper hT _ _ rfl) (fun hc1 => ?_) (fun hc1 => ?_)
  · have hc1 : (n : Int) < ((P 0 0) * (P 0 1)) := hc1
    refine v_load (v := (0, 1)) (hz_X12_supper hT _ _ rfl) rfl rfl ?_
    refine v_push (2) (hz_X12_supper hT _ _ rfl) rfl ?_
    refine v_ic (hz_X12_supper hT _ _ rfl) (fun hc2 => absurd (show (1 : Int) = 2 from hc2) (by decide)) (fun _ => ?_)
    exact k0 hc1
  · have hc1 : ((P 0 0) * (P 0 1)) ≤ (n : Int) := Int.not_lt.mp hc1
    exact k1 hc1
theorem qs_sup126 {D : zD} {T : zT} (hT : hTab T) (hO : vOK T) {N : Nat} {h : zH} {Q : zR → Prop} {P : PT} {j a q : Nat} (z w : Int) (o7 : Option zV) (hv0 : zHv h) (p0 : h 126 0 = (0, P 0 0)) (p1 : h 126 1 = (0, P 0 1)) (hb : fB P) (gq : gIn P q) (hq : gJ P q < 48) (hj : j < 3) (hlt : ((gJ P q : Nat) : Int) < ((P 0 0) * (P 0 1)))
    (k0 : vP D T N 251 0 h [some (2, 121), some (0, (j : Int)), some (0, ((gJ P q : Nat) : Int))] [] (fun r1 => vP D T N 321 147 r1.1 [some (2, 121), some (0, (j : Int)), some (0, 2), some (0, z), some (0, ((gJ P a : Nat) : Int)), some (0, w), some (0, ((gJ P q : Nat) : Int)), o7] (zpush r1.2 []) Q)) :
    vP D T N 321 126 h [some (2, 121), some (0, (j : Int)), some (0, 2), some (0, z), some (0, ((gJ P a : Nat) : Int)), some (0, w), some (0, ((gJ P q : Nat) : Int)), o7] [] Q := by
  refine v_load (v := (0, ((gJ P q : Nat) : Int))) (hz_X12_supper hT _ _ rfl) rfl rfl ?_
  refine v_load (v := (2, 121)) (hz_X12_supper hT _ _ rfl) rfl rfl ?_
  refine v_call (w := 1) [some (2, 121)] hO (hz_X12_supper hT _ _ rfl) rfl rfl (rb_cells hT hO p0 p1 hb.1 ?_)
  show vP D T N 321 132 h [some (2, 121), some (0, (j : Int)), some (0, 2), some (0, z), some (0, ((gJ P a : Nat) : Int)), some (0, w), some (0, ((gJ P q : Nat) : Int)), o7] [(0, ((P 0 0) * (P 0 1))), (0, ((gJ P q : Nat) : Int))] _
  refine v_ic (hz_X12_supper hT _ _ rfl) (fun _ => ?_) (fun hc1 => absurd (show ((gJ P q : Nat) : Int) < ((P 0 0) * (P 0 1)) from hlt) hc1)
  refine v_load (v := (0, 2)) (hz_X12_supper hT _ _ rfl) rfl rfl ?_
  refine v_push (2) (hz_X12_supper hT _ _ rfl) rfl ?_
  refine v_ic (hz_X12_supper hT _ _ rfl) (fun _ => ?_) (fun hc2 => absurd (show (2 : Int) = 2 from (by decide)) hc2)
  refine v_load (v := (2, 121)) (hz_X12_supper hT _ _ rfl) rfl rfl ?_
  refine v_load (v := (0, (j : Int))) (hz_X12_supper hT _ _ rfl) rfl rfl ?_
  refine v_load (v := (0, ((gJ P q : Nat) : Int))) (hz_X12_supper hT _ _ rfl) rfl rfl ?_
  refine v_call (w := 3) [some (2, 121), some (0, (j : Int)), some (0, ((gJ P q : Nat) : Int))] hO (hz_X12_supper hT _ _ rfl) rfl rfl ?_
  exact k0 
theorem qs_sup126x {D : zD} {T : zT} (hT : hTab T) (hO : vOK T) {N : Nat} {h : zH} {Q : zR → Prop} {P : PT} {j a n : Nat} (z w : Int) (o7 : Option zV) (hv0 : zHv h) (p0 : h 126 0 = (0, P 0 0)) (p1 : h 126 1 = (0, P 0 1)) (hb : fB P) (hge : ((P 0 0) * (P 0 1)) ≤ (n : Int))
    (k0 : vP D T N 321 202 h [some (2, 121), some (0, (j : Int)), some (0, 2), some (0, z), some (0, ((gJ P a : Nat) : Int)), some (0, w), some (0, (n : Int)), o7] [] Q) :
    vP D T N 321 126 h [some (2, 121), some (0, (j : Int)), some (0, 2), some (0, z), some (0, ((gJ P a : Nat) : Int)), some (0, w), some (0, (n : Int)), o7] [] Q := by
  refine v_load (v := (0, (n : Int))) (hz_X12_supper hT _ _ rfl) rfl rfl ?_
  refine v_load (v := (2, 121)) (hz_X12_supper hT _ _ rfl) rfl rfl ?_
  refine v_call (w := 1) [some (2, 121)] hO (hz_X12_supper hT _ _ rfl) rfl rfl (rb_cells hT hO p0 p1 hb.1 ?_)
  show vP D T N 321 132 h [some (2, 121), some (0, (j : Int)), some (0, 2), some (0, z), some (0, ((gJ P a : Nat) : Int)), some (0, w), some (0, (n : Int)), o7] [(0, ((P 0 0) * (P 0 1))), (0, (n : Int))] _
  refine v_ic (hz_X12_supper hT _ _ rfl) (fun hc1 => absurd (show (n : Int) < ((P 0 0) * (P 0 1)) from hc1) (by omega)) (fun _ => ?_)
  exact k0 
theorem qs_sup147n {D : zD} {T : zT} (hT : hTab T) (hO : vOK T) {N : Nat} {h : zH} {Q : zR → Prop} {P : PT} {j a q : Nat} (z w : Int) (o7 : Option zV) (hv0 : zHv h) (hq : gJ P q < 48)
    (k0 : vP D T N 321 126 h [some (2, 121), some (0, (j : Int)), some (0, 2), some (0, z), some (0, ((gJ P a : Nat) : Int)), some (0, w), some (0, (((gJ P q : Nat) : Int) + 1)), o7] [] Q) :
    vP D T N 321 147 h [some (2, 121), some (0, (j : Int)), some (0, 2), some (0, z), some (0, ((gJ P a : Nat) : Int)), some (0, w), some (0, ((gJ P q : Nat) : Int)), o7] [(0, 0)] Q := by
  refine v_if (hz_X12_supper hT _ _ rfl) (fun _ => ?_) (fun hc1 => absurd (show (0 : Int) = 0 from (by decide)) hc1)
  refine v_goto (hz_X12_supper hT _ _ rfl) ?_
  refine v_iinc (x := ((gJ P q : Nat) : Int)) (u := 1) (w := (((gJ P q : Nat) : Int) + 1)) [some (2, 121), some (0, (j : Int)), some (0, 2), some (0, z), some (0, ((gJ P a : Nat) : Int)), some (0, w), some (0, (((gJ P q : Nat) : Int) + 1)), o7] (hz_X12_supper hT _ _ rfl) rfl rfl (Nat.le_of_ble_eq_true rfl) (vz_inc (by omega) (by omega)) rfl ?_
  refine v_goto (hz_X12_supper hT _ _ rfl) ?_
  exact k0 
theorem qs_sup147y {D : zD} {T : zT} (hT : hTab T) (hO : vOK T) {N : Nat} {h : zH} {Q : zR → Prop} {P : PT} {j a q : Nat} (z w : Int) (o7 : Option zV) (hv0 : zHv h) (hR : rBk 0 P h) (hb : fB P) (gq : gIn P q) (hq : gJ P q < 48) (hj : j < 3)
    (k0 : (0 ≤ ((101 + (48 * (j : Int))) + ((gJ P q : Nat) : Int))) → (((101 + (48 * (j : Int))) + ((gJ P q : Nat) : Int)) < 2750) → vP D T N 322 0 (zset h 126 ((((101 + (48 * (j : Int))) + ((gJ P q : Nat) : Int))).toNat) (0, 1)) [some (2, 121), some (0, (j : Int)), some (0, ((gJ P a : Nat) : Int)), some (0, ((gJ P q : Nat) : Int))] [] (fun r1 => vP D T N 321 183 r1.1 [some (2, 121), some (0, (j : Int)), some (0, 2), some (0, z), some (0, ((gJ P a : Nat) : Int)), some (0, w), some (0, ((gJ P q : Nat) : Int)), some (0, (P 3 (48 * j + q)))] (zpush r1.2 []) Q)) :
    vP D T N 321 147 h [some (2, 121), some (0, (j : Int)), some (0, 2), some (0, z), some (0, ((gJ P a : Nat) : Int)), some (0, w), some (0, ((gJ P q : Nat) : Int)), o7] [(0, 1)] Q := by
  refine v_if (hz_X12_supper hT _ _ rfl) (fun hc1 => absurd (show (1 : Int) = 0 from hc1) (by decide)) (fun _ => ?_)
  refine v_load (v := (2, 121)) (hz_X12_supper hT _ _ rfl) rfl rfl ?_
  refine v_load (v := (0, (j : Int))) (hz_X12_supper hT _ _ rfl) rfl rfl ?_
  refine v_load (v := (0, ((gJ P q : Nat) : Int))) (hz_X12_supper hT _ _ rfl) rfl rfl ?_
  refine v_call (w := 3) [some (2, 121), some (0, (j : Int)), some (0, ((gJ P q : Nat) : Int))] hO (hz_X12_supper hT _ _ rfl) rfl rfl (rb_st hT hO ((j : Int)) j q rfl (by omega) gq hR hb ?_)
  show vP D T N 321 160 h [some (2, 121), some (0, (j : Int)), some (0, 2), some (0, z), some (0, ((gJ P a : Nat) : Int)), some (0, w), some (0, ((gJ P q : Nat) : Int)), o7] [(0, (P 3 (48 * j + q)))] _
  refine v_store1 [some (2, 121), some (0, (j : Int)), some (0, 2), some (0, z), some (0, ((gJ P a : Nat) : Int)), some (0, w), some (0, ((gJ P q : Nat) : Int)), some (0, (P 3 (48 * j + q)))] (hz_X12_supper hT _ _ rfl) ⟨rfl, Nat.ne_of_beq_eq_false rfl⟩ (Nat.le_of_ble_eq_true rfl) rfl ?_
  refine v_load (v := (2, 121)) (hz_X12_supper hT _ _ rfl) rfl rfl ?_
  refine v_getR (c := 126) (r := 121) (hz_X12_supper hT _ _ rfl) rfl rfl rfl ?_
  refine v_load (v := (0, (j : Int))) (hz_X12_supper hT _ _ rfl) rfl rfl ?_
  refine v_load (v := (0, ((gJ P q : Nat) : Int))) (hz_X12_supper hT _ _ rfl) rfl rfl ?_
  refine v_call (w := 2) [some (0, (j : Int)), some (0, ((gJ P q : Nat) : Int))] hO (hz_X12_supper hT _ _ rfl) rfl rfl ?_
  refine v_push (101) (hi_X12_state_0 hT) rfl ?_
  refine v_push (48) (hi_X12_state_2 hT) rfl ?_
  refine v_load (v := (0, (j : Int))) (hi_X12_state_4 hT) rfl rfl ?_
  refine v_bin (w := (48 * (j : Int))) (hi_X12_state_5 hT) (hq_mul (by omega) (by omega)) ?_
  refine v_bin (w := (101 + (48 * (j : Int)))) (hi_X12_state_6 hT) (hq_add (by omega) (by omega)) ?_
  refine v_load (v := (0, ((gJ P q : Nat) : Int))) (hi_X12_state_7 hT) rfl rfl ?_
  refine v_bin (w := ((101 + (48 * (j : Int))) + ((gJ P q : Nat) : Int))) (hi_X12_state_8 hT) (hq_add (by omega) (by omega)) ?_
  refine v_ret (hi_X12_state_9 hT) (Or.inl rfl) ?_
  show vP D T N 321 172 h [some (2, 121), some (0, (j : Int)), some (0, 2), some (0, z), some (0, ((gJ P a : Nat) : Int)), some (0, w), some (0, ((gJ P q : Nat) : Int)), some (0, (P 3 (48 * j + q)))] [(0, ((101 + (48 * (j : Int))) + ((gJ P q : Nat) : Int))), (2, 126)] _
  refine v_push (1) (hz_X12_supper hT _ _ rfl) rfl ?_
  refine v_ast (r := 126) (hz_X12_supper hT _ _ rfl) rfl rfl (fun ha2 hb3 hf4 => ?_)
  refine v_load (v := (2, 121)) (hz_X12_supper hT _ _ rfl) rfl rfl ?_
  refine v_load (v := (0, (j : Int))) (hz_X12_supper hT _ _ rfl) rfl rfl ?_
  refine v_load (v := (0, ((gJ P a : Nat) : Int))) (hz_X12_supper hT _ _ rfl) rfl rfl ?_
  refine v_load (v := (0, ((gJ P q : Nat) : Int))) (hz_X12_supper hT _ _ rfl) rfl rfl ?_
  refine v_call (w := 4) [some (2, 121), some (0, (j : Int)), some (0, ((gJ P a : Nat) : Int)), some (0, ((gJ P q : Nat) : Int))] hO (hz_X12_supper hT _ _ rfl) rfl rfl ?_
  exact k0 ha2 hb3
theorem qs_sup183 {D : zD} {T : zT} (hT : hTab T) (hO : vOK T) {N : Nat} {h : zH} {Q : zR → Prop} {P : PT} {j a q : Nat} (z w v : Int) (hv0 : zHv h) (hq : gJ P q < 48) (hj : j < 3)
    (k0 : (0 ≤ ((101 + (48 * (j : Int))) + ((gJ P q : Nat) : Int))) → (((101 + (48 * (j : Int))) + ((gJ P q : Nat) : Int)) < 2750) → vP D T N 321 126 (zset h 126 ((((101 + (48 * (j : Int))) + ((gJ P q : Nat) : Int))).toNat) (0, v)) [some (2, 121), some (0, (j : Int)), some (0, 2), some (0, z), some (0, ((gJ P a : Nat) : Int)), some (0, w), some (0, (((gJ P q : Nat) : Int) + 1)), some (0, v)] [] Q) :
    vP D T N 321 183 h [some (2, 121), some (0, (j : Int)), some (0, 2), some (0, z), some (0, ((gJ P a : Nat) : Int)), some (0, w), some (0, ((gJ P q : Nat) : Int)), some (0, v)] [] Q := by
  refine v_load (v := (2, 121)) (hz_X12_supper hT _ _ rfl) rfl rfl ?_
  refine v_getR (c := 126) (r := 121) (hz_X12_supper hT _ _ rfl) rfl rfl rfl ?_
  refine v_load (v := (0, (j : Int))) (hz_X12_supper hT _ _ rfl) rfl rfl ?_
  refine v_load (v := (0, ((gJ P q : Nat) : Int))) (hz_X12_supper hT _ _ rfl) rfl rfl ?_
  refine v_call (w := 2) [some (0, (j : Int)), some (0, ((gJ P q : Nat) : Int))] hO (hz_X12_supper hT _ _ rfl) rfl rfl ?_
  refine v_push (101) (hi_X12_state_0 hT) rfl ?_
  refine v_push (48) (hi_X12_state_2 hT) rfl ?_
  refine v_load (v := (0, (j : Int))) (hi_X12_state_4 hT) rfl rfl ?_
  refine v_bin (w := (48 * (j : Int))) (hi_X12_state_5 hT) (hq_mul (by omega) (by omega)) ?_
  refine v_bin (w := (101 + (48 * (j : Int)))) (hi_X12_state_6 hT) (hq_add (by omega) (by omega)) ?_
  refine v_load (v := (0, ((gJ P q : Nat) : Int))) (hi_X12_state_7 hT) rfl rfl ?_
  refine v_bin (w := ((101 + (48 * (j : Int))) + ((gJ P q : Nat) : Int))) (hi_X12_state_8 hT) (hq_add (by omega) (by omega)) ?_
  refine v_ret (hi_X12_state_9 hT) (Or.inl rfl) ?_
  show vP D T N 321 193 h [some (2, 121), some (0, (j : Int)), some (0, 2), some (0, z), some (0, ((gJ P a : Nat) : Int)), some (0, w), some (0, ((gJ P q : Nat) : Int)), some (0, v)] [(0, ((101 + (48 * (j : Int))) + ((gJ P q : Nat) : Int))), (2, 126)] _
  refine v_load (v := (0, v)) (hz_X12_supper hT _ _ rfl) rfl rfl ?_
  refine v_ast (r := 126) (hz_X12_supper hT _ _ rfl) rfl rfl (fun ha1 hb2 hf3 => ?_)
  refine v_iinc (x := ((gJ P q : Nat) : Int)) (u := 1) (w := (((gJ P q : Nat) : Int) + 1)) [some (2, 121), some (0, (j : Int)), some (0, 2), some (0, z), some (0, ((gJ P a : Nat) : Int)), some (0, w), some (0, (((gJ P q : Nat) : Int) + 1)), some (0, v)] (hz_X12_supper hT _ _ rfl) rfl rfl (Nat.le_of_ble_eq_true rfl) (vz_inc (by omega) (by omega)) rfl ?_
  refine v_goto (hz_X12_supper hT _ _ rfl) ?_
  exact k0 ha1 hb2
theorem qs_sup202 {D : zD} {T : zT} (hT : hTab T) (hO : vOK T) {N : Nat} {h : zH} {Q : zR → Prop} {P : PT} {j q : Nat} (y z w : Int) (o6 o7 : Option zV) (hv0 : zHv h) (hq : gJ P q < 48) (hj : j < 3)
    (k0 : (0 ≤ ((101 + (48 * (j : Int))) + ((gJ P q : Nat) : Int))) → (((101 + (48 * (j : Int))) + ((gJ P q : Nat) : Int)) < 2750) → vP D T N 321 64 (zset h 126 ((((101 + (48 * (j : Int))) + ((gJ P q : Nat) : Int))).toNat) (0, w)) [some (2, 121), some (0, (j : Int)), some (0, y), some (0, z), some (0, (((gJ P q : Nat) : Int) + 1)), some (0, w), o6, o7] [] Q) :
    vP D T N 321 202 h [some (2, 121), some (0, (j : Int)), some (0, y), some (0, z), some (0, ((gJ P q : Nat) : Int)), some (0, w), o6, o7] [] Q := by
  refine v_load (v := (2, 121)) (hz_X12_supper hT _ _ rfl) rfl rfl ?_
  refine v_getR (c := 126) (r := 121) (hz_X12_supper hT _ _ rfl) rfl rfl rfl ?_
  refine v_load (v := (0, (j : Int))) (hz_X12_supper hT _ _ rfl) rfl rfl ?_
  refine v_load (v := (0, ((gJ P q : Nat) : Int))) (hz_X12_supper hT _ _ rfl) rfl rfl ?_
  refine v_call (w := 2) [some (0, (j : Int)), some (0, ((gJ P q : Nat) : Int))] hO (hz_X12_supper hT _ _ rfl) rfl rfl ?_
  refine v_push (101) (hi_X12_state_0 hT) rfl ?_
  refine v_push (48) (hi_X12_state_2 hT) rfl ?_
  refine v_load (v := (0, (j : Int))) (hi_X12_state_4 hT) rfl rfl ?_
  refine v_bin (w := (48 * (j : Int))) (hi_X12_state_5 hT) (hq_mul (by omega) (by omega)) ?_
  refine v_bin (w := (101 + (48 * (j : Int)))) (hi_X12_state_6 hT) (hq_add (by omega) (by omega)) ?_
  refine v_load (v := (0, ((gJ P q : Nat) : Int))) (hi_X12_state_7 hT) rfl rfl ?_
  refine v_bin (w := ((101 + (48 * (j : Int))) + ((gJ P q : Nat) : Int))) (hi_X12_state_8 hT) (hq_add (by omega) (by omega)) ?_
  refine v_ret (hi_X12_state_9 hT) (Or.inl rfl) ?_
  show vP D T N 321 212 h [some (2, 121), some (0, (j : Int)), some (0, y), some (0, z), some (0, ((gJ P q : Nat) : Int)), some (0, w), o6, o7] [(0, ((101 + (48 * (j : Int))) + ((gJ P q : Nat) : Int))), (2, 126)] _
  refine v_load (v := (0, w)) (hz_X12_supper hT _ _ rfl) rfl rfl ?_
  refine v_ast (r := 126) (hz_X12_supper hT _ _ rfl) rfl rfl (fun ha1 hb2 hf3 => ?_)
  refine v_iinc (x := ((gJ P q : Nat) : Int)) (u := 1) (w := (((gJ P q : Nat) : Int) + 1)) [some (2, 121), some (0, (j : Int)), some (0, y), some (0, z), some (0, (((gJ P q : Nat) : Int) + 1)), some (0, w), o6, o7] (hz_X12_supper hT _ _ rfl) rfl rfl (Nat.le_of_ble_eq_true rfl) (vz_inc (by omega) (by omega)) rfl ?_
  refine v_goto (hz_X12_supper hT _ _ rfl) ?_
  exact k0 ha1 hb2
theorem qs_sup221_1 {D : zD} {T : zT} (hT : hTab T) (hO : vOK T) {N : Nat} {h : zH} {Q : zR → Prop} {j n : Nat} (z t0 : Int) (o5 o6 o7 : Option zV) (hv0 : zHv h) (u0 : h 133 0 = (0, t0)) (bz : 0 ≤ z ∧ z ≤ 3)
    (k0 : (t0 < 0) → Q (zset h 121 0 (0, 9), some (0, -1)))
    (k1 : (0 ≤ t0) → (z = 3) → Q (zset h 121 0 (0, 8), some (0, -1)))
    (k2 : (0 ≤ t0) → (z ≠ 3) → (0 ≤ z) → (z < 4) → Q (h, some (0, (h 133 z.toNat).2))) :
    vP D T N 321 221 h [some (2, 121), some (0, (j : Int)), some (0, 1), some (0, z), some (0, (n : Int)), o5, o6, o7] [] Q := by
  refine v_load (v := (2, 121)) (hz_X12_supper hT _ _ rfl) rfl rfl ?_
  refine v_getR (c := 133) (r := 121) (hz_X12_supper hT _ _ rfl) rfl rfl rfl ?_
  refine v_push (0) (hz_X12_supper hT _ _ rfl) rfl ?_
  refine v_aldV (v := (0, t0)) (r := 133) (hz_X12_supper hT _ _ rfl) rfl rfl (fun _ _ _ => u0) (fun ha1 hb2 => ?_)
  refine v_if (hz_X12_supper hT _ _ rfl) (fun hc3 => ?_) (fun hc3 => ?_)
  · have hc3 : t0 < 0 := hc3
    refine v_load (v := (2, 121)) (hz_X12_supper hT _ _ rfl) rfl rfl ?_
    refine v_push (9) (hz_X12_supper hT _ _ rfl) rfl ?_
    refine v_call (w := 2) [some (2, 121), some (0, 9)] hO (hz_X12_supper hT _ _ rfl) rfl rfl ?_
    refine v_load (v := (2, 121)) (hi_X12_refuse_0 hT) rfl rfl ?_
    refine v_load (v := (0, 9)) (hi_X12_refuse_1 hT) rfl rfl ?_
    refine v_putf (r := 121) hO (hi_X12_refuse_2 hT) rfl (fun hf4 => ?_)
    refine v_push (-1) (hi_X12_refuse_5 hT) rfl ?_
    refine v_ret (hi_X12_refuse_6 hT) (Or.inl rfl) ?_
    show vP D T N 321 236 (zset h 121 0 (0, 9)) [some (2, 121), some (0, (j : Int)), some (0, 1), some (0, z), some (0, (n : Int)), o5, o6, o7] [(0, -1)] _
    refine v_ret (hz_X12_supper hT _ _ rfl) (Or.inl rfl) ?_
    exact k0 hc3
  · have hc3 : 0 ≤ t0 := Int.not_lt.mp hc3
    refine v_load (v := (0, z)) (hz_X12_supper hT _ _ rfl) rfl rfl ?_
    refine v_push (3) (hz_X12_supper hT _ _ rfl) rfl ?_
    refine v_ic (hz_X12_supper hT _ _ rfl) (fun hc5 => ?_) (fun hc5 => ?_)
    · have hc5 : z = 3 := hc5
      refine v_load (v := (0, 1)) (hz_X12_supper hT _ _ rfl) rfl rfl ?_
      refine v_push (1) (hz_X12_supper hT _ _ rfl) rfl ?_
      refine v_ic (hz_X12_supper hT _ _ rfl) (fun _ => ?_) (fun hc6 => absurd (show (1 : Int) = 1 from (by decide)) hc6)
      refine v_load (v := (2, 121)) (hz_X12_supper hT _ _ rfl) rfl rfl ?_
      refine v_push (8) (hz_X12_supper hT _ _ rfl) rfl ?_
      refine v_call (w := 2) [some (2, 121), some (0, 8)] hO (hz_X12_supper hT _ _ rfl) rfl rfl ?_
      refine v_load (v := (2, 121)) (hi_X12_refuse_0 hT) rfl rfl ?_
      refine v_load (v := (0, 8)) (hi_X12_refuse_1 hT) rfl rfl ?_
      refine v_putf (r := 121) hO (hi_X12_refuse_2 hT) rfl (fun hf7 => ?_)
      refine v_push (-1) (hi_X12_refuse_5 hT) rfl ?_
      refine v_ret (hi_X12_refuse_6 hT) (Or.inl rfl) ?_
      show vP D T N 321 253 (zset h 121 0 (0, 8)) [some (2, 121), some (0, (j : Int)), some (0, 1), some (0, z), some (0, (n : Int)), o5, o6, o7] [(0, -1)] _
      refine v_goto (hz_X12_supper hT _ _ rfl) ?_
      refine v_ret (hi_X12_supper_262 hT) (Or.inl rfl) ?_
      exact k1 hc3 hc5
    · have hc5 : z ≠ 3 := hc5
      refine v_load (v := (2, 121)) (hz_X12_supper hT _ _ rfl) rfl rfl ?_
      refine v_getR (c := 133) (r := 121) (hz_X12_supper hT _ _ rfl) rfl rfl rfl ?_
      refine v_load (v := (0, z)) (hz_X12_supper hT _ _ rfl) rfl rfl ?_
      refine v_ald (t := 0) (r := 133) (hz_X12_supper hT _ _ rfl) rfl rfl rfl (fun ha8 hb9 => ?_)
      refine v_ret (hi_X12_supper_262 hT) (Or.inl rfl) ?_
      exact k2 hc3 hc5 ha8 hb9
theorem qs_sup221_2 {D : zD} {T : zT} (hT : hTab T) (hO : vOK T) {N : Nat} {h : zH} {Q : zR → Prop} {j n : Nat} (z t0 : Int) (o5 o6 o7 : Option zV) (hv0 : zHv h) (u0 : h 133 0 = (0, t0)) (bz : 0 ≤ z ∧ z ≤ 3)
    (k0 : (t0 < 0) → Q (zset h 121 0 (0, 9), some (0, -1)))
    (k1 : (0 ≤ t0) → (z = 3) → (0 ≤ z) → (z < 4) → Q (h, some (0, (h 133 z.toNat).2)))
    (k2 : (0 ≤ t0) → (z ≠ 3) → (0 ≤ z) → (z < 4) → Q (h, some (0, (h 133 z.toNat).2))) :
    vP D T N 321 221 h [some (2, 121), some (0, (j : Int)), some (0, 2), some (0, z), some (0, (n : Int)), o5, o6, o7] [] Q := by
  refine v_load (v := (2, 121)) (hz_X12_supper hT _ _ rfl) rfl rfl ?_
  refine v_getR (c := 133) (r := 121) (hz_X12_supper hT _ _ rfl) rfl rfl rfl ?_
  refine v_push (0) (hz_X12_supper hT _ _ rfl) rfl ?_
  refine v_aldV (v := (0, t0)) (r := 133) (hz_X12_supper hT _ _ rfl) rfl rfl (fun _ _ _ => u0) (fun ha1 hb2 => ?_)
  refine v_if (hz_X12_supper hT _ _ rfl) (fun hc3 => ?_) (fun hc3 => ?_)
  · have hc3 : t0 < 0 := hc3
    refine v_load (v := (2, 121)) (hz_X12_supper hT _ _ rfl) rfl rfl ?_
    refine v_push (9) (hz_X12_supper hT _ _ rfl) rfl ?_
    refine v_call (w := 2) [some (2, 121), some (0, 9)] hO (hz_X12_supper hT _ _ rfl) rfl rfl ?_
    refine v_load (v := (2, 121)) (hi_X12_refuse_0 hT) rfl rfl ?_
    refine v_load (v := (0, 9)) (hi_X12_refuse_1 hT) rfl rfl ?_
    refine v_putf (r := 121) hO (hi_X12_refuse_2 hT) rfl (fun hf4 => ?_)
    refine v_push (-1) (hi_X12_refuse_5 hT) rfl ?_
    refine v_ret (hi_X12_refuse_6 hT) (Or.inl rfl) ?_
    show vP D T N 321 236 (zset h 121 0 (0, 9)) [some (2, 121), some (0, (j : Int)), some (0, 2), some (0, z), some (0, (n : Int)), o5, o6, o7] [(0, -1)] _
    refine v_ret (hz_X12_supper hT _ _ rfl) (Or.inl rfl) ?_
    exact k0 hc3
  · have hc3 : 0 ≤ t0 := Int.not_lt.mp hc3
    refine v_load (v := (0, z)) (hz_X12_supper hT _ _ rfl) rfl rfl ?_
    refine v_push (3) (hz_X12_supper hT _ _ rfl) rfl ?_
    refine v_ic (hz_X12_supper hT _ _ rfl) (fun hc5 => ?_) (fun hc5 => ?_)
    · have hc5 : z = 3 := hc5
      refine v_load (v := (0, 2)) (hz_X12_supper hT _ _ rfl) rfl rfl ?_
      refine v_push (1) (hz_X12_supper hT _ _ rfl) rfl ?_
      refine v_ic (hz_X12_supper hT _ _ rfl) (fun hc6 => absurd (show (2 : Int) = 1 from hc6) (by decide)) (fun _ => ?_)
      refine v_load (v := (2, 121)) (hz_X12_supper hT _ _ rfl) rfl rfl ?_
      refine v_getR (c := 133) (r := 121) (hz_X12_supper hT _ _ rfl) rfl rfl rfl ?_
      refine v_load (v := (0, z)) (hz_X12_supper hT _ _ rfl) rfl rfl ?_
      refine v_ald (t := 0) (r := 133) (hz_X12_supper hT _ _ rfl) rfl rfl rfl (fun ha7 hb8 => ?_)
      refine v_ret (hi_X12_supper_262 hT) (Or.inl rfl) ?_
      exact k1 hc3 hc5 ha7 hb8
    · have hc5 : z ≠ 3 := hc5
      refine v_load (v := (2, 121)) (hz_X12_supper hT _ _ rfl) rfl rfl ?_
      refine v_getR (c := 133) (r := 121) (hz_X12_supper hT _ _ rfl) rfl rfl rfl ?_
      refine v_load (v := (0, z)) (hz_X12_supper hT _ _ rfl) rfl rfl ?_
      refine v_ald (t := 0) (r := 133) (hz_X12_supper hT _ _ rfl) rfl rfl rfl (fun ha9 hb10 => ?_)
      refine v_ret (hi_X12_supper_262 hT) (Or.inl rfl) ?_
      exact k2 hc3 hc5 ha9 hb10
/-! supper: the reference -/
theorem mC_b {P : PT} {m : Nat} (hb : fB P) (hm : (m : Int) < P 0 3) : mC P m = -1 ∨ (0 ≤ mC P m ∧ mC P m < 1000000) := by
  obtain ⟨_, ⟨_, g6⟩, _⟩ := hb.2.2.2 m hm
  have bd := (dW_ok (P := P) (co := gCo P (P 8 m).toNat) (to := (P 7 m).toNat)).2.1.1 _ g6
  have w6 : wFar = 1000000 := rfl
  unfold mC yCost
  split
  · exact Or.inr (by omega)
  · exact Or.inl rfl
noncomputable def suR (P : PT) (j : Nat) : Nat → Nat
  | 0 => 0
  | n + 1 => suR P j n + (if P 8 n = (j : Int) ∧ mC P n ≠ -1 then 1 else 0)
noncomputable def suC (P : PT) (j : Nat) : Nat → Int
  | 0 => 0
  | n + 1 => suC P j n + (if P 8 n = (j : Int) ∧ mC P n ≠ -1 then mC P n else 0)
def suF (h g : zH) : Prop := ∀ a b, ¬ (a = 130 ∨ (a = 121 ∧ (b = 34 ∨ b = 35))) → g a b = h a b
theorem rx_suL {D : zD} {T : zT} (hT : hTab T) (hO : vOK T) {N : Nat} {Q : zR → Prop} {P : PT} {j : Nat} (hb : fB P) : ∀ (r m : Nat) (h : zH) (o : Option zV), (m : Int) + (r : Int) = P 0 3 → rBk 0 P h → h 121 34 = (0, (suR P j m : Int)) → h 121 35 = (0, suC P j m) → (suR P j m ≤ m ∧ 0 ≤ suC P j m ∧ suC P j m ≤ 1000000 * (m : Int)) → (∀ g : zH, g 121 34 = (0, (suR P j (P 0 3).toNat : Int)) → g 121 35 = (0, suC P j (P 0 3).toNat) → suF h g → Q (g, none)) → vP D T N 320 12 h [some (2, 121), some (0, (j : Int)), some (0, (m : Int)), o] [] Q
  | 0, m, h, o, hm, hR, e34, e35, bd, k => by
    have e : (P 0 3).toNat = m := by omega
    rw [e] at k
    exact vP_dn (vP_hv (fun hv => qr_su9 hT hO o hv hR.m (by omega) (k h e34 e35 (fun _ _ _ => rfl))))
  | r + 1, m, h, o, hm, hR, e34, e35, bd, k => by
    have lb := hb.1
    have h3 : (m : Int) < P 0 3 := by omega
    have m6 : m < 6 := by have := lb.2.2.2.2; omega
    obtain ⟨b1, b2, b3⟩ := bd
    refine vP_dn (vP_hv (fun hv => qr_su12 hT hO o hv hR.m (hR.by h3) h3 m6 (fun _ _ c => ?_) (fun _ _ c => ?_)))
    · refine rx_cw hT hO m hR hb h3 (fun g u => ?_)
      have hR1 : rBk 0 P g := hR.eq lb (fun b _ _ => u 126 b (by decide))
      rcases mC_b hb h3 with q | ⟨q1, q2⟩
      · have e : cwC P m = 1000000 := if_pos q
        have s1 : suR P j (m + 1) = suR P j m := by
          show suR P j m + (if P 8 m = (j : Int) ∧ mC P m ≠ -1 then 1 else 0) = _
          rw [if_neg (fun d => d.2 q), Nat.add_zero]
        have s2 : suC P j (m + 1) = suC P j m := by
          show suC P j m + (if P 8 m = (j : Int) ∧ mC P m ≠ -1 then mC P m else 0) = _
          rw [if_neg (fun d => d.2 q), Int.add_zero]
        rw [e]
        show vP D T N 320 44 g [some (2, 121), some (0, (j : Int)), some (0, (m : Int)), o] [(0, 1000000)] Q
        refine vP_hv (fun hv => qr_su44f hT hO o hv m6 ?_)
        exact rx_suL hT hO hb r (m + 1) g _ (by omega) hR1 (by rw [s1]; exact (u 121 34 (by decide)).trans e34) (by rw [s2]; exact (u 121 35 (by decide)).trans e35) (by rw [s1, s2]; omega) (fun g2 x1 x2 x3 => k g2 x1 x2 (fun a b hn => (x3 a b hn).trans (u a b (fun e => hn (Or.inl e)))))
      · have q0 : mC P m ≠ -1 := by omega
        have e : cwC P m = mC P m := if_neg q0
        have s1 : suR P j (m + 1) = suR P j m + 1 := by
          show suR P j m + (if P 8 m = (j : Int) ∧ mC P m ≠ -1 then 1 else 0) = _
          rw [if_pos ⟨c, q0⟩]
        have s2 : suC P j (m + 1) = suC P j m + mC P m := by
          show suC P j m + (if P 8 m = (j : Int) ∧ mC P m ≠ -1 then mC P m else 0) = _
          rw [if_pos ⟨c, q0⟩]
        rw [e]
        show vP D T N 320 44 g [some (2, 121), some (0, (j : Int)), some (0, (m : Int)), o] [(0, mC P m)] Q
        refine vP_hv (fun hv => qr_su44 hT hO (mC P m) (suC P j m) o hv m6 (by omega) ⟨q1, q2⟩ ((u 121 34 (by decide)).trans e34) ((u 121 35 (by decide)).trans e35) (by omega) ⟨b2, by omega⟩ ?_)
        have F : suF h (zset (zset g 121 34 (0, (suR P j m : Int) + 1)) 121 35 (0, suC P j m + mC P m)) := fun a b hn => (zset_ne (fun e => hn (by omega))).trans ((zset_ne (fun e => hn (by omega))).trans (u a b (fun e => hn (Or.inl e))))
        exact rx_suL hT hO hb r (m + 1) (zset (zset g 121 34 (0, (suR P j m : Int) + 1)) 121 35 (0, suC P j m + mC P m)) _ (by omega) ((hR1.z1 lb).z1 lb) (by rw [s1]; exact (zset_ne (by decide)).trans zset_same) (by rw [s2]; exact zset_same) (by rw [s1, s2]; omega) (fun g2 x1 x2 x3 => k g2 x1 x2 (fun a b hn => (x3 a b hn).trans (F a b hn)))
    · have s1 : suR P j (m + 1) = suR P j m := by
        show suR P j m + (if P 8 m = (j : Int) ∧ mC P m ≠ -1 then 1 else 0) = _
        rw [if_neg (fun d => c d.1), Nat.add_zero]
      have s2 : suC P j (m + 1) = suC P j m := by
        show suC P j m + (if P 8 m = (j : Int) ∧ mC P m ≠ -1 then mC P m else 0) = _
        rw [if_neg (fun d => c d.1), Int.add_zero]
      exact rx_suL hT hO hb r (m + 1) h o (by omega) hR (by rw [s1]; exact e34) (by rw [s2]; exact e35) (by rw [s1, s2]; omega) k
abbrev TT4 := Int × Int × Int × Int
def tsU (T : TT4) (r c f s : Int) : TT4 := if T.1 > r ∨ (T.1 = r ∧ T.2.1 ≤ c) then T else (r, c, f, s)
def tdH (T : TT4) (h : zH) : Prop := h 133 0 = (0, T.1) ∧ h 133 1 = (0, T.2.1) ∧ h 133 2 = (0, T.2.2.1) ∧ h 133 3 = (0, T.2.2.2)
def taF (h g : zH) : Prop := ∀ a b, ¬ (a = 130 ∨ a = 133 ∨ (a = 121 ∧ (b = 34 ∨ b = 35))) → g a b = h a b
noncomputable def tsP (P : PT) (j : Nat) (T : TT4) (f s : Int) : TT4 := tsU T (suR P j (P 0 3).toNat : Int) (suC P j (P 0 3).toNat) f s
theorem rx_ta {D : zD} {T : zT} (hT : hTab T) (hO : vOK T) {N : Nat} {h : zH} {Q : zR → Prop} {P : PT} {j : Nat} {K : TT4} (f s : Int) (hR : rBk 0 P h) (hb : fB P) (hK : tdH K h) (k : ∀ g : zH, tdH (tsP P j K f s) g → taF h g → Q (g, none)) : vP D T N 322 0 h [some (2, 121), some (0, (j : Int)), some (0, f), some (0, s)] [] Q := by
  have lb := hb.1
  have l0 := lb.2.2.2.1
  obtain ⟨t0, t1, t2, t3⟩ := hK
  refine vP_hv (fun hv => qr_ta0 hT hO f s hv ?_)
  refine vP_hv (fun hv => qr_su0 hT hO hv ?_)
  refine rx_suL hT hO hb (P 0 3).toNat 0 _ none (by omega) ((hR.z1 lb).z1 lb) ((zset_ne (by decide)).trans zset_same) zset_same ⟨Nat.le_refl _, Int.le_refl _, by show (0 : Int) ≤ 1000000 * ((0 : Nat) : Int); omega⟩ (fun g e34 e35 u => ?_)
  have F : ∀ a b, ¬ (a = 130 ∨ (a = 121 ∧ (b = 34 ∨ b = 35))) → g a b = h a b := fun a b hn => (u a b hn).trans ((zset_ne (fun e => hn (by omega))).trans (zset_ne (fun e => hn (by omega))))
  have v0 := (F 133 0 (by decide)).trans t0
  have v1 := (F 133 1 (by decide)).trans t1
  have v2 := (F 133 2 (by decide)).trans t2
  have v3 := (F 133 3 (by decide)).trans t3
  have same : (K.1 > (suR P j (P 0 3).toNat : Int) ∨ (K.1 = (suR P j (P 0 3).toNat : Int) ∧ K.2.1 ≤ suC P j (P 0 3).toNat)) → Q (g, none) := fun c => by
    have e : tsP P j K f s = K := if_pos c
    exact k g (by rw [e]; exact ⟨v0, v1, v2, v3⟩) (fun a b hn => F a b (fun e => hn (by omega)))
  have new : ¬ (K.1 > (suR P j (P 0 3).toNat : Int) ∨ (K.1 = (suR P j (P 0 3).toNat : Int) ∧ K.2.1 ≤ suC P j (P 0 3).toNat)) → Q (zset (zset (zset (zset g 133 0 (0, (suR P j (P 0 3).toNat : Int))) 133 1 (0, suC P j (P 0 3).toNat)) 133 2 (0, f)) 133 3 (0, s), none) := fun c => by
    have e : tsP P j K f s = ((suR P j (P 0 3).toNat : Int), suC P j (P 0 3).toNat, f, s) := if_neg c
    refine k _ ?_ (fun a b hn => (zset_ne (fun e => hn (by omega))).trans ((zset_ne (fun e => hn (by omega))).trans ((zset_ne (fun e => hn (by omega))).trans ((zset_ne (fun e => hn (by omega))).trans (F a b (fun e => hn (by omega)))))))
    rw [e]
    exact ⟨(zset_ne (by decide)).trans ((zset_ne (by decide)).trans ((zset_ne (by decide)).trans zset_same)), (zset_ne (by decide)).trans ((zset_ne (by decide)).trans zset_same), (zset_ne (by decide)).trans zset_same, zset_same⟩
  show vP D T N 322 5 g [some (2, 121), some (0, (j : Int)), some (0, f), some (0, s)] [] Q
  exact vP_hv (fun hv => qr_ta5 hT hO f s _ _ _ _ hv e34 e35 v0 v1 (fun c => same (Or.inl c)) (fun _ c1 c2 => new (by omega)) (fun _ c1 c2 => same (Or.inr ⟨c1, c2⟩)) (fun c1 c2 => new (by omega)))
theorem pSt_back {P : PT} {j q : Nat} {v : Int} : pSt (pSt P j q v) j q (P 3 (48 * j + q)) = P := by
  funext a b
  show (if a = 3 ∧ b = 48 * j + q then P 3 (48 * j + q) else (if a = 3 ∧ b = 48 * j + q then v else P a b)) = P a b
  by_cases c : a = 3 ∧ b = 48 * j + q
  · rw [if_pos c, c.1, c.2]
  · rw [if_neg c, if_neg c]
end
section
def spF (h g : zH) : Prop := ∀ a b, ¬ (a = 130 ∨ a = 133 ∨ (a = 121 ∧ (b = 34 ∨ b = 35)) ∨ (a = 126 ∧ 101 ≤ b ∧ b < 245)) → g a b = h a b
theorem spF.rfl {h : zH} : spF h h := fun _ _ _ => Eq.refl _
theorem spF.trans {h g g2 : zH} (f : spF h g) (f2 : spF g g2) : spF h g2 := fun a b hn => (f2 a b hn).trans (f a b hn)
theorem taF.sp {h g : zH} (f : taF h g) : spF h g := fun a b hn => f a b (fun e => hn (by omega))
theorem spF.st {j q : Nat} {P : PT} {v : zV} {h : zH} (lb : lB P) (hj : j < 3) (gq : gIn P q) : spF h (zset h 126 ((101 + (48 * (j : Int))) + ((gJ P q : Nat) : Int)).toNat v) := fun a b hn => by
  have := gJ_lt lb gq
  exact zset_ne (fun e => hn (by omega))
theorem tdH.fr {K : TT4} {h g : zH} (t : tdH K h) (f : ∀ b, g 133 b = h 133 b) : tdH K g := ⟨(f 0).trans t.1, (f 1).trans t.2.1, (f 2).trans t.2.2.1, (f 3).trans t.2.2.2⟩
noncomputable def sbT (P1 : PT) (j : Nat) (fa : Int) : Nat → Nat → TT4 → TT4
  | 0, _, K => K
  | r + 1, n, K => sbT P1 j fa r (n + 1) (@ite TT4 (ifP P1 j (gQ P1 n)) (Classical.propDecidable _) (tsP (pSt P1 j (gQ P1 n) 1) j K fa (n : Int)) K)
theorem rx_sbL {D : zD} {T : zT} (hT : hTab T) (hO : vOK T) {N : Nat} {Q : zR → Prop} {P : PT} {j a : Nat} {z w : Int} (hb : fB P) (hj : j < 3) : ∀ (r n : Nat) (h : zH) (K : TT4) (o7 : Option zV), n + r = (P 0 0).toNat * (P 0 1).toNat → rBk 0 P h → tdH K h → (∀ (g : zH) (n' : Nat) (o : Option zV), tdH (sbT P j ((gJ P a : Nat) : Int) r n K) g → rBk 0 P g → spF h g → vP D T N 321 202 g [some (2, 121), some (0, (j : Int)), some (0, 2), some (0, z), some (0, ((gJ P a : Nat) : Int)), some (0, w), some (0, (n' : Int)), o] [] Q) → vP D T N 321 126 h [some (2, 121), some (0, (j : Int)), some (0, 2), some (0, z), some (0, ((gJ P a : Nat) : Int)), some (0, w), some (0, (n : Int)), o7] [] Q
  | 0, n, h, K, o7, hn, hR, hK, k => by
    have e := wr_i hb.1
    have hn : n = (P 0 0).toNat * (P 0 1).toNat := hn
    exact vP_hv (fun hv => qs_sup126x (P := P) hT hO z w o7 hv hR.w hR.r hb (by rw [← e, hn]; exact Int.le_refl _) (k h n o7 hK hR spF.rfl))
  | r + 1, n, h, K, o7, hn, hR, hK, k => by
    have e := wr_i hb.1
    have lb := hb.1
    have w48 := wr_48 hb.1
    obtain ⟨gq, ej⟩ := gQ_ok hb.1 (n := n) (by omega)
    have lj := gJ_lt lb gq
    have go : vP D T N 321 126 h [some (2, 121), some (0, (j : Int)), some (0, 2), some (0, z), some (0, ((gJ P a : Nat) : Int)), some (0, w), some (0, ((gJ P (gQ P n) : Nat) : Int)), o7] [] Q := by
      refine vP_hv (fun hv => qs_sup126 (P := P) (q := gQ P n) hT hO z w o7 hv hR.w hR.r hb gq lj hj (by rw [ej, ← e]; omega) ?_)
      refine rx_if hT hO hR hb hj gq (fun c => ?_) (fun c => ?_)
      · show vP D T N 321 147 h [some (2, 121), some (0, (j : Int)), some (0, 2), some (0, z), some (0, ((gJ P a : Nat) : Int)), some (0, w), some (0, ((gJ P (gQ P n) : Nat) : Int)), o7] [(0, 1)] Q
        refine vP_hv (fun hv => qs_sup147y hT hO z w o7 hv hR hb gq lj hj (fun _ _ => ?_))
        have R1 := hR.s3 lb hj gq (v := 1)
        have b1 : fB (pSt P j (gQ P n) 1) := hb.s3 (by decide)
        refine rx_ta hT hO (P := pSt P j (gQ P n) 1) _ _ R1 b1 (K := K) (hK.fr (fun b => zset_ne (fun e => absurd e.1 (by decide)))) (fun g t1 f1 => ?_)
        show vP D T N 321 183 g [some (2, 121), some (0, (j : Int)), some (0, 2), some (0, z), some (0, ((gJ P a : Nat) : Int)), some (0, w), some (0, ((gJ P (gQ P n) : Nat) : Int)), some (0, P 3 (48 * j + gQ P n))] [] Q
        have F0 : spF h (zset h 126 ((101 + (48 * (j : Int))) + ((gJ P (gQ P n) : Nat) : Int)).toNat (0, 1)) := spF.st lb hj gq
        have Rg : rBk 0 (pSt P j (gQ P n) 1) g := R1.eq lb (fun b _ _ => f1 126 b (by omega))
        have R2 := Rg.s3 (show lB (pSt P j (gQ P n) 1) from lb) hj gq (v := P 3 (48 * j + gQ P n))
        rw [pSt_back] at R2
        refine vP_hv (fun hv => qs_sup183 (P := P) hT hO z w _ hv lj hj (fun _ _ => ?_))
        have ek : (@ite TT4 (ifP P j (gQ P n)) (Classical.propDecidable _) (tsP (pSt P j (gQ P n) 1) j K ((gJ P a : Nat) : Int) (n : Int)) K) = tsP (pSt P j (gQ P n) 1) j K ((gJ P a : Nat) : Int) (n : Int) := if_pos c
        rw [show (((gJ P (gQ P n) : Nat) : Int) + 1) = ((n + 1 : Nat) : Int) from by rw [ej]; rfl]
        rw [show ((gJ P (gQ P n) : Nat) : Int) = (n : Int) from by rw [ej]] at t1
        refine rx_sbL hT hO hb hj r (n + 1) _ _ _ (by omega) R2 (t1.fr (fun b => zset_ne (fun e => absurd e.1 (by decide)))) (fun g2 n' o x1 x2 x3 => k g2 n' o ?_ x2 (((F0.trans f1.sp).trans (spF.st lb hj gq)).trans x3))
        show tdH (sbT P j ((gJ P a : Nat) : Int) r (n + 1) (@ite TT4 (ifP P j (gQ P n)) (Classical.propDecidable _) (tsP (pSt P j (gQ P n) 1) j K ((gJ P a : Nat) : Int) (n : Int)) K)) g2
        rw [ek]
        exact x1
      · show vP D T N 321 147 h [some (2, 121), some (0, (j : Int)), some (0, 2), some (0, z), some (0, ((gJ P a : Nat) : Int)), some (0, w), some (0, ((gJ P (gQ P n) : Nat) : Int)), o7] [(0, 0)] Q
        refine vP_hv (fun hv => qs_sup147n (P := P) hT hO z w o7 hv lj ?_)
        have ek : (@ite TT4 (ifP P j (gQ P n)) (Classical.propDecidable _) (tsP (pSt P j (gQ P n) 1) j K ((gJ P a : Nat) : Int) (n : Int)) K) = K := if_neg c
        rw [show (((gJ P (gQ P n) : Nat) : Int) + 1) = ((n + 1 : Nat) : Int) from by rw [ej]; rfl]
        refine rx_sbL hT hO hb hj r (n + 1) h K _ (by omega) hR hK (fun g2 n' o x1 x2 x3 => k g2 n' o ?_ x2 x3)
        show tdH (sbT P j ((gJ P a : Nat) : Int) r (n + 1) (@ite TT4 (ifP P j (gQ P n)) (Classical.propDecidable _) (tsP (pSt P j (gQ P n) 1) j K ((gJ P a : Nat) : Int) (n : Int)) K)) g2
        rw [ek]
        exact x1
    rw [ej] at go
    exact go
/-- the outer loop: mn cells a meal -/
noncomputable def saT (P : PT) (j mn : Nat) : Nat → Nat → TT4 → TT4
  | 0, _, K => K
  | r + 1, n, K => saT P j mn r (n + 1) (@ite TT4 (ifP P j (gQ P n)) (Classical.propDecidable _) (if mn = 1 then tsP (pSt P j (gQ P n) 1) j K (n : Int) (-1) else sbT (pSt P j (gQ P n) 1) j (n : Int) r (n + 1) K) K)
theorem rx_saL {D : zD} {T : zT} (hT : hTab T) (hO : vOK T) {N : Nat} {Q : zR → Prop} {P : PT} {j mn : Nat} {z : Int} (hb : fB P) (hj : j < 3) (hmn : mn = 1 ∨ mn = 2) : ∀ (r n : Nat) (h : zH) (K : TT4) (o5 o6 o7 : Option zV), n + r = (P 0 0).toNat * (P 0 1).toNat → rBk 0 P h → tdH K h → (∀ (g : zH) (n' : Nat) (p5 p6 p7 : Option zV), tdH (saT P j mn r n K) g → rBk 0 P g → spF h g → vP D T N 321 221 g [some (2, 121), some (0, (j : Int)), some (0, (mn : Int)), some (0, z), some (0, (n' : Int)), p5, p6, p7] [] Q) → vP D T N 321 64 h [some (2, 121), some (0, (j : Int)), some (0, (mn : Int)), some (0, z), some (0, (n : Int)), o5, o6, o7] [] Q
  | 0, n, h, K, o5, o6, o7, hn, hR, hK, k => by
    have e := wr_i hb.1
    have hn : n = (P 0 0).toNat * (P 0 1).toNat := hn
    exact vP_hv (fun hv => qs_sup64x (P := P) hT hO _ z o5 o6 o7 hv hR.w hR.r hb (by rw [← e, hn]; exact Int.le_refl _) (k h n o5 o6 o7 hK hR spF.rfl))
  | r + 1, n, h, K, o5, o6, o7, hn, hR, hK, k => by
    have e := wr_i hb.1
    have lb := hb.1
    have w48 := wr_48 hb.1
    obtain ⟨gq, ej⟩ := gQ_ok hb.1 (n := n) (by omega)
    have lj := gJ_lt lb gq
    have e1 : (((gJ P (gQ P n) : Nat) : Int) + 1) = ((n + 1 : Nat) : Int) := by rw [ej]; rfl
    have e0 : ((gJ P (gQ P n) : Nat) : Int) = (n : Int) := by rw [ej]
    have b1 : fB (pSt P j (gQ P n) 1) := hb.s3 (by decide)
    have F0 : spF h (zset h 126 ((101 + (48 * (j : Int))) + ((gJ P (gQ P n) : Nat) : Int)).toNat (0, 1)) := spF.st lb hj gq
    -- behind all of a
    have nx : ∀ (g : zH) (K' : TT4) (p5 p6 p7 : Option zV), (@ite TT4 (ifP P j (gQ P n)) (Classical.propDecidable _) (if mn = 1 then tsP (pSt P j (gQ P n) 1) j K (n : Int) (-1) else sbT (pSt P j (gQ P n) 1) j (n : Int) r (n + 1) K) K) = K' → rBk 0 P g → tdH K' g → spF h g → vP D T N 321 64 g [some (2, 121), some (0, (j : Int)), some (0, (mn : Int)), some (0, z), some (0, (((gJ P (gQ P n) : Nat) : Int) + 1)), p5, p6, p7] [] Q := fun g K' p5 p6 p7 ek hR' hK' F => by
      rw [e1]
      refine rx_saL hT hO hb hj hmn r (n + 1) g K' p5 p6 p7 (by omega) hR' hK' (fun g2 n' q5 q6 q7 x1 x2 x3 => k g2 n' q5 q6 q7 ?_ x2 (F.trans x3))
      show tdH (saT P j mn r (n + 1) (@ite TT4 (ifP P j (gQ P n)) (Classical.propDecidable _) (if mn = 1 then tsP (pSt P j (gQ P n) 1) j K (n : Int) (-1) else sbT (pSt P j (gQ P n) 1) j (n : Int) r (n + 1) K) K)) g2
      rw [ek]
      exact x1
    -- the state given back
    have gb : ∀ (g : zH) (K' : TT4) (p6 p7 : Option zV), ifP P j (gQ P n) → (if mn = 1 then tsP (pSt P j (gQ P n) 1) j K (n : Int) (-1) else sbT (pSt P j (gQ P n) 1) j (n : Int) r (n + 1) K) = K' → rBk 0 (pSt P j (gQ P n) 1) g → tdH K' g → spF h g → vP D T N 321 202 g [some (2, 121), some (0, (j : Int)), some (0, (mn : Int)), some (0, z), some (0, ((gJ P (gQ P n) : Nat) : Int)), some (0, P 3 (48 * j + gQ P n)), p6, p7] [] Q := fun g K' p6 p7 c ek Rg hK' F => by
      have R2 := Rg.s3 (show lB (pSt P j (gQ P n) 1) from lb) hj gq (v := P 3 (48 * j + gQ P n))
      rw [pSt_back] at R2
      refine vP_hv (fun hv => qs_sup202 (P := P) hT hO _ z _ p6 p7 hv lj hj (fun _ _ => ?_))
      refine nx _ K' _ _ _ ((if_pos c).trans ek) R2 (hK'.fr (fun b => zset_ne (fun e => absurd e.1 (by decide)))) (F.trans (spF.st lb hj gq))
    have go : vP D T N 321 64 h [some (2, 121), some (0, (j : Int)), some (0, (mn : Int)), some (0, z), some (0, ((gJ P (gQ P n) : Nat) : Int)), o5, o6, o7] [] Q := by
      refine vP_hv (fun hv => qs_sup64 (P := P) (q := gQ P n) hT hO _ z o5 o6 o7 hv hR.w hR.r hb gq lj hj (by rw [ej, ← e]; omega) ?_)
      refine rx_if hT hO hR hb hj gq (fun c => ?_) (fun c => ?_)
      · have R1 := hR.s3 lb hj gq (v := 1)
        rcases hmn with rfl | rfl
        · show vP D T N 321 80 h [some (2, 121), some (0, (j : Int)), some (0, 1), some (0, z), some (0, ((gJ P (gQ P n) : Nat) : Int)), o5, o6, o7] [(0, 1)] Q
          refine vP_hv (fun hv => qs_sup80y1 hT hO z o5 o6 o7 hv hR hb gq lj hj (fun _ _ => ?_))
          refine rx_ta hT hO (P := pSt P j (gQ P n) 1) _ _ R1 b1 (K := K) (hK.fr (fun b => zset_ne (fun e => absurd e.1 (by decide)))) (fun g t1 f1 => ?_)
          have Rg : rBk 0 (pSt P j (gQ P n) 1) g := R1.eq lb (fun b _ _ => f1 126 b (by omega))
          rw [e0] at t1
          show vP D T N 321 120 g [some (2, 121), some (0, (j : Int)), some (0, 1), some (0, z), some (0, ((gJ P (gQ P n) : Nat) : Int)), some (0, P 3 (48 * j + gQ P n)), o6, o7] [] Q
          refine vP_hv (fun hv => qs_sup120_1 (P := P) hT hO z _ o6 o7 hv lj ?_)
          rw [e1]
          have q := gb g _ (some (0, ((n + 1 : Nat) : Int))) o7 c (if_pos rfl) Rg t1 (F0.trans f1.sp)
          exact vP_hv (fun hv => qs_sup126e (P := pSt P j (gQ P n) 1) (a := gQ P n) hT hO z _ o7 hv Rg.w Rg.r b1 (fun _ => q) (fun _ => q))
        · show vP D T N 321 80 h [some (2, 121), some (0, (j : Int)), some (0, 2), some (0, z), some (0, ((gJ P (gQ P n) : Nat) : Int)), o5, o6, o7] [(0, 1)] Q
          refine vP_hv (fun hv => qs_sup80y2 hT hO z o5 o6 o7 hv hR hb gq lj hj (fun _ _ => ?_))
          rw [e1]
          refine rx_sbL hT hO (P := pSt P j (gQ P n) 1) (a := gQ P n) b1 hj r (n + 1) _ K o7 (show n + 1 + r = (P 0 0).toNat * (P 0 1).toNat by omega) R1 (hK.fr (fun b => zset_ne (fun e => absurd e.1 (by decide)))) (fun g n' o x1 x2 x3 => ?_)
          have ea : ((gJ (pSt P j (gQ P n) 1) (gQ P n) : Nat) : Int) = (n : Int) := e0
          rw [ea] at x1
          exact gb g _ _ _ c (if_neg (by decide)) x2 x1 (F0.trans x3)
      · show vP D T N 321 80 h [some (2, 121), some (0, (j : Int)), some (0, (mn : Int)), some (0, z), some (0, ((gJ P (gQ P n) : Nat) : Int)), o5, o6, o7] [(0, 0)] Q
        exact vP_hv (fun hv => qs_sup80n (P := P) hT hO _ z o5 o6 o7 hv lj (nx h K _ _ _ (if_neg c) hR hK spF.rfl))
    rw [ej] at go
    exact go
end
section
def rSF (h g : zH) : Prop := ∀ a b, ¬ (a = 130 ∨ a = 133 ∨ (a = 121 ∧ (b ≤ 1 ∨ b = 34 ∨ b = 35)) ∨ (a = 126 ∧ 101 ≤ b ∧ b < 245)) → g a b = h a b
def kSel (K : TT4) (z : Int) : Int := if z = 0 then K.1 else if z = 1 then K.2.1 else if z = 2 then K.2.2.1 else K.2.2.2
abbrev okU (P : PT) (x y z : Int) : Prop := 0 ≤ x ∧ x < P 0 2 ∧ 1 ≤ y ∧ y ≤ 2 ∧ 0 ≤ z ∧ z ≤ 3
def supV (K : TT4) (y z : Int) : Int := if K.1 < 0 then -1 else if y = 1 ∧ z = 3 then -1 else kSel K z
theorem rx_supper {D : zD} {T : zT} (hT : hTab T) (hO : vOK T) {N : Nat} {h : zH} {P : PT} (hR : rBk 0 P h) (hb : fB P) (x y z : Int) : vP D T N 321 0 h [some (2, 121), some (0, x), some (0, y), some (0, z), none, none, none, none] [] (fun r => rBk 0 P r.1 ∧ rSF h r.1 ∧ ((¬ okU P x y z ∧ r.2 = some (0, -1)) ∨ (okU P x y z ∧ ∃ u1 u2 u3 : Int, r.2 = some (0, supV (saT P x.toNat y.toNat ((P 0 0).toNat * (P 0 1).toNat) 0 (-1, u1, u2, u3)) y z)))) := by
  refine vP_hv (fun hv => ?_)
  have lb := hb.1
  have l3 := lb.2.2.1.2
  have F2 : rSF h (zset (zset h 121 1 (0, 0)) 121 0 (0, 0)) := fun a b hn => (zset_ne (fun e => hn (by omega))).trans (zset_ne (fun e => hn (by omega)))
  have hR2 : rBk 0 P (zset (zset h 121 1 (0, 0)) 121 0 (0, 0)) := (hR.z1 lb).z1 lb
  have no : ∀ v : Int, ¬ okU P x y z → rBk 0 P (zset (zset (zset h 121 1 (0, 0)) 121 0 (0, 0)) 121 0 (0, v)) ∧ rSF h (zset (zset (zset h 121 1 (0, 0)) 121 0 (0, 0)) 121 0 (0, v)) ∧ ((¬ okU P x y z ∧ (some ((0, -1) : zV)) = some (0, -1)) ∨ (okU P x y z ∧ ∃ u1 u2 u3 : Int, (some ((0, -1) : zV)) = some (0, supV (saT P x.toNat y.toNat ((P 0 0).toNat * (P 0 1).toNat) 0 (-1, u1, u2, u3)) y z))) := fun v c => ⟨hR2.z1 lb, fun a b hn => (zset_ne (fun e => hn (by omega))).trans (F2 a b hn), Or.inl ⟨c, rfl⟩⟩
  refine qs_sup0 (P := P) hT hO x y z hv hR.w hR.r hR.c hR.m lb ?k0 ?k1 ?k2 ?k3 ?k4 ?k5 ?k6
  case k6 =>
    intro c1 c2 c3 c4 c5 c6
    have ok : okU P x y z := ⟨c1, by omega, c3, c4, c5, c6⟩
    obtain ⟨j, rfl⟩ : ∃ j : Nat, x = (j : Int) := ⟨x.toNat, by omega⟩
    obtain ⟨mn, rfl⟩ : ∃ mn : Nat, y = (mn : Int) := ⟨y.toNat, by omega⟩
    have hmn : mn = 1 ∨ mn = 2 := by omega
    refine vP_hv (fun hv1 => qs_sup54 hT hO (mn : Int) z hv1 ?_)
    have u1 : h 133 1 = (0, (h 133 1).2) := hv.eta (by decide +kernel)
    have u2 : h 133 2 = (0, (h 133 2).2) := hv.eta (by decide +kernel)
    have u3 : h 133 3 = (0, (h 133 3).2) := hv.eta (by decide +kernel)
    have K0 : tdH (-1, (h 133 1).2, (h 133 2).2, (h 133 3).2) (zset (zset (zset h 121 1 (0, 0)) 121 0 (0, 0)) 133 0 (0, -1)) := ⟨zset_same, (zset_ne (by decide)).trans ((zset_ne (by decide)).trans ((zset_ne (by decide)).trans u1)), (zset_ne (by decide)).trans ((zset_ne (by decide)).trans ((zset_ne (by decide)).trans u2)), (zset_ne (by decide)).trans ((zset_ne (by decide)).trans ((zset_ne (by decide)).trans u3))⟩
    have R3 : rBk 0 P (zset (zset (zset h 121 1 (0, 0)) 121 0 (0, 0)) 133 0 (0, -1)) := hR2.eq lb (fun b _ _ => zset_ne (by omega))
    refine rx_saL hT hO hb (show j < 3 by omega) hmn ((P 0 0).toNat * (P 0 1).toNat) 0 _ _ none none none (Nat.zero_add _) R3 K0 (fun g n' p5 p6 p7 x1 x2 x3 => ?_)
    have F3 : rSF h g := fun a b hn => (x3 a b (fun e => hn (by omega))).trans ((zset_ne (fun e => hn (by omega))).trans (F2 a b hn))
    generalize eK : saT P j mn ((P 0 0).toNat * (P 0 1).toNat) 0 (-1, (h 133 1).2, (h 133 2).2, (h 133 3).2) = K at x1
    have fin : ∀ (g' : zH) (v : Int), rBk 0 P g' → rSF h g' → v = supV K (mn : Int) z → rBk 0 P g' ∧ rSF h g' ∧ ((¬ okU P (j : Int) (mn : Int) z ∧ (some ((0, v) : zV)) = some (0, -1)) ∨ (okU P (j : Int) (mn : Int) z ∧ ∃ u1 u2 u3 : Int, (some ((0, v) : zV)) = some (0, supV (saT P ((j : Int)).toNat ((mn : Int)).toNat ((P 0 0).toNat * (P 0 1).toNat) 0 (-1, u1, u2, u3)) (mn : Int) z))) := fun g' v y1 y2 y3 => ⟨y1, y2, Or.inr ⟨ok, (h 133 1).2, (h 133 2).2, (h 133 3).2, by rw [y3, ← eK]; rfl⟩⟩
    have sel : 0 ≤ K.1 → ¬ ((mn : Int) = 1 ∧ z = 3) → (g 133 z.toNat).2 = supV K (mn : Int) z := fun q1 q2 => by
      unfold supV kSel
      rw [if_neg (by omega), if_neg q2]
      have : z = 0 ∨ z = 1 ∨ z = 2 ∨ z = 3 := by omega
      rcases this with rfl | rfl | rfl | rfl
      · exact congrArg Prod.snd x1.1
      · exact congrArg Prod.snd x1.2.1
      · exact congrArg Prod.snd x1.2.2.1
      · exact congrArg Prod.snd x1.2.2.2
    have neg : K.1 < 0 → (-1 : Int) = supV K (mn : Int) z := fun q => (if_pos q).symm
    have F4 : ∀ v : zV, rSF h (zset g 121 0 v) := fun v a b hn => (zset_ne (fun e => hn (by omega))).trans (F3 a b hn)
    rcases hmn with rfl | rfl
    · refine vP_hv (fun hv2 => qs_sup221_1 hT hO z K.1 p5 p6 p7 hv2 x1.1 ⟨c5, c6⟩ (fun q => fin _ _ (x2.z1 lb) (F4 _) (neg q)) (fun q1 q2 => fin _ _ (x2.z1 lb) (F4 _) ?_) (fun q1 q2 _ _ => fin g _ x2 F3 (sel q1 (fun d => q2 d.2))))
      unfold supV
      rw [if_neg (by omega), if_pos ⟨rfl, q2⟩]
    · exact vP_hv (fun hv2 => qs_sup221_2 hT hO z K.1 p5 p6 p7 hv2 x1.1 ⟨c5, c6⟩ (fun q => fin _ _ (x2.z1 lb) (F4 _) (neg q)) (fun q1 q2 _ _ => fin g _ x2 F3 (sel q1 (fun d => absurd d.1 (by decide)))) (fun q1 q2 _ _ => fin g _ x2 F3 (sel q1 (fun d => q2 d.2))))
  all_goals
    intros
    exact no _ (by rintro ⟨o1, o2, o3, o4, o5, o6⟩; omega)
theorem fRw_supper {D : zD} (_ : ∀ i, -2147483648 ≤ D.2 i ∧ D.2 i ≤ 2147483647) {h h1 h2 : zH} {x y z v1 v2 : Int} (hZ : lZ D h) (hZ1 : lZ D h1) (hR : fR h) (z1 : zRun D TLw 614 184 0 (h, zargs 0 [(2, 0), (0, x), (0, y), (0, z)], []) (h1, some (0, v1))) (f1 : aFr lM_184 h h1) (z2 : zRun D TLw 614 321 0 (h1, zargs 0 [(2, 121), (0, x), (0, y), (0, z)], []) (h2, some (0, v2))) (f2 : aFr lM_321 h1 h2) : fR h2 ∧ True := by
  have k1 : ∀ a k, aIn fpS a k → h1 a k = h a k := fun a k hi => f1.keep (by decide +kernel) hi
  refine ⟨⟨lR_S h h2 (fun a k hi => (f2.keep (by decide +kernel) hi).trans (k1 a k (aIn_l hi))) hR.1, ?_⟩, trivial⟩
  obtain ⟨hM, r, c, s1, s2, s3, P, p1, p2, p3, p4, o⟩ := fX_S k1 hR.2
  obtain ⟨q1, q2, _⟩ := hZ1.run 8 z2 (Q := fun r => rBk 0 P r.1 ∧ rSF h1 r.1 ∧ ((¬ okU P x y z ∧ r.2 = some (0, -1)) ∨ (okU P x y z ∧ ∃ u1 u2 u3 : Int, r.2 = some (0, supV (saT P x.toNat y.toNat ((P 0 0).toNat * (P 0 1).toNat) 0 (-1, u1, u2, u3)) y z)))) (fun N => rx_supper TLw_T vOK_T p2 p3 x y z)
  exact fX_up hM s1 s2 s3 o pSh.rfl (fun a b hf => q2 a b (by unfold fOut at hf; omega)) (p1.eq (fun a b h1 h2 => q2 a b (by have := s1.c2; omega))) q1 p3 p4
end
section
theorem qr_wt0 {D : zD} {T : zT} (hT : hTab T) (hO : vOK T) {N : Nat} {h : zH} {Q : zR → Prop} {P : PT} {j q : Nat} (hv0 : zHv h) (hR : rBk 0 P h) (hb : fB P) (gq : gIn P q) (hq : gJ P q < 48) (hj : j < 3)
    (k0 : vP D T N 338 13 h [some (2, 121), some (0, (j : Int)), some (0, ((gJ P q : Nat) : Int)), some (0, 0), some (0, (P 3 (48 * j + q))), some (0, 0), none, none] [] Q) :
    vP D T N 338 0 h [some (2, 121), some (0, (j : Int)), some (0, ((gJ P q : Nat) : Int)), none, none, none, none, none] [] Q := by
  refine v_push (0) (hz_X12_worthOf hT _ _ rfl) rfl ?_
  refine v_store1 [some (2, 121), some (0, (j : Int)), some (0, ((gJ P q : Nat) : Int)), some (0, 0), none, none, none, none] (hz_X12_worthOf hT _ _ rfl) ⟨rfl, Nat.ne_of_beq_eq_false rfl⟩ (Nat.le_of_ble_eq_true rfl) rfl ?_
  refine v_load (v := (2, 121)) (hz_X12_worthOf hT _ _ rfl) rfl rfl ?_
  refine v_load (v := (0, (j : Int))) (hz_X12_worthOf hT _ _ rfl) rfl rfl ?_
  refine v_load (v := (0, ((gJ P q : Nat) : Int))) (hz_X12_worthOf hT _ _ rfl) rfl rfl ?_
  refine v_call (w := 3) [some (2, 121), some (0, (j : Int)), some (0, ((gJ P q : Nat) : Int))] hO (hz_X12_worthOf hT _ _ rfl) rfl rfl (rb_st hT hO ((j : Int)) j q rfl (by omega) gq hR hb ?_)
  show vP D T N 338 8 h [some (2, 121), some (0, (j : Int)), some (0, ((gJ P q : Nat) : Int)), some (0, 0), none, none, none, none] [(0, (P 3 (48 * j + q)))] _
  refine v_store1 [some (2, 121), some (0, (j : Int)), some (0, ((gJ P q : Nat) : Int)), some (0, 0), some (0, (P 3 (48 * j + q))), none, none, none] (hz_X12_worthOf hT _ _ rfl) ⟨rfl, Nat.ne_of_beq_eq_false rfl⟩ (Nat.le_of_ble_eq_true rfl) rfl ?_
  refine v_push (0) (hz_X12_worthOf hT _ _ rfl) rfl ?_
  refine v_store1 [some (2, 121), some (0, (j : Int)), some (0, ((gJ P q : Nat) : Int)), some (0, 0), some (0, (P 3 (48 * j + q))), some (0, 0), none, none] (hz_X12_worthOf hT _ _ rfl) ⟨rfl, Nat.ne_of_beq_eq_false rfl⟩ (Nat.le_of_ble_eq_true rfl) rfl ?_
  exact k0 
theorem qr_wt13 {D : zD} {T : zT} (hT : hTab T) (hO : vOK T) {N : Nat} {h : zH} {Q : zR → Prop} {P : PT} {j q m : Nat} (n w : Int) (o6 o7 : Option zV) (hv0 : zHv h) (p3 : h 126 3 = (0, P 0 3)) (eb : h 126 (263 + (m : Int)).toNat = (0, P 8 m)) (hm : (m : Int) < P 0 3) (m6 : m < 6)
    (k0 : (0 ≤ (263 + (m : Int))) → ((263 + (m : Int)) < 2750) → ((P 8 m) = (j : Int)) → vP D T N 210 0 h [some (2, 121), some (0, (m : Int))] [] (fun r1 => vP D T N 338 48 r1.1 [some (2, 121), some (0, (j : Int)), some (0, ((gJ P q : Nat) : Int)), some (0, n), some (0, w), some (0, (m : Int)), o6, o7] (zpush r1.2 []) Q))
    (k1 : (0 ≤ (263 + (m : Int))) → ((263 + (m : Int)) < 2750) → ((P 8 m) ≠ (j : Int)) → vP D T N 338 13 h [some (2, 121), some (0, (j : Int)), some (0, ((gJ P q : Nat) : Int)), some (0, n), some (0, w), some (0, ((m : Int) + 1)), o6, o7] [] Q) :
    vP D T (N + 1) 338 13 h [some (2, 121), some (0, (j : Int)), some (0, ((gJ P q : Nat) : Int)), some (0, n), some (0, w), some (0, (m : Int)), o6, o7] [] Q := by
  refine v_loadS (v := (0, (m : Int))) (hz_X12_worthOf hT _ _ rfl) rfl rfl ?_
  refine v_load (v := (2, 121)) (hz_X12_worthOf hT _ _ rfl) rfl rfl ?_
  refine v_getR (c := 126) (r := 121) (hz_X12_worthOf hT _ _ rfl) rfl rfl rfl ?_
  refine v_push (3) (hz_X12_worthOf hT _ _ rfl) rfl ?_
  refine v_aldV (v := (0, (P 0 3))) (r := 126) (hz_X12_worthOf hT _ _ rfl) rfl rfl (fun _ _ _ => p3) (fun ha1 hb2 => ?_)
  refine v_ic (hz_X12_worthOf hT _ _ rfl) (fun _ => ?_) (fun hc3 => absurd (show (m : Int) < (P 0 3) from hm) hc3)
  refine v_load (v := (2, 121)) (hz_X12_worthOf hT _ _ rfl) rfl rfl ?_
  refine v_getR (c := 126) (r := 121) (hz_X12_worthOf hT _ _ rfl) rfl rfl rfl ?_
  refine v_push (263) (hz_X12_worthOf hT _ _ rfl) rfl ?_
  refine v_load (v := (0, (m : Int))) (hz_X12_worthOf hT _ _ rfl) rfl rfl ?_
  refine v_bin (w := (263 + (m : Int))) (hz_X12_worthOf hT _ _ rfl) (hq_add (by omega) (by omega)) ?_
  refine v_aldB (t := 0) (r := 126) (w := (P 8 m)) (hz_X12_worthOf hT _ _ rfl) rfl rfl rfl (fun _ _ => (congrArg Prod.snd eb)) (fun ha4 hb5 => ?_)
  refine v_load (v := (0, (j : Int))) (hz_X12_worthOf hT _ _ rfl) rfl rfl ?_
  refine v_ic (hz_X12_worthOf hT _ _ rfl) (fun hc6 => ?_) (fun hc6 => ?_)
  · have hc6 : (P 8 m) = (j : Int) := hc6
    refine v_load (v := (2, 121)) (hz_X12_worthOf hT _ _ rfl) rfl rfl ?_
    refine v_load (v := (0, (m : Int))) (hz_X12_worthOf hT _ _ rfl) rfl rfl ?_
    refine v_call (w := 2) [some (2, 121), some (0, (m : Int))] hO (hz_X12_worthOf hT _ _ rfl) rfl rfl ?_
    exact k0 ha4 hb5 hc6
  · have hc6 : (P 8 m) ≠ (j : Int) := hc6
    refine v_goto (hz_X12_worthOf hT _ _ rfl) ?_
    refine v_iinc (x := (m : Int)) (u := 1) (w := ((m : Int) + 1)) [some (2, 121), some (0, (j : Int)), some (0, ((gJ P q : Nat) : Int)), some (0, n), some (0, w), some (0, ((m : Int) + 1)), o6, o7] (hi_X12_worthOf_113 hT) rfl rfl (Nat.le_of_ble_eq_true rfl) (vz_inc (by omega) (by omega)) rfl ?_
    refine v_goto (hi_X12_worthOf_116 hT) ?_
    exact k1 ha4 hb5 hc6
theorem qr_wt9 {D : zD} {T : zT} (hT : hTab T) (hO : vOK T) {N : Nat} {h : zH} {Q : zR → Prop} {P : PT} {j q m : Nat} (n w : Int) (o6 o7 : Option zV) (hv0 : zHv h) (p3 : h 126 3 = (0, P 0 3)) (hm : P 0 3 ≤ (m : Int))
    (k0 : Q (h, some (0, n))) :
    vP D T (N + 1) 338 13 h [some (2, 121), some (0, (j : Int)), some (0, ((gJ P q : Nat) : Int)), some (0, n), some (0, w), some (0, (m : Int)), o6, o7] [] Q := by
  refine v_loadS (v := (0, (m : Int))) (hz_X12_worthOf hT _ _ rfl) rfl rfl ?_
  refine v_load (v := (2, 121)) (hz_X12_worthOf hT _ _ rfl) rfl rfl ?_
  refine v_getR (c := 126) (r := 121) (hz_X12_worthOf hT _ _ rfl) rfl rfl rfl ?_
  refine v_push (3) (hz_X12_worthOf hT _ _ rfl) rfl ?_
  refine v_aldV (v := (0, (P 0 3))) (r := 126) (hz_X12_worthOf hT _ _ rfl) rfl rfl (fun _ _ _ => p3) (fun ha1 hb2 => ?_)
  refine v_ic (hz_X12_worthOf hT _ _ rfl) (fun hc3 => absurd (show (m : Int) < (P 0 3) from hc3) (by omega)) (fun _ => ?_)
  refine v_load (v := (0, n)) (hz_X12_worthOf hT _ _ rfl) rfl rfl ?_
  refine v_ret (hz_X12_worthOf hT _ _ rfl) (Or.inl rfl) ?_
  exact k0 
theorem qr_wt48f {D : zD} {T : zT} (hT : hTab T) (hO : vOK T) {N : Nat} {h : zH} {Q : zR → Prop} {P : PT} {j q m : Nat} (n w : Int) (o6 o7 : Option zV) (hv0 : zHv h) (m6 : m < 6)
    (k0 : vP D T N 338 13 h [some (2, 121), some (0, (j : Int)), some (0, ((gJ P q : Nat) : Int)), some (0, n), some (0, w), some (0, ((m : Int) + 1)), some (0, 1000000), o7] [] Q) :
    vP D T N 338 48 h [some (2, 121), some (0, (j : Int)), some (0, ((gJ P q : Nat) : Int)), some (0, n), some (0, w), some (0, (m : Int)), o6, o7] [(0, 1000000)] Q := by
  refine v_store1 [some (2, 121), some (0, (j : Int)), some (0, ((gJ P q : Nat) : Int)), some (0, n), some (0, w), some (0, (m : Int)), some (0, 1000000), o7] (hz_X12_worthOf hT _ _ rfl) ⟨rfl, Nat.ne_of_beq_eq_false rfl⟩ (Nat.le_of_ble_eq_true rfl) rfl ?_
  refine v_load (v := (0, 1000000)) (hz_X12_worthOf hT _ _ rfl) rfl rfl ?_
  refine v_push (1000000) (hz_X12_worthOf hT _ _ rfl) rfl ?_
  refine v_ic (hz_X12_worthOf hT _ _ rfl) (fun _ => ?_) (fun hc1 => absurd (show (1000000 : Int) = 1000000 from (by decide)) hc1)
  refine v_goto (hz_X12_worthOf hT _ _ rfl) ?_
  refine v_iinc (x := (m : Int)) (u := 1) (w := ((m : Int) + 1)) [some (2, 121), some (0, (j : Int)), some (0, ((gJ P q : Nat) : Int)), some (0, n), some (0, w), some (0, ((m : Int) + 1)), some (0, 1000000), o7] (hi_X12_worthOf_113 hT) rfl rfl (Nat.le_of_ble_eq_true rfl) (vz_inc (by omega) (by omega)) rfl ?_
  refine v_goto (hi_X12_worthOf_116 hT) ?_
  exact k0 
theorem qr_wt48 {D : zD} {T : zT} (hT : hTab T) (hO : vOK T) {N : Nat} {h : zH} {Q : zR → Prop} {P : PT} {j q m : Nat} (n w p : Int) (o6 o7 : Option zV) (hv0 : zHv h) (m6 : m < 6) (hp : p ≠ 1000000) (gq : gIn P q) (hq : gJ P q < 48) (hj : j < 3)
    (k0 : (0 ≤ ((101 + (48 * (j : Int))) + ((gJ P q : Nat) : Int))) → (((101 + (48 * (j : Int))) + ((gJ P q : Nat) : Int)) < 2750) → vP D T N 210 0 (zset h 126 ((((101 + (48 * (j : Int))) + ((gJ P q : Nat) : Int))).toNat) (0, 1)) [some (2, 121), some (0, (m : Int))] [] (fun r1 => vP D T N 338 78 r1.1 [some (2, 121), some (0, (j : Int)), some (0, ((gJ P q : Nat) : Int)), some (0, n), some (0, w), some (0, (m : Int)), some (0, p), o7] (zpush r1.2 []) Q)) :
    vP D T N 338 48 h [some (2, 121), some (0, (j : Int)), some (0, ((gJ P q : Nat) : Int)), some (0, n), some (0, w), some (0, (m : Int)), o6, o7] [(0, p)] Q := by
  refine v_store1 [some (2, 121), some (0, (j : Int)), some (0, ((gJ P q : Nat) : Int)), some (0, n), some (0, w), some (0, (m : Int)), some (0, p), o7] (hz_X12_worthOf hT _ _ rfl) ⟨rfl, Nat.ne_of_beq_eq_false rfl⟩ (Nat.le_of_ble_eq_true rfl) rfl ?_
  refine v_load (v := (0, p)) (hz_X12_worthOf hT _ _ rfl) rfl rfl ?_
  refine v_push (1000000) (hz_X12_worthOf hT _ _ rfl) rfl ?_
  refine v_ic (hz_X12_worthOf hT _ _ rfl) (fun hc1 => absurd (show p = 1000000 from hc1) hp) (fun _ => ?_)
  refine v_load (v := (2, 121)) (hz_X12_worthOf hT _ _ rfl) rfl rfl ?_
  refine v_getR (c := 126) (r := 121) (hz_X12_worthOf hT _ _ rfl) rfl rfl rfl ?_
  refine v_load (v := (0, (j : Int))) (hz_X12_worthOf hT _ _ rfl) rfl rfl ?_
  refine v_load (v := (0, ((gJ P q : Nat) : Int))) (hz_X12_worthOf hT _ _ rfl) rfl rfl ?_
  refine v_call (w := 2) [some (0, (j : Int)), some (0, ((gJ P q : Nat) : Int))] hO (hz_X12_worthOf hT _ _ rfl) rfl rfl ?_
  refine v_push (101) (hi_X12_state_0 hT) rfl ?_
  refine v_push (48) (hi_X12_state_2 hT) rfl ?_
  refine v_load (v := (0, (j : Int))) (hi_X12_state_4 hT) rfl rfl ?_
  refine v_bin (w := (48 * (j : Int))) (hi_X12_state_5 hT) (hq_mul (by omega) (by omega)) ?_
  refine v_bin (w := (101 + (48 * (j : Int)))) (hi_X12_state_6 hT) (hq_add (by omega) (by omega)) ?_
  refine v_load (v := (0, ((gJ P q : Nat) : Int))) (hi_X12_state_7 hT) rfl rfl ?_
  refine v_bin (w := ((101 + (48 * (j : Int))) + ((gJ P q : Nat) : Int))) (hi_X12_state_8 hT) (hq_add (by omega) (by omega)) ?_
  refine v_ret (hi_X12_state_9 hT) (Or.inl rfl) ?_
  show vP D T N 338 70 h [some (2, 121), some (0, (j : Int)), some (0, ((gJ P q : Nat) : Int)), some (0, n), some (0, w), some (0, (m : Int)), some (0, p), o7] [(0, ((101 + (48 * (j : Int))) + ((gJ P q : Nat) : Int))), (2, 126)] _
  refine v_push (1) (hz_X12_worthOf hT _ _ rfl) rfl ?_
  refine v_ast (r := 126) (hz_X12_worthOf hT _ _ rfl) rfl rfl (fun ha2 hb3 hf4 => ?_)
  refine v_load (v := (2, 121)) (hz_X12_worthOf hT _ _ rfl) rfl rfl ?_
  refine v_load (v := (0, (m : Int))) (hz_X12_worthOf hT _ _ rfl) rfl rfl ?_
  refine v_call (w := 2) [some (2, 121), some (0, (m : Int))] hO (hz_X12_worthOf hT _ _ rfl) rfl rfl ?_
  exact k0 ha2 hb3
theorem qr_wt78 {D : zD} {T : zT} (hT : hTab T) (hO : vOK T) {N : Nat} {h : zH} {Q : zR → Prop} {P : PT} {j q m : Nat} (n w p p2 : Int) (o7 : Option zV) (hv0 : zHv h) (m6 : m < 6) (gq : gIn P q) (hq : gJ P q < 48) (hj : j < 3) (bp : 0 ≤ p ∧ p ≤ 1000000) (bp2 : 0 ≤ p2 ∧ p2 ≤ 1000000) (bn : -6000000 ≤ n ∧ n ≤ 6000000)
    (k0 : (0 ≤ ((101 + (48 * (j : Int))) + ((gJ P q : Nat) : Int))) → (((101 + (48 * (j : Int))) + ((gJ P q : Nat) : Int)) < 2750) → (p2 = 1000000) → vP D T N 338 13 (zset h 126 ((((101 + (48 * (j : Int))) + ((gJ P q : Nat) : Int))).toNat) (0, w)) [some (2, 121), some (0, (j : Int)), some (0, ((gJ P q : Nat) : Int)), some (0, (n + 100)), some (0, w), some (0, ((m : Int) + 1)), some (0, p), some (0, p2)] [] Q)
    (k1 : (0 ≤ ((101 + (48 * (j : Int))) + ((gJ P q : Nat) : Int))) → (((101 + (48 * (j : Int))) + ((gJ P q : Nat) : Int)) < 2750) → (p2 ≠ 1000000) → vP D T N 338 13 (zset h 126 ((((101 + (48 * (j : Int))) + ((gJ P q : Nat) : Int))).toNat) (0, w)) [some (2, 121), some (0, (j : Int)), some (0, ((gJ P q : Nat) : Int)), some (0, (n + (p2 - p))), some (0, w), some (0, ((m : Int) + 1)), some (0, p), some (0, p2)] [] Q) :
    vP D T N 338 78 h [some (2, 121), some (0, (j : Int)), some (0, ((gJ P q : Nat) : Int)), some (0, n), some (0, w), some (0, (m : Int)), some (0, p), o7] [(0, p2)] Q := by
  refine v_store1 [some (2, 121), some (0, (j : Int)), some (0, ((gJ P q : Nat) : Int)), some (0, n), some (0, w), some (0, (m : Int)), some (0, p), some (0, p2)] (hz_X12_worthOf hT _ _ rfl) ⟨rfl, Nat.ne_of_beq_eq_false rfl⟩ (Nat.le_of_ble_eq_true rfl) rfl ?_
  refine v_load (v := (2, 121)) (hz_X12_worthOf hT _ _ rfl) rfl rfl ?_
  refine v_getR (c := 126) (r := 121) (hz_X12_worthOf hT _ _ rfl) rfl rfl rfl ?_
  refine v_load (v := (0, (j : Int))) (hz_X12_worthOf hT _ _ rfl) rfl rfl ?_
  refine v_load (v := (0, ((gJ P q : Nat) : Int))) (hz_X12_worthOf hT _ _ rfl) rfl rfl ?_
  refine v_call (w := 2) [some (0, (j : Int)), some (0, ((gJ P q : Nat) : Int))] hO (hz_X12_worthOf hT _ _ rfl) rfl rfl ?_
  refine v_push (101) (hi_X12_state_0 hT) rfl ?_
  refine v_push (48) (hi_X12_state_2 hT) rfl ?_
  refine v_load (v := (0, (j : Int))) (hi_X12_state_4 hT) rfl rfl ?_
  refine v_bin (w := (48 * (j : Int))) (hi_X12_state_5 hT) (hq_mul (by omega) (by omega)) ?_
  refine v_bin (w := (101 + (48 * (j : Int)))) (hi_X12_state_6 hT) (hq_add (by omega) (by omega)) ?_
  refine v_load (v := (0, ((gJ P q : Nat) : Int))) (hi_X12_state_7 hT) rfl rfl ?_
  refine v_bin (w := ((101 + (48 * (j : Int))) + ((gJ P q : Nat) : Int))) (hi_X12_state_8 hT) (hq_add (by omega) (by omega)) ?_
  refine v_ret (hi_X12_state_9 hT) (Or.inl rfl) ?_
  show vP D T N 338 89 h [some (2, 121), some (0, (j : Int)), some (0, ((gJ P q : Nat) : Int)), some (0, n), some (0, w), some (0, (m : Int)), some (0, p), some (0, p2)] [(0, ((101 + (48 * (j : Int))) + ((gJ P q : Nat) : Int))), (2, 126)] _
  refine v_load (v := (0, w)) (hz_X12_worthOf hT _ _ rfl) rfl rfl ?_
  refine v_ast (r := 126) (hz_X12_worthOf hT _ _ rfl) rfl rfl (fun ha1 hb2 hf3 => ?_)
  refine v_load (v := (0, n)) (hz_X12_worthOf hT _ _ rfl) rfl rfl ?_
  refine v_load (v := (0, p2)) (hz_X12_worthOf hT _ _ rfl) rfl rfl ?_
  refine v_push (1000000) (hz_X12_worthOf hT _ _ rfl) rfl ?_
  refine v_ic (hz_X12_worthOf hT _ _ rfl) (fun hc4 => ?_) (fun hc4 => ?_)
  · have hc4 : p2 = 1000000 := hc4
    refine v_push (100) (hz_X12_worthOf hT _ _ rfl) rfl ?_
    refine v_goto (hz_X12_worthOf hT _ _ rfl) ?_
    refine v_bin (w := (n + 100)) (hz_X12_worthOf hT _ _ rfl) (hq_add (by omega) (by omega)) ?_
    refine v_store1 [some (2, 121), some (0, (j : Int)), some (0, ((gJ P q : Nat) : Int)), some (0, (n + 100)), some (0, w), some (0, (m : Int)), some (0, p), some (0, p2)] (hz_X12_worthOf hT _ _ rfl) ⟨rfl, Nat.ne_of_beq_eq_false rfl⟩ (Nat.le_of_ble_eq_true rfl) rfl ?_
    refine v_iinc (x := (m : Int)) (u := 1) (w := ((m : Int) + 1)) [some (2, 121), some (0, (j : Int)), some (0, ((gJ P q : Nat) : Int)), some (0, (n + 100)), some (0, w), some (0, ((m : Int) + 1)), some (0, p), some (0, p2)] (hi_X12_worthOf_113 hT) rfl rfl (Nat.le_of_ble_eq_true rfl) (vz_inc (by omega) (by omega)) rfl ?_
    refine v_goto (hi_X12_worthOf_116 hT) ?_
    exact k0 ha1 hb2 hc4
  · have hc4 : p2 ≠ 1000000 := hc4
    refine v_load (v := (0, p2)) (hz_X12_worthOf hT _ _ rfl) rfl rfl ?_
    refine v_load (v := (0, p)) (hz_X12_worthOf hT _ _ rfl) rfl rfl ?_
    refine v_bin (w := (p2 - p)) (hz_X12_worthOf hT _ _ rfl) (hq_sub (by omega) (by omega)) ?_
    refine v_bin (w := (n + (p2 - p))) (hz_X12_worthOf hT _ _ rfl) (hq_add (by omega) (by omega)) ?_
    refine v_store1 [some (2, 121), some (0, (j : Int)), some (0, ((gJ P q : Nat) : Int)), some (0, (n + (p2 - p))), some (0, w), some (0, (m : Int)), some (0, p), some (0, p2)] (hz_X12_worthOf hT _ _ rfl) ⟨rfl, Nat.ne_of_beq_eq_false rfl⟩ (Nat.le_of_ble_eq_true rfl) rfl ?_
    refine v_iinc (x := (m : Int)) (u := 1) (w := ((m : Int) + 1)) [some (2, 121), some (0, (j : Int)), some (0, ((gJ P q : Nat) : Int)), some (0, (n + (p2 - p))), some (0, w), some (0, ((m : Int) + 1)), some (0, p), some (0, p2)] (hi_X12_worthOf_113 hT) rfl rfl (Nat.le_of_ble_eq_true rfl) (vz_inc (by omega) (by omega)) rfl ?_
    refine v_goto (hi_X12_worthOf_116 hT) ?_
    exact k1 ha1 hb2 hc4
theorem qs_wo0 {D : zD} {T : zT} (hT : hTab T) (hO : vOK T) {N : Nat} {h : zH} {Q : zR → Prop} {P : PT} (x y z : Int) (hv0 : zHv h) (p0 : h 126 0 = (0, P 0 0)) (p1 : h 126 1 = (0, P 0 1)) (p2 : h 126 2 = (0, P 0 2)) (p3 : h 126 3 = (0, P 0 3)) (lb : (0 ≤ P 0 0 ∧ P 0 0 ≤ 8) ∧ (0 ≤ P 0 1 ∧ P 0 1 ≤ 6) ∧ (0 ≤ P 0 2 ∧ P 0 2 ≤ 3) ∧ (0 ≤ P 0 3 ∧ P 0 3 ≤ 6))
    (k0 : (x < 0) → Q (zset (zset (zset h 121 1 (0, 0)) 121 0 (0, 0)) 121 0 (0, 2), some (0, -1)))
    (k1 : (0 ≤ x) → (((P 0 2) - 1) < x) → Q (zset (zset (zset h 121 1 (0, 0)) 121 0 (0, 0)) 121 0 (0, 2), some (0, -1)))
    (k2 : (0 ≤ x) → (x ≤ ((P 0 2) - 1)) → (y < 0) → Q (zset (zset (zset h 121 1 (0, 0)) 121 0 (0, 0)) 121 0 (0, 2), some (0, -1)))
    (k3 : (0 ≤ x) → (x ≤ ((P 0 2) - 1)) → (0 ≤ y) → (((P 0 0) - 1) < y) → Q (zset (zset (zset h 121 1 (0, 0)) 121 0 (0, 0)) 121 0 (0, 2), some (0, -1)))
    (k4 : (0 ≤ x) → (x ≤ ((P 0 2) - 1)) → (0 ≤ y) → (y ≤ ((P 0 0) - 1)) → (z < 0) → Q (zset (zset (zset h 121 1 (0, 0)) 121 0 (0, 0)) 121 0 (0, 2), some (0, -1)))
    (k5 : (0 ≤ x) → (x ≤ ((P 0 2) - 1)) → (0 ≤ y) → (y ≤ ((P 0 0) - 1)) → (0 ≤ z) → (((P 0 1) - 1) < z) → Q (zset (zset (zset h 121 1 (0, 0)) 121 0 (0, 0)) 121 0 (0, 2), some (0, -1)))
    (k6 : (0 ≤ x) → (x ≤ ((P 0 2) - 1)) → (0 ≤ y) → (y ≤ ((P 0 0) - 1)) → (0 ≤ z) → (z ≤ ((P 0 1) - 1)) → vP D T N 337 33 (zset (zset h 121 1 (0, 0)) 121 0 (0, 0)) [some (2, 121), some (0, x), some (0, y), some (0, z)] [] Q) :
    vP D T N 337 0 h [some (2, 121), some (0, x), some (0, y), some (0, z)] [] Q := by
  refine v_load (v := (2, 121)) (hz_X12_worth hT _ _ rfl) rfl rfl ?_
  refine v_push (0) (hz_X12_worth hT _ _ rfl) rfl ?_
  refine v_putf (r := 121) hO (hz_X12_worth hT _ _ rfl) rfl (fun hf1 => ?_)
  refine v_load (v := (2, 121)) (hz_X12_worth hT _ _ rfl) rfl rfl ?_
  refine v_push (0) (hz_X12_worth hT _ _ rfl) rfl ?_
  refine v_putf (r := 121) hO (hz_X12_worth hT _ _ rfl) rfl (fun hf2 => ?_)
  refine v_load (v := (2, 121)) (hz_X12_worth hT _ _ rfl) rfl rfl ?_
  refine v_load (v := (0, x)) (hz_X12_worth hT _ _ rfl) rfl rfl ?_
  refine v_call (w := 2) [some (2, 121), some (0, x)] hO (hz_X12_worth hT _ _ rfl) rfl rfl ?_
  refine v_load (v := (0, x)) (hi_X12_isCopy_0 hT) rfl rfl ?_
  refine v_i2l (hi_X12_isCopy_1 hT) ?_
  refine v_push (0) (hi_X12_isCopy_2 hT) rfl ?_
  refine v_load (v := (2, 121)) (hi_X12_isCopy_3 hT) rfl rfl ?_
  refine v_getR (c := 126) (r := 121) (hi_X12_isCopy_4 hT) rfl rfl rfl ?_
  refine v_push (2) (hi_X12_isCopy_7 hT) rfl ?_
  refine v_aldV (v := (0, (P 0 2))) (r := 126) (hi_X12_isCopy_8 hT) rfl rfl (fun _ _ _ => (Eq.trans (Eq.trans (zset_ne (fun c => absurd c.1 (by decide))) (zset_ne (fun c => absurd c.1 (by decide)))) (p2))) (fun ha3 hb4 => ?_)
  refine v_push (1) (hi_X12_isCopy_9 hT) rfl ?_
  refine v_bin (w := ((P 0 2) - 1)) (hi_X12_isCopy_10 hT) (hq_sub (by omega) (by omega)) ?_
  refine v_i2l (hi_X12_isCopy_11 hT) ?_
  refine v_call (w := 6) [some (1, x), none, some (1, 0), none, some (1, ((P 0 2) - 1)), none] hO (hi_X12_isCopy_12 hT) rfl rfl ?_
  refine v_load (v := (1, x)) (hi_X12_isIn_0 hT) rfl rfl ?_
  refine v_load (v := (1, 0)) (hi_X12_isIn_1 hT) rfl rfl ?_
  refine v_lif (hi_X12_isIn_2 hT) (hi_X12_isIn_3 hT) (fun hc5 => ?_) (fun hc5 => ?_)
  · have hc5 : x < 0 := hc5
    refine v_push (0) (hi_X12_isIn_17 hT) rfl ?_
    refine v_ret (hi_X12_isIn_18 hT) (Or.inl rfl) ?_
    show vP D T N 248 15 (zset (zset h 121 1 (0, 0)) 121 0 (0, 0)) [some (2, 121), some (0, x)] [(0, 0)] _
    refine v_ret (hi_X12_isCopy_15 hT) (Or.inl rfl) ?_
    show vP D T N 337 15 (zset (zset h 121 1 (0, 0)) 121 0 (0, 0)) [some (2, 121), some (0, x), some (0, y), some (0, z)] [(0, 0)] _
    refine v_if (hz_X12_worth hT _ _ rfl) (fun _ => ?_) (fun hc6 => absurd (show (0 : Int) = 0 from (by decide)) hc6)
    refine v_load (v := (2, 121)) (hi_X12_worth_27 hT) rfl rfl ?_
    refine v_push (2) (hi_X12_worth_28 hT) rfl ?_
    refine v_call (w := 2) [some (2, 121), some (0, 2)] hO (hi_X12_worth_29 hT) rfl rfl ?_
    refine v_load (v := (2, 121)) (hi_X12_refuse_0 hT) rfl rfl ?_
    refine v_load (v := (0, 2)) (hi_X12_refuse_1 hT) rfl rfl ?_
    refine v_putf (r := 121) hO (hi_X12_refuse_2 hT) rfl (fun hf7 => ?_)
    refine v_push (-1) (hi_X12_refuse_5 hT) rfl ?_
    refine v_ret (hi_X12_refuse_6 hT) (Or.inl rfl) ?_
    show vP D T N 337 32 (zset (zset (zset h 121 1 (0, 0)) 121 0 (0, 0)) 121 0 (0, 2)) [some (2, 121), some (0, x), some (0, y), some (0, z)] [(0, -1)] _
    refine v_ret (hi_X12_worth_32 hT) (Or.inl rfl) ?_
    exact k0 hc5
  · have hc5 : 0 ≤ x := Int.not_lt.mp hc5
    refine v_load (v := (1, x)) (hi_X12_isIn_6 hT) rfl rfl ?_
    refine v_load (v := (1, ((P 0 2) - 1))) (hi_X12_isIn_7 hT) rfl rfl ?_
    refine v_lif (hi_X12_isIn_9 hT) (hi_X12_isIn_10 hT) (fun hc8 => ?_) (fun hc8 => ?_)
    · have hc8 : ((P 0 2) - 1) < x := hc8
      refine v_push (0) (hi_X12_isIn_17 hT) rfl ?_
      refine v_ret (hi_X12_isIn_18 hT) (Or.inl rfl) ?_
      show vP D T N 248 15 (zset (zset h 121 1 (0, 0)) 121 0 (0, 0)) [some (2, 121), some (0, x)] [(0, 0)] _
      refine v_ret (hi_X12_isCopy_15 hT) (Or.inl rfl) ?_
      show vP D T N 337 15 (zset (zset h 121 1 (0, 0)) 121 0 (0, 0)) [some (2, 121), some (0, x), some (0, y), some (0, z)] [(0, 0)] _
      refine v_if (hz_X12_worth hT _ _ rfl) (fun _ => ?_) (fun hc9 => absurd (show (0 : Int) = 0 from (by decide)) hc9)
      refine v_load (v := (2, 121)) (hi_X12_worth_27 hT) rfl rfl ?_
      refine v_push (2) (hi_X12_worth_28 hT) rfl ?_
      refine v_call (w := 2) [some (2, 121), some (0, 2)] hO (hi_X12_worth_29 hT) rfl rfl ?_
      refine v_load (v := (2, 121)) (hi_X12_refuse_0 hT) rfl rfl ?_
      refine v_load (v := (0, 2)) (hi_X12_refuse_1 hT) rfl rfl ?_
      refine v_putf (r := 121) hO (hi_X12_refuse_2 hT) rfl (fun hf10 => ?_)
      refine v_push (-1) (hi_X12_refuse_5 hT) rfl ?_
      refine v_ret (hi_X12_refuse_6 hT) (Or.inl rfl) ?_
      show vP D T N 337 32 (zset (zset (zset h 121 1 (0, 0)) 121 0 (0, 0)) 121 0 (0, 2)) [some (2, 121), some (0, x), some (0, y), some (0, z)] [(0, -1)] _
      refine v_ret (hi_X12_worth_32 hT) (Or.inl rfl) ?_
      exact k1 hc5 hc8
    · have hc8 : x ≤ ((P 0 2) - 1) := Int.not_lt.mp hc8
      refine v_push (1) (hi_X12_isIn_13 hT) rfl ?_
      refine v_goto (hi_X12_isIn_14 hT) ?_
      refine v_ret (hi_X12_isIn_18 hT) (Or.inl rfl) ?_
      show vP D T N 248 15 (zset (zset h 121 1 (0, 0)) 121 0 (0, 0)) [some (2, 121), some (0, x)] [(0, 1)] _
      refine v_ret (hi_X12_isCopy_15 hT) (Or.inl rfl) ?_
      show vP D T N 337 15 (zset (zset h 121 1 (0, 0)) 121 0 (0, 0)) [some (2, 121), some (0, x), some (0, y), some (0, z)] [(0, 1)] _
      refine v_if (hz_X12_worth hT _ _ rfl) (fun hc11 => absurd (show (1 : Int) = 0 from hc11) (by decide)) (fun _ => ?_)
      refine v_load (v := (2, 121)) (hz_X12_worth hT _ _ rfl) rfl rfl ?_
      refine v_load (v := (0, y)) (hz_X12_worth hT _ _ rfl) rfl rfl ?_
      refine v_load (v := (0, z)) (hz_X12_worth hT _ _ rfl) rfl rfl ?_
      refine v_call (w := 3) [some (2, 121), some (0, y), some (0, z)] hO (hz_X12_worth hT _ _ rfl) rfl rfl ?_
      refine v_load (v := (0, y)) (hi_X12_isCell_0 hT) rfl rfl ?_
      refine v_i2l (hi_X12_isCell_1 hT) ?_
      refine v_push (0) (hi_X12_isCell_2 hT) rfl ?_
      refine v_load (v := (2, 121)) (hi_X12_isCell_3 hT) rfl rfl ?_
      refine v_getR (c := 126) (r := 121) (hi_X12_isCell_4 hT) rfl rfl rfl ?_
      refine v_push (0) (hi_X12_isCell_7 hT) rfl ?_
      refine v_aldV (v := (0, (P 0 0))) (r := 126) (hi_X12_isCell_8 hT) rfl rfl (fun _ _ _ => (Eq.trans (Eq.trans (zset_ne (fun c => absurd c.1 (by decide))) (zset_ne (fun c => absurd c.1 (by decide)))) (p0))) (fun ha12 hb13 => ?_)
      refine v_push (1) (hi_X12_isCell_9 hT) rfl ?_
      refine v_bin (w := ((P 0 0) - 1)) (hi_X12_isCell_10 hT) (hq_sub (by omega) (by omega)) ?_
      refine v_i2l (hi_X12_isCell_11 hT) ?_
      refine v_call (w := 6) [some (1, y), none, some (1, 0), none, some (1, ((P 0 0) - 1)), none] hO (hi_X12_isCell_12 hT) rfl rfl ?_
      refine v_load (v := (1, y)) (hi_X12_isIn_0 hT) rfl rfl ?_
      refine v_load (v := (1, 0)) (hi_X12_isIn_1 hT) rfl rfl ?_
      refine v_lif (hi_X12_isIn_2 hT) (hi_X12_isIn_3 hT) (fun hc14 => ?_) (fun hc14 => ?_)
      · have hc14 : y < 0 := hc14
        refine v_push (0) (hi_X12_isIn_17 hT) rfl ?_
        refine v_ret (hi_X12_isIn_18 hT) (Or.inl rfl) ?_
        show vP D T N 244 15 (zset (zset h 121 1 (0, 0)) 121 0 (0, 0)) [some (2, 121), some (0, y), some (0, z)] [(0, 0)] _
        refine v_if (hi_X12_isCell_15 hT) (fun _ => ?_) (fun hc15 => absurd (show (0 : Int) = 0 from (by decide)) hc15)
        refine v_push (0) (hi_X12_isCell_40 hT) rfl ?_
        refine v_ret (hi_X12_isCell_41 hT) (Or.inl rfl) ?_
        show vP D T N 337 24 (zset (zset h 121 1 (0, 0)) 121 0 (0, 0)) [some (2, 121), some (0, x), some (0, y), some (0, z)] [(0, 0)] _
        refine v_if (hi_X12_worth_24 hT) (fun _ => ?_) (fun hc16 => absurd (show (0 : Int) = 0 from (by decide)) hc16)
        refine v_load (v := (2, 121)) (hi_X12_worth_27 hT) rfl rfl ?_
        refine v_push (2) (hi_X12_worth_28 hT) rfl ?_
        refine v_call (w := 2) [some (2, 121), some (0, 2)] hO (hi_X12_worth_29 hT) rfl rfl ?_
        refine v_load (v := (2, 121)) (hi_X12_refuse_0 hT) rfl rfl ?_
        refine v_load (v := (0, 2)) (hi_X12_refuse_1 hT) rfl rfl ?_
        refine v_putf (r := 121) hO (hi_X12_refuse_2 hT) rfl (fun hf17 => ?_)
        refine v_push (-1) (hi_X12_refuse_5 hT) rfl ?_
        refine v_ret (hi_X12_refuse_6 hT) (Or.inl rfl) ?_
        show vP D T N 337 32 (zset (zset (zset h 121 1 (0, 0)) 121 0 (0, 0)) 121 0 (0, 2)) [some (2, 121), some (0, x), some (0, y), some (0, z)] [(0, -1)] _
        refine v_ret (hi_X12_worth_32 hT) (Or.inl rfl) ?_
        exact k2 hc5 hc8 hc14
      · have hc14 : 0 ≤ y := Int.not_lt.mp hc14
        refine v_load (v := (1, y)) (hi_X12_isIn_6 hT) rfl rfl ?_
        refine v_load (v := (1, ((P 0 0) - 1))) (hi_X12_isIn_7 hT) rfl rfl ?_
        refine v_lif (hi_X12_isIn_9 hT) (hi_X12_isIn_10 hT) (fun hc18 => ?_) (fun hc18 => ?_)
        · have hc18 : ((P 0 0) - 1) < y := hc18
          refine v_push (0) (hi_X12_isIn_17 hT) rfl ?_
          refine v_ret (hi_X12_isIn_18 hT) (Or.inl rfl) ?_
          show vP D T N 244 15 (zset (zset h 121 1 (0, 0)) 121 0 (0, 0)) [some (2, 121), some (0, y), some (0, z)] [(0, 0)] _
          refine v_if (hi_X12_isCell_15 hT) (fun _ => ?_) (fun hc19 => absurd (show (0 : Int) = 0 from (by decide)) hc19)
          refine v_push (0) (hi_X12_isCell_40 hT) rfl ?_
          refine v_ret (hi_X12_isCell_41 hT) (Or.inl rfl) ?_
          show vP D T N 337 24 (zset (zset h 121 1 (0, 0)) 121 0 (0, 0)) [some (2, 121), some (0, x), some (0, y), some (0, z)] [(0, 0)] _
          refine v_if (hi_X12_worth_24 hT) (fun _ => ?_) (fun hc20 => absurd (show (0 : Int) = 0 from (by decide)) hc20)
          refine v_load (v := (2, 121)) (hi_X12_worth_27 hT) rfl rfl ?_
          refine v_push (2) (hi_X12_worth_28 hT) rfl ?_
          refine v_call (w := 2) [some (2, 121), some (0, 2)] hO (hi_X12_worth_29 hT) rfl rfl ?_
          refine v_load (v := (2, 121)) (hi_X12_refuse_0 hT) rfl rfl ?_
          refine v_load (v := (0, 2)) (hi_X12_refuse_1 hT) rfl rfl ?_
          refine v_putf (r := 121) hO (hi_X12_refuse_2 hT) rfl (fun hf21 => ?_)
          refine v_push (-1) (hi_X12_refuse_5 hT) rfl ?_
          refine v_ret (hi_X12_refuse_6 hT) (Or.inl rfl) ?_
          show vP D T N 337 32 (zset (zset (zset h 121 1 (0, 0)) 121 0 (0, 0)) 121 0 (0, 2)) [some (2, 121), some (0, x), some (0, y), some (0, z)] [(0, -1)] _
          refine v_ret (hi_X12_worth_32 hT) (Or.inl rfl) ?_
          exact k3 hc5 hc8 hc14 hc18
        · have hc18 : y ≤ ((P 0 0) - 1) := Int.not_lt.mp hc18
          refine v_push (1) (hi_X12_isIn_13 hT) rfl ?_
          refine v_goto (hi_X12_isIn_14 hT) ?_
          refine v_ret (hi_X12_isIn_18 hT) (Or.inl rfl) ?_
          show vP D T N 244 15 (zset (zset h 121 1 (0, 0)) 121 0 (0, 0)) [some (2, 121), some (0, y), some (0, z)] [(0, 1)] _
          refine v_if (hi_X12_isCell_15 hT) (fun hc22 => absurd (show (1 : Int) = 0 from hc22) (by decide)) (fun _ => ?_)
          refine v_load (v := (0, z)) (hi_X12_isCell_18 hT) rfl rfl ?_
          refine v_i2l (hi_X12_isCell_19 hT) ?_
          refine v_push (0) (hi_X12_isCell_20 hT) rfl ?_
          refine v_load (v := (2, 121)) (hi_X12_isCell_21 hT) rfl rfl ?_
          refine v_getR (c := 126) (r := 121) (hi_X12_isCell_22 hT) rfl rfl rfl ?_
          refine v_push (1) (hi_X12_isCell_25 hT) rfl ?_
          refine v_aldV (v := (0, (P 0 1))) (r := 126) (hi_X12_isCell_26 hT) rfl rfl (fun _ _ _ => (Eq.trans (Eq.trans (zset_ne (fun c => absurd c.1 (by decide))) (zset_ne (fun c => absurd c.1 (by decide)))) (p1))) (fun ha23 hb24 => ?_)
          refine v_push (1) (hi_X12_isCell_27 hT) rfl ?_
          refine v_bin (w := ((P 0 1) - 1)) (hi_X12_isCell_28 hT) (hq_sub (by omega) (by omega)) ?_
          refine v_i2l (hi_X12_isCell_29 hT) ?_
          refine v_call (w := 6) [some (1, z), none, some (1, 0), none, some (1, ((P 0 1) - 1)), none] hO (hi_X12_isCell_30 hT) rfl rfl ?_
          refine v_load (v := (1, z)) (hi_X12_isIn_0 hT) rfl rfl ?_
          refine v_load (v := (1, 0)) (hi_X12_isIn_1 hT) rfl rfl ?_
          refine v_lif (hi_X12_isIn_2 hT) (hi_X12_isIn_3 hT) (fun hc25 => ?_) (fun hc25 => ?_)
          · have hc25 : z < 0 := hc25
            refine v_push (0) (hi_X12_isIn_17 hT) rfl ?_
            refine v_ret (hi_X12_isIn_18 hT) (Or.inl rfl) ?_
            show vP D T N 244 33 (zset (zset h 121 1 (0, 0)) 121 0 (0, 0)) [some (2, 121), some (0, y), some (0, z)] [(0, 0)] _
            refine v_if (hi_X12_isCell_33 hT) (fun _ => ?_) (fun hc26 => absurd (show (0 : Int) = 0 from (by decide)) hc26)
            refine v_push (0) (hi_X12_isCell_40 hT) rfl ?_
            refine v_ret (hi_X12_isCell_41 hT) (Or.inl rfl) ?_
            show vP D T N 337 24 (zset (zset h 121 1 (0, 0)) 121 0 (0, 0)) [some (2, 121), some (0, x), some (0, y), some (0, z)] [(0, 0)] _
            refine v_if (hi_X12_worth_24 hT) (fun _ => ?_) (fun hc27 => absurd (show (0 : Int) = 0 from (by decide)) hc27)
            refine v_load (v := (2, 121)) (hi_X12_worth_27 hT) rfl rfl ?_
            refine v_push (2) (hi_X12_worth_28 hT) rfl ?_
            refine v_call (w := 2) [some (2, 121), some (0, 2)] hO (hi_X12_worth_29 hT) rfl rfl ?_
            refine v_load (v := (2, 121)) (hi_X12_refuse_0 hT) rfl rfl ?_
            refine v_load (v := (0, 2)) (hi_X12_refuse_1 hT) rfl rfl ?_
            refine v_putf (r := 121) hO (hi_X12_refuse_2 hT) rfl (fun hf28 => ?_)
            refine v_push (-1) (hi_X12_refuse_5 hT) rfl ?_
            refine v_ret (hi_X12_refuse_6 hT) (Or.inl rfl) ?_
            show vP D T N 337 32 (zset (zset (zset h 121 1 (0, 0)) 121 0 (0, 0)) 121 0 (0, 2)) [some (2, 121), some (0, x), some (0, y), some (0, z)] [(0, -1)] _
            refine v_ret (hi_X12_worth_32 hT) (Or.inl rfl) ?_
            exact k4 hc5 hc8 hc14 hc18 hc25
          · have hc25 : 0 ≤ z := Int.not_lt.mp hc25
            refine v_load (v := (1, z)) (hi_X12_isIn_6 hT) rfl rfl ?_
            refine v_load (v := (1, ((P 0 1) - 1))) (hi_X12_isIn_7 hT) rfl rfl ?_
            refine v_lif (hi_X12_isIn_9 hT) (hi_X12_isIn_10 hT) (fun hc29 => ?_) (fun hc29 => ?_)
            · have hc29 : ((P 0 1) - 1) < z := hc29
              refine v_push (0) (hi_X12_isIn_17 hT) rfl ?_
              refine v_ret (hi_X12_isIn_18 hT) (Or.inl rfl) ?_
              show vP D T N 244 33 (zset (zset h 121 1 (0, 0)) 121 0 (0, 0)) [some (2, 121), some (0, y), some (0, z)] [(0, 0)] _
              refine v_if (hi_X12_isCell_33 hT) (fun _ => ?_) (fun hc30 => absurd (show (0 : Int) = 0 from (by decide)) hc30)
              refine v_push (0) (hi_X12_isCell_40 hT) rfl ?_
              refine v_ret (hi_X12_isCell_41 hT) (Or.inl rfl) ?_
              show vP D T N 337 24 (zset (zset h 121 1 (0, 0)) 121 0 (0, 0)) [some (2, 121), some (0, x), some (0, y), some (0, z)] [(0, 0)] _
              refine v_if (hi_X12_worth_24 hT) (fun _ => ?_) (fun hc31 => absurd (show (0 : Int) = 0 from (by decide)) hc31)
              refine v_load (v := (2, 121)) (hi_X12_worth_27 hT) rfl rfl ?_
              refine v_push (2) (hi_X12_worth_28 hT) rfl ?_
              refine v_call (w := 2) [some (2, 121), some (0, 2)] hO (hi_X12_worth_29 hT) rfl rfl ?_
              refine v_load (v := (2, 121)) (hi_X12_refuse_0 hT) rfl rfl ?_
              refine v_load (v := (0, 2)) (hi_X12_refuse_1 hT) rfl rfl ?_
              refine v_putf (r := 121) hO (hi_X12_refuse_2 hT) rfl (fun hf32 => ?_)
              refine v_push (-1) (hi_X12_refuse_5 hT) rfl ?_
              refine v_ret (hi_X12_refuse_6 hT) (Or.inl rfl) ?_
              show vP D T N 337 32 (zset (zset (zset h 121 1 (0, 0)) 121 0 (0, 0)) 121 0 (0, 2)) [some (2, 121), some (0, x), some (0, y), some (0, z)] [(0, -1)] _
              refine v_ret (hi_X12_worth_32 hT) (Or.inl rfl) ?_
              exact k5 hc5 hc8 hc14 hc18 hc25 hc29
            · have hc29 : z ≤ ((P 0 1) - 1) := Int.not_lt.mp hc29
              refine v_push (1) (hi_X12_isIn_13 hT) rfl ?_
              refine v_goto (hi_X12_isIn_14 hT) ?_
              refine v_ret (hi_X12_isIn_18 hT) (Or.inl rfl) ?_
              show vP D T N 244 33 (zset (zset h 121 1 (0, 0)) 121 0 (0, 0)) [some (2, 121), some (0, y), some (0, z)] [(0, 1)] _
              refine v_if (hi_X12_isCell_33 hT) (fun hc33 => absurd (show (1 : Int) = 0 from hc33) (by decide)) (fun _ => ?_)
              refine v_push (1) (hi_X12_isCell_36 hT) rfl ?_
              refine v_goto (hi_X12_isCell_37 hT) ?_
              refine v_ret (hi_X12_isCell_41 hT) (Or.inl rfl) ?_
              show vP D T N 337 24 (zset (zset h 121 1 (0, 0)) 121 0 (0, 0)) [some (2, 121), some (0, x), some (0, y), some (0, z)] [(0, 1)] _
              refine v_if (hi_X12_worth_24 hT) (fun hc34 => absurd (show (1 : Int) = 0 from hc34) (by decide)) (fun _ => ?_)
              exact k6 hc5 hc8 hc14 hc18 hc25 hc29
theorem qs_wo33 {D : zD} {T : zT} (hT : hTab T) (hO : vOK T) {N : Nat} {h : zH} {Q : zR → Prop} {j u v : Nat} (hv0 : zHv h)
    (k0 : vP D T N 197 0 h [some (2, 121), some (0, (u : Int)), some (0, (v : Int))] [] (fun r1 => vP D T N 337 41 r1.1 [some (2, 121), some (0, (j : Int)), some (0, (u : Int)), some (0, (v : Int))] (zpush r1.2 [(0, (j : Int)), (2, 121)]) Q)) :
    vP D T N 337 33 h [some (2, 121), some (0, (j : Int)), some (0, (u : Int)), some (0, (v : Int))] [] Q := by
  refine v_load (v := (2, 121)) (hz_X12_worth hT _ _ rfl) rfl rfl ?_
  refine v_load (v := (0, (j : Int))) (hz_X12_worth hT _ _ rfl) rfl rfl ?_
  refine v_load (v := (2, 121)) (hz_X12_worth hT _ _ rfl) rfl rfl ?_
  refine v_load (v := (0, (u : Int))) (hz_X12_worth hT _ _ rfl) rfl rfl ?_
  refine v_load (v := (0, (v : Int))) (hz_X12_worth hT _ _ rfl) rfl rfl ?_
  refine v_call (w := 3) [some (2, 121), some (0, (u : Int)), some (0, (v : Int))] hO (hz_X12_worth hT _ _ rfl) rfl rfl ?_
  exact k0 
theorem qs_wo41 {D : zD} {T : zT} (hT : hTab T) (hO : vOK T) {N : Nat} {h : zH} {Q : zR → Prop} {P : PT} {j u v q : Nat} (hv0 : zHv h) (hR : rBk 0 P h) (hb : fB P) (hj : j < 3) (gq : gIn P q) (hn : gJ P q < 48) (eq : P 0 0 * (v : Int) + (u : Int) = ((gJ P q : Nat) : Int)) (bu : u < 8) (bv : v < 6) (lb : lB P)
    (k0 : ((P 3 (48 * j + q)) = 1) → Q (zset h 121 0 (0, 9), some (0, -1)))
    (k1 : ((P 3 (48 * j + q)) ≠ 1) → vP D T N 338 0 h [some (2, 121), some (0, (j : Int)), some (0, ((gJ P q : Nat) : Int)), none, none, none, none, none] [] (fun r1 => vP D T N 337 68 r1.1 [some (2, 121), some (0, (j : Int)), some (0, (u : Int)), some (0, (v : Int))] (zpush r1.2 []) Q)) :
    vP D T N 337 41 h [some (2, 121), some (0, (j : Int)), some (0, (u : Int)), some (0, (v : Int))] [(0, ((gJ P q : Nat) : Int)), (0, (j : Int)), (2, 121)] Q := by
  refine v_call (w := 3) [some (2, 121), some (0, (j : Int)), some (0, ((gJ P q : Nat) : Int))] hO (hz_X12_worth hT _ _ rfl) rfl rfl (rb_st hT hO ((j : Int)) j q rfl (by omega) gq hR hb ?_)
  show vP D T N 337 44 h [some (2, 121), some (0, (j : Int)), some (0, (u : Int)), some (0, (v : Int))] [(0, (P 3 (48 * j + q)))] _
  refine v_push (1) (hz_X12_worth hT _ _ rfl) rfl ?_
  refine v_ic (hz_X12_worth hT _ _ rfl) (fun hc1 => ?_) (fun hc1 => ?_)
  · have hc1 : (P 3 (48 * j + q)) = 1 := hc1
    refine v_load (v := (2, 121)) (hz_X12_worth hT _ _ rfl) rfl rfl ?_
    refine v_push (9) (hz_X12_worth hT _ _ rfl) rfl ?_
    refine v_call (w := 2) [some (2, 121), some (0, 9)] hO (hz_X12_worth hT _ _ rfl) rfl rfl ?_
    refine v_load (v := (2, 121)) (hi_X12_refuse_0 hT) rfl rfl ?_
    refine v_load (v := (0, 9)) (hi_X12_refuse_1 hT) rfl rfl ?_
    refine v_putf (r := 121) hO (hi_X12_refuse_2 hT) rfl (fun hf2 => ?_)
    refine v_push (-1) (hi_X12_refuse_5 hT) rfl ?_
    refine v_ret (hi_X12_refuse_6 hT) (Or.inl rfl) ?_
    show vP D T N 337 54 (zset h 121 0 (0, 9)) [some (2, 121), some (0, (j : Int)), some (0, (u : Int)), some (0, (v : Int))] [(0, -1)] _
    refine v_goto (hz_X12_worth hT _ _ rfl) ?_
    refine v_ret (hz_X12_worth hT _ _ rfl) (Or.inl rfl) ?_
    exact k0 hc1
  · have hc1 : (P 3 (48 * j + q)) ≠ 1 := hc1
    refine v_load (v := (2, 121)) (hz_X12_worth hT _ _ rfl) rfl rfl ?_
    refine v_load (v := (0, (j : Int))) (hz_X12_worth hT _ _ rfl) rfl rfl ?_
    refine v_load (v := (2, 121)) (hz_X12_worth hT _ _ rfl) rfl rfl ?_
    refine v_load (v := (0, (u : Int))) (hz_X12_worth hT _ _ rfl) rfl rfl ?_
    refine v_load (v := (0, (v : Int))) (hz_X12_worth hT _ _ rfl) rfl rfl ?_
    refine v_call (w := 3) [some (2, 121), some (0, (u : Int)), some (0, (v : Int))] hO (hz_X12_worth hT _ _ rfl) rfl rfl (cb_eq2 eq (rb_at2 hT hO ((u : Int)) ((v : Int)) (by omega) (by omega) hR.w lb) ?_)
    show vP D T N 337 65 h [some (2, 121), some (0, (j : Int)), some (0, (u : Int)), some (0, (v : Int))] [(0, ((gJ P q : Nat) : Int)), (0, (j : Int)), (2, 121)] _
    refine v_call (w := 8) [some (2, 121), some (0, (j : Int)), some (0, ((gJ P q : Nat) : Int)), none, none, none, none, none] hO (hz_X12_worth hT _ _ rfl) rfl rfl ?_
    exact k1 hc1
theorem qs_wo68 {D : zD} {T : zT} (hT : hTab T) (hO : vOK T) {N : Nat} {h : zH} {Q : zR → Prop} {j u v : Nat} (w : Int) (hv0 : zHv h)
    (k0 : Q (h, some (0, w))) :
    vP D T N 337 68 h [some (2, 121), some (0, (j : Int)), some (0, (u : Int)), some (0, (v : Int))] [(0, w)] Q := by
  refine v_ret (hz_X12_worth hT _ _ rfl) (Or.inl rfl) ?_
  exact k0 
theorem qs_mw0 {D : zD} {T : zT} (hT : hTab T) (hO : vOK T) {N : Nat} {h : zH} {Q : zR → Prop} {P : PT} (x y : Int) (hv0 : zHv h) (p0 : h 126 0 = (0, P 0 0)) (p1 : h 126 1 = (0, P 0 1)) (p2 : h 126 2 = (0, P 0 2)) (p3 : h 126 3 = (0, P 0 3)) (lb : (0 ≤ P 0 0 ∧ P 0 0 ≤ 8) ∧ (0 ≤ P 0 1 ∧ P 0 1 ≤ 6) ∧ (0 ≤ P 0 2 ∧ P 0 2 ≤ 3) ∧ (0 ≤ P 0 3 ∧ P 0 3 ≤ 6))
    (k0 : (x < 0) → Q (zset (zset (zset h 121 1 (0, 0)) 121 0 (0, 0)) 121 0 (0, 2), some (0, -1)))
    (k1 : (0 ≤ x) → (((P 0 2) - 1) < x) → Q (zset (zset (zset h 121 1 (0, 0)) 121 0 (0, 0)) 121 0 (0, 2), some (0, -1)))
    (k2 : (0 ≤ x) → (x ≤ ((P 0 2) - 1)) → (y < 0) → Q (zset (zset (zset h 121 1 (0, 0)) 121 0 (0, 0)) 121 0 (0, 5), some (0, -1)))
    (k3 : (0 ≤ x) → (x ≤ ((P 0 2) - 1)) → (0 ≤ y) → (1 < y) → Q (zset (zset (zset h 121 1 (0, 0)) 121 0 (0, 0)) 121 0 (0, 5), some (0, -1)))
    (k4 : (0 ≤ x) → (x ≤ ((P 0 2) - 1)) → (0 ≤ y) → (y ≤ 1) → vP D T N 278 48 (zset (zset h 121 1 (0, 0)) 121 0 (0, 0)) [some (2, 121), some (0, x), some (0, y), some (0, -1), some (0, -1), some (0, 0)] [] Q) :
    vP D T N 278 0 h [some (2, 121), some (0, x), some (0, y), none, none, none] [] Q := by
  refine v_load (v := (2, 121)) (hz_X12_mostWorth hT _ _ rfl) rfl rfl ?_
  refine v_push (0) (hz_X12_mostWorth hT _ _ rfl) rfl ?_
  refine v_putf (r := 121) hO (hz_X12_mostWorth hT _ _ rfl) rfl (fun hf1 => ?_)
  refine v_load (v := (2, 121)) (hz_X12_mostWorth hT _ _ rfl) rfl rfl ?_
  refine v_push (0) (hz_X12_mostWorth hT _ _ rfl) rfl ?_
  refine v_putf (r := 121) hO (hz_X12_mostWorth hT _ _ rfl) rfl (fun hf2 => ?_)
  refine v_load (v := (2, 121)) (hz_X12_mostWorth hT _ _ rfl) rfl rfl ?_
  refine v_load (v := (0, x)) (hz_X12_mostWorth hT _ _ rfl) rfl rfl ?_
  refine v_call (w := 2) [some (2, 121), some (0, x)] hO (hz_X12_mostWorth hT _ _ rfl) rfl rfl ?_
  refine v_load (v := (0, x)) (hi_X12_isCopy_0 hT) rfl rfl ?_
  refine v_i2l (hi_X12_isCopy_1 hT) ?_
  refine v_push (0) (hi_X12_isCopy_2 hT) rfl ?_
  refine v_load (v := (2, 121)) (hi_X12_isCopy_3 hT) rfl rfl ?_
  refine v_getR (c := 126) (r := 121) (hi_X12_isCopy_4 hT) rfl rfl rfl ?_
  refine v_push (2) (hi_X12_isCopy_7 hT) rfl ?_
  refine v_aldV (v := (0, (P 0 2))) (r := 126) (hi_X12_isCopy_8 hT) rfl rfl (fun _ _ _ => (Eq.trans (Eq.trans (zset_ne (fun c => absurd c.1 (by decide))) (zset_ne (fun c => absurd c.1 (by decide)))) (p2))) (fun ha3 hb4 => ?_)
  refine v_push (1) (hi_X12_isCopy_9 hT) rfl ?_
  refine v_bin (w := ((P 0 2) - 1)) (hi_X12_isCopy_10 hT) (hq_sub (by omega) (by omega)) ?_
  refine v_i2l (hi_X12_isCopy_11 hT) ?_
  refine v_call (w := 6) [some (1, x), none, some (1, 0), none, some (1, ((P 0 2) - 1)), none] hO (hi_X12_isCopy_12 hT) rfl rfl ?_
  refine v_load (v := (1, x)) (hi_X12_isIn_0 hT) rfl rfl ?_
  refine v_load (v := (1, 0)) (hi_X12_isIn_1 hT) rfl rfl ?_
  refine v_lif (hi_X12_isIn_2 hT) (hi_X12_isIn_3 hT) (fun hc5 => ?_) (fun hc5 => ?_)
  · have hc5 : x < 0 := hc5
    refine v_push (0) (hi_X12_isIn_17 hT) rfl ?_
    refine v_ret (hi_X12_isIn_18 hT) (Or.inl rfl) ?_
    show vP D T N 248 15 (zset (zset h 121 1 (0, 0)) 121 0 (0, 0)) [some (2, 121), some (0, x)] [(0, 0)] _
    refine v_ret (hi_X12_isCopy_15 hT) (Or.inl rfl) ?_
    show vP D T N 278 15 (zset (zset h 121 1 (0, 0)) 121 0 (0, 0)) [some (2, 121), some (0, x), some (0, y), none, none, none] [(0, 0)] _
    refine v_if (hz_X12_mostWorth hT _ _ rfl) (fun _ => ?_) (fun hc6 => absurd (show (0 : Int) = 0 from (by decide)) hc6)
    refine v_load (v := (2, 121)) (hz_X12_mostWorth hT _ _ rfl) rfl rfl ?_
    refine v_push (2) (hz_X12_mostWorth hT _ _ rfl) rfl ?_
    refine v_call (w := 2) [some (2, 121), some (0, 2)] hO (hz_X12_mostWorth hT _ _ rfl) rfl rfl ?_
    refine v_load (v := (2, 121)) (hi_X12_refuse_0 hT) rfl rfl ?_
    refine v_load (v := (0, 2)) (hi_X12_refuse_1 hT) rfl rfl ?_
    refine v_putf (r := 121) hO (hi_X12_refuse_2 hT) rfl (fun hf7 => ?_)
    refine v_push (-1) (hi_X12_refuse_5 hT) rfl ?_
    refine v_ret (hi_X12_refuse_6 hT) (Or.inl rfl) ?_
    show vP D T N 278 23 (zset (zset (zset h 121 1 (0, 0)) 121 0 (0, 0)) 121 0 (0, 2)) [some (2, 121), some (0, x), some (0, y), none, none, none] [(0, -1)] _
    refine v_ret (hz_X12_mostWorth hT _ _ rfl) (Or.inl rfl) ?_
    exact k0 hc5
  · have hc5 : 0 ≤ x := Int.not_lt.mp hc5
    refine v_load (v := (1, x)) (hi_X12_isIn_6 hT) rfl rfl ?_
    refine v_load (v := (1, ((P 0 2) - 1))) (hi_X12_isIn_7 hT) rfl rfl ?_
    refine v_lif (hi_X12_isIn_9 hT) (hi_X12_isIn_10 hT) (fun hc8 => ?_) (fun hc8 => ?_)
    · have hc8 : ((P 0 2) - 1) < x := hc8
      refine v_push (0) (hi_X12_isIn_17 hT) rfl ?_
      refine v_ret (hi_X12_isIn_18 hT) (Or.inl rfl) ?_
      show vP D T N 248 15 (zset (zset h 121 1 (0, 0)) 121 0 (0, 0)) [some (2, 121), some (0, x)] [(0, 0)] _
      refine v_ret (hi_X12_isCopy_15 hT) (Or.inl rfl) ?_
      show vP D T N 278 15 (zset (zset h 121 1 (0, 0)) 121 0 (0, 0)) [some (2, 121), some (0, x), some (0, y), none, none, none] [(0, 0)] _
      refine v_if (hz_X12_mostWorth hT _ _ rfl) (fun _ => ?_) (fun hc9 => absurd (show (0 : Int) = 0 from (by decide)) hc9)
      refine v_load (v := (2, 121)) (hz_X12_mostWorth hT _ _ rfl) rfl rfl ?_
      refine v_push (2) (hz_X12_mostWorth hT _ _ rfl) rfl ?_
      refine v_call (w := 2) [some (2, 121), some (0, 2)] hO (hz_X12_mostWorth hT _ _ rfl) rfl rfl ?_
      refine v_load (v := (2, 121)) (hi_X12_refuse_0 hT) rfl rfl ?_
      refine v_load (v := (0, 2)) (hi_X12_refuse_1 hT) rfl rfl ?_
      refine v_putf (r := 121) hO (hi_X12_refuse_2 hT) rfl (fun hf10 => ?_)
      refine v_push (-1) (hi_X12_refuse_5 hT) rfl ?_
      refine v_ret (hi_X12_refuse_6 hT) (Or.inl rfl) ?_
      show vP D T N 278 23 (zset (zset (zset h 121 1 (0, 0)) 121 0 (0, 0)) 121 0 (0, 2)) [some (2, 121), some (0, x), some (0, y), none, none, none] [(0, -1)] _
      refine v_ret (hz_X12_mostWorth hT _ _ rfl) (Or.inl rfl) ?_
      exact k1 hc5 hc8
    · have hc8 : x ≤ ((P 0 2) - 1) := Int.not_lt.mp hc8
      refine v_push (1) (hi_X12_isIn_13 hT) rfl ?_
      refine v_goto (hi_X12_isIn_14 hT) ?_
      refine v_ret (hi_X12_isIn_18 hT) (Or.inl rfl) ?_
      show vP D T N 248 15 (zset (zset h 121 1 (0, 0)) 121 0 (0, 0)) [some (2, 121), some (0, x)] [(0, 1)] _
      refine v_ret (hi_X12_isCopy_15 hT) (Or.inl rfl) ?_
      show vP D T N 278 15 (zset (zset h 121 1 (0, 0)) 121 0 (0, 0)) [some (2, 121), some (0, x), some (0, y), none, none, none] [(0, 1)] _
      refine v_if (hz_X12_mostWorth hT _ _ rfl) (fun hc11 => absurd (show (1 : Int) = 0 from hc11) (by decide)) (fun _ => ?_)
      refine v_load (v := (0, y)) (hz_X12_mostWorth hT _ _ rfl) rfl rfl ?_
      refine v_i2l (hz_X12_mostWorth hT _ _ rfl) ?_
      refine v_push (0) (hz_X12_mostWorth hT _ _ rfl) rfl ?_
      refine v_push (1) (hz_X12_mostWorth hT _ _ rfl) rfl ?_
      refine v_call (w := 6) [some (1, y), none, some (1, 0), none, some (1, 1), none] hO (hz_X12_mostWorth hT _ _ rfl) rfl rfl ?_
      refine v_load (v := (1, y)) (hi_X12_isIn_0 hT) rfl rfl ?_
      refine v_load (v := (1, 0)) (hi_X12_isIn_1 hT) rfl rfl ?_
      refine v_lif (hi_X12_isIn_2 hT) (hi_X12_isIn_3 hT) (fun hc12 => ?_) (fun hc12 => ?_)
      · have hc12 : y < 0 := hc12
        refine v_push (0) (hi_X12_isIn_17 hT) rfl ?_
        refine v_ret (hi_X12_isIn_18 hT) (Or.inl rfl) ?_
        show vP D T N 278 31 (zset (zset h 121 1 (0, 0)) 121 0 (0, 0)) [some (2, 121), some (0, x), some (0, y), none, none, none] [(0, 0)] _
        refine v_if (hz_X12_mostWorth hT _ _ rfl) (fun _ => ?_) (fun hc13 => absurd (show (0 : Int) = 0 from (by decide)) hc13)
        refine v_load (v := (2, 121)) (hz_X12_mostWorth hT _ _ rfl) rfl rfl ?_
        refine v_push (5) (hz_X12_mostWorth hT _ _ rfl) rfl ?_
        refine v_call (w := 2) [some (2, 121), some (0, 5)] hO (hz_X12_mostWorth hT _ _ rfl) rfl rfl ?_
        refine v_load (v := (2, 121)) (hi_X12_refuse_0 hT) rfl rfl ?_
        refine v_load (v := (0, 5)) (hi_X12_refuse_1 hT) rfl rfl ?_
        refine v_putf (r := 121) hO (hi_X12_refuse_2 hT) rfl (fun hf14 => ?_)
        refine v_push (-1) (hi_X12_refuse_5 hT) rfl ?_
        refine v_ret (hi_X12_refuse_6 hT) (Or.inl rfl) ?_
        show vP D T N 278 39 (zset (zset (zset h 121 1 (0, 0)) 121 0 (0, 0)) 121 0 (0, 5)) [some (2, 121), some (0, x), some (0, y), none, none, none] [(0, -1)] _
        refine v_ret (hz_X12_mostWorth hT _ _ rfl) (Or.inl rfl) ?_
        exact k2 hc5 hc8 hc12
      · have hc12 : 0 ≤ y := Int.not_lt.mp hc12
        refine v_load (v := (1, y)) (hi_X12_isIn_6 hT) rfl rfl ?_
        refine v_load (v := (1, 1)) (hi_X12_isIn_7 hT) rfl rfl ?_
        refine v_lif (hi_X12_isIn_9 hT) (hi_X12_isIn_10 hT) (fun hc15 => ?_) (fun hc15 => ?_)
        · have hc15 : 1 < y := hc15
          refine v_push (0) (hi_X12_isIn_17 hT) rfl ?_
          refine v_ret (hi_X12_isIn_18 hT) (Or.inl rfl) ?_
          show vP D T N 278 31 (zset (zset h 121 1 (0, 0)) 121 0 (0, 0)) [some (2, 121), some (0, x), some (0, y), none, none, none] [(0, 0)] _
          refine v_if (hz_X12_mostWorth hT _ _ rfl) (fun _ => ?_) (fun hc16 => absurd (show (0 : Int) = 0 from (by decide)) hc16)
          refine v_load (v := (2, 121)) (hz_X12_mostWorth hT _ _ rfl) rfl rfl ?_
          refine v_push (5) (hz_X12_mostWorth hT _ _ rfl) rfl ?_
          refine v_call (w := 2) [some (2, 121), some (0, 5)] hO (hz_X12_mostWorth hT _ _ rfl) rfl rfl ?_
          refine v_load (v := (2, 121)) (hi_X12_refuse_0 hT) rfl rfl ?_
          refine v_load (v := (0, 5)) (hi_X12_refuse_1 hT) rfl rfl ?_
          refine v_putf (r := 121) hO (hi_X12_refuse_2 hT) rfl (fun hf17 => ?_)
          refine v_push (-1) (hi_X12_refuse_5 hT) rfl ?_
          refine v_ret (hi_X12_refuse_6 hT) (Or.inl rfl) ?_
          show vP D T N 278 39 (zset (zset (zset h 121 1 (0, 0)) 121 0 (0, 0)) 121 0 (0, 5)) [some (2, 121), some (0, x), some (0, y), none, none, none] [(0, -1)] _
          refine v_ret (hz_X12_mostWorth hT _ _ rfl) (Or.inl rfl) ?_
          exact k3 hc5 hc8 hc12 hc15
        · have hc15 : y ≤ 1 := Int.not_lt.mp hc15
          refine v_push (1) (hi_X12_isIn_13 hT) rfl ?_
          refine v_goto (hi_X12_isIn_14 hT) ?_
          refine v_ret (hi_X12_isIn_18 hT) (Or.inl rfl) ?_
          show vP D T N 278 31 (zset (zset h 121 1 (0, 0)) 121 0 (0, 0)) [some (2, 121), some (0, x), some (0, y), none, none, none] [(0, 1)] _
          refine v_if (hz_X12_mostWorth hT _ _ rfl) (fun hc18 => absurd (show (1 : Int) = 0 from hc18) (by decide)) (fun _ => ?_)
          refine v_push (-1) (hz_X12_mostWorth hT _ _ rfl) rfl ?_
          refine v_store1 [some (2, 121), some (0, x), some (0, y), some (0, -1), none, none] (hz_X12_mostWorth hT _ _ rfl) ⟨rfl, Nat.ne_of_beq_eq_false rfl⟩ (Nat.le_of_ble_eq_true rfl) rfl ?_
          refine v_push (-1) (hz_X12_mostWorth hT _ _ rfl) rfl ?_
          refine v_store1 [some (2, 121), some (0, x), some (0, y), some (0, -1), some (0, -1), none] (hz_X12_mostWorth hT _ _ rfl) ⟨rfl, Nat.ne_of_beq_eq_false rfl⟩ (Nat.le_of_ble_eq_true rfl) rfl ?_
          refine v_push (0) (hz_X12_mostWorth hT _ _ rfl) rfl ?_
          refine v_store1 [some (2, 121), some (0, x), some (0, y), some (0, -1), some (0, -1), some (0, 0)] (hz_X12_mostWorth hT _ _ rfl) ⟨rfl, Nat.ne_of_beq_eq_false rfl⟩ (Nat.le_of_ble_eq_true rfl) rfl ?_
          exact k4 hc5 hc8 hc12 hc15
theorem qs_mw48 {D : zD} {T : zT} (hT : hTab T) (hO : vOK T) {N : Nat} {h : zH} {Q : zR → Prop} {P : PT} {j q : Nat} (y b w : Int) (hv0 : zHv h) (p0 : h 126 0 = (0, P 0 0)) (p1 : h 126 1 = (0, P 0 1)) (hb : fB P) (gq : gIn P q) (hq : gJ P q < 48) (hj : j < 3) (hlt : ((gJ P q : Nat) : Int) < ((P 0 0) * (P 0 1)))
    (k0 : vP D T N 251 0 h [some (2, 121), some (0, (j : Int)), some (0, ((gJ P q : Nat) : Int))] [] (fun r1 => vP D T N 278 64 r1.1 [some (2, 121), some (0, (j : Int)), some (0, y), some (0, b), some (0, w), some (0, ((gJ P q : Nat) : Int))] (zpush r1.2 []) Q)) :
    vP D T N 278 48 h [some (2, 121), some (0, (j : Int)), some (0, y), some (0, b), some (0, w), some (0, ((gJ P q : Nat) : Int))] [] Q := by
  refine v_load (v := (0, ((gJ P q : Nat) : Int))) (hz_X12_mostWorth hT _ _ rfl) rfl rfl ?_
  refine v_load (v := (2, 121)) (hz_X12_mostWorth hT _ _ rfl) rfl rfl ?_
  refine v_call (w := 1) [some (2, 121)] hO (hz_X12_mostWorth hT _ _ rfl) rfl rfl (rb_cells hT hO p0 p1 hb.1 ?_)
  show vP D T N 278 54 h [some (2, 121), some (0, (j : Int)), some (0, y), some (0, b), some (0, w), some (0, ((gJ P q : Nat) : Int))] [(0, ((P 0 0) * (P 0 1))), (0, ((gJ P q : Nat) : Int))] _
  refine v_ic (hz_X12_mostWorth hT _ _ rfl) (fun _ => ?_) (fun hc1 => absurd (show ((gJ P q : Nat) : Int) < ((P 0 0) * (P 0 1)) from hlt) hc1)
  refine v_load (v := (2, 121)) (hz_X12_mostWorth hT _ _ rfl) rfl rfl ?_
  refine v_load (v := (0, (j : Int))) (hz_X12_mostWorth hT _ _ rfl) rfl rfl ?_
  refine v_load (v := (0, ((gJ P q : Nat) : Int))) (hz_X12_mostWorth hT _ _ rfl) rfl rfl ?_
  refine v_call (w := 3) [some (2, 121), some (0, (j : Int)), some (0, ((gJ P q : Nat) : Int))] hO (hz_X12_mostWorth hT _ _ rfl) rfl rfl ?_
  exact k0 
theorem qs_mw48x {D : zD} {T : zT} (hT : hTab T) (hO : vOK T) {N : Nat} {h : zH} {Q : zR → Prop} {P : PT} {j n : Nat} (y b w : Int) (hv0 : zHv h) (p0 : h 126 0 = (0, P 0 0)) (p1 : h 126 1 = (0, P 0 1)) (hb : fB P) (hge : ((P 0 0) * (P 0 1)) ≤ (n : Int))
    (k0 : vP D T N 278 100 h [some (2, 121), some (0, (j : Int)), some (0, y), some (0, b), some (0, w), some (0, (n : Int))] [] Q) :
    vP D T N 278 48 h [some (2, 121), some (0, (j : Int)), some (0, y), some (0, b), some (0, w), some (0, (n : Int))] [] Q := by
  refine v_load (v := (0, (n : Int))) (hz_X12_mostWorth hT _ _ rfl) rfl rfl ?_
  refine v_load (v := (2, 121)) (hz_X12_mostWorth hT _ _ rfl) rfl rfl ?_
  refine v_call (w := 1) [some (2, 121)] hO (hz_X12_mostWorth hT _ _ rfl) rfl rfl (rb_cells hT hO p0 p1 hb.1 ?_)
  show vP D T N 278 54 h [some (2, 121), some (0, (j : Int)), some (0, y), some (0, b), some (0, w), some (0, (n : Int))] [(0, ((P 0 0) * (P 0 1))), (0, (n : Int))] _
  refine v_ic (hz_X12_mostWorth hT _ _ rfl) (fun hc1 => absurd (show (n : Int) < ((P 0 0) * (P 0 1)) from hc1) (by omega)) (fun _ => ?_)
  exact k0 
theorem qs_mw64n {D : zD} {T : zT} (hT : hTab T) (hO : vOK T) {N : Nat} {h : zH} {Q : zR → Prop} {P : PT} {j q : Nat} (y b w : Int) (hv0 : zHv h) (hq : gJ P q < 48)
    (k0 : vP D T N 278 48 h [some (2, 121), some (0, (j : Int)), some (0, y), some (0, b), some (0, w), some (0, (((gJ P q : Nat) : Int) + 1))] [] Q) :
    vP D T N 278 64 h [some (2, 121), some (0, (j : Int)), some (0, y), some (0, b), some (0, w), some (0, ((gJ P q : Nat) : Int))] [(0, 0)] Q := by
  refine v_if (hz_X12_mostWorth hT _ _ rfl) (fun _ => ?_) (fun hc1 => absurd (show (0 : Int) = 0 from (by decide)) hc1)
  refine v_iinc (x := ((gJ P q : Nat) : Int)) (u := 1) (w := (((gJ P q : Nat) : Int) + 1)) [some (2, 121), some (0, (j : Int)), some (0, y), some (0, b), some (0, w), some (0, (((gJ P q : Nat) : Int) + 1))] (hz_X12_mostWorth hT _ _ rfl) rfl rfl (Nat.le_of_ble_eq_true rfl) (vz_inc (by omega) (by omega)) rfl ?_
  refine v_goto (hz_X12_mostWorth hT _ _ rfl) ?_
  exact k0 
theorem qs_mw64y {D : zD} {T : zT} (hT : hTab T) (hO : vOK T) {N : Nat} {h : zH} {Q : zR → Prop} {P : PT} {j q : Nat} (y b w : Int) (hv0 : zHv h)
    (k0 : vP D T N 338 0 h [some (2, 121), some (0, (j : Int)), some (0, ((gJ P q : Nat) : Int)), none, none, none, none, none] [] (fun r1 => vP D T N 278 74 r1.1 [some (2, 121), some (0, (j : Int)), some (0, y), some (0, b), some (0, w), some (0, ((gJ P q : Nat) : Int))] (zpush r1.2 []) Q)) :
    vP D T N 278 64 h [some (2, 121), some (0, (j : Int)), some (0, y), some (0, b), some (0, w), some (0, ((gJ P q : Nat) : Int))] [(0, 1)] Q := by
  refine v_if (hz_X12_mostWorth hT _ _ rfl) (fun hc1 => absurd (show (1 : Int) = 0 from hc1) (by decide)) (fun _ => ?_)
  refine v_load (v := (2, 121)) (hz_X12_mostWorth hT _ _ rfl) rfl rfl ?_
  refine v_load (v := (0, (j : Int))) (hz_X12_mostWorth hT _ _ rfl) rfl rfl ?_
  refine v_load (v := (0, ((gJ P q : Nat) : Int))) (hz_X12_mostWorth hT _ _ rfl) rfl rfl ?_
  refine v_call (w := 8) [some (2, 121), some (0, (j : Int)), some (0, ((gJ P q : Nat) : Int)), none, none, none, none, none] hO (hz_X12_mostWorth hT _ _ rfl) rfl rfl ?_
  exact k0 
theorem qs_mw74 {D : zD} {T : zT} (hT : hTab T) (hO : vOK T) {N : Nat} {h : zH} {Q : zR → Prop} {P : PT} {j q : Nat} (y b w v : Int) (hv0 : zHv h) (hq : gJ P q < 48)
    (k0 : (w < v) → vP D T N 338 0 h [some (2, 121), some (0, (j : Int)), some (0, ((gJ P q : Nat) : Int)), none, none, none, none, none] [] (fun r1 => vP D T N 278 89 r1.1 [some (2, 121), some (0, (j : Int)), some (0, y), some (0, b), some (0, w), some (0, ((gJ P q : Nat) : Int))] (zpush r1.2 []) Q))
    (k1 : (v ≤ w) → vP D T N 278 48 h [some (2, 121), some (0, (j : Int)), some (0, y), some (0, b), some (0, w), some (0, (((gJ P q : Nat) : Int) + 1))] [] Q) :
    vP D T N 278 74 h [some (2, 121), some (0, (j : Int)), some (0, y), some (0, b), some (0, w), some (0, ((gJ P q : Nat) : Int))] [(0, v)] Q := by
  refine v_load (v := (0, w)) (hz_X12_mostWorth hT _ _ rfl) rfl rfl ?_
  refine v_ic (hz_X12_mostWorth hT _ _ rfl) (fun hc1 => ?_) (fun hc1 => ?_)
  · have hc1 : w < v := hc1
    refine v_load (v := (2, 121)) (hz_X12_mostWorth hT _ _ rfl) rfl rfl ?_
    refine v_load (v := (0, (j : Int))) (hz_X12_mostWorth hT _ _ rfl) rfl rfl ?_
    refine v_load (v := (0, ((gJ P q : Nat) : Int))) (hz_X12_mostWorth hT _ _ rfl) rfl rfl ?_
    refine v_call (w := 8) [some (2, 121), some (0, (j : Int)), some (0, ((gJ P q : Nat) : Int)), none, none, none, none, none] hO (hz_X12_mostWorth hT _ _ rfl) rfl rfl ?_
    exact k0 hc1
  · have hc1 : v ≤ w := Int.not_lt.mp hc1
    refine v_goto (hz_X12_mostWorth hT _ _ rfl) ?_
    refine v_iinc (x := ((gJ P q : Nat) : Int)) (u := 1) (w := (((gJ P q : Nat) : Int) + 1)) [some (2, 121), some (0, (j : Int)), some (0, y), some (0, b), some (0, w), some (0, (((gJ P q : Nat) : Int) + 1))] (hz_X12_mostWorth hT _ _ rfl) rfl rfl (Nat.le_of_ble_eq_true rfl) (vz_inc (by omega) (by omega)) rfl ?_
    refine v_goto (hz_X12_mostWorth hT _ _ rfl) ?_
    exact k1 hc1
theorem qs_mw89 {D : zD} {T : zT} (hT : hTab T) (hO : vOK T) {N : Nat} {h : zH} {Q : zR → Prop} {P : PT} {j q : Nat} (y b w v : Int) (hv0 : zHv h) (hq : gJ P q < 48)
    (k0 : vP D T N 278 48 h [some (2, 121), some (0, (j : Int)), some (0, y), some (0, ((gJ P q : Nat) : Int)), some (0, v), some (0, (((gJ P q : Nat) : Int) + 1))] [] Q) :
    vP D T N 278 89 h [some (2, 121), some (0, (j : Int)), some (0, y), some (0, b), some (0, w), some (0, ((gJ P q : Nat) : Int))] [(0, v)] Q := by
  refine v_store1 [some (2, 121), some (0, (j : Int)), some (0, y), some (0, b), some (0, v), some (0, ((gJ P q : Nat) : Int))] (hz_X12_mostWorth hT _ _ rfl) ⟨rfl, Nat.ne_of_beq_eq_false rfl⟩ (Nat.le_of_ble_eq_true rfl) rfl ?_
  refine v_load (v := (0, ((gJ P q : Nat) : Int))) (hz_X12_mostWorth hT _ _ rfl) rfl rfl ?_
  refine v_store1 [some (2, 121), some (0, (j : Int)), some (0, y), some (0, ((gJ P q : Nat) : Int)), some (0, v), some (0, ((gJ P q : Nat) : Int))] (hz_X12_mostWorth hT _ _ rfl) ⟨rfl, Nat.ne_of_beq_eq_false rfl⟩ (Nat.le_of_ble_eq_true rfl) rfl ?_
  refine v_iinc (x := ((gJ P q : Nat) : Int)) (u := 1) (w := (((gJ P q : Nat) : Int) + 1)) [some (2, 121), some (0, (j : Int)), some (0, y), some (0, ((gJ P q : Nat) : Int)), some (0, v), some (0, (((gJ P q : Nat) : Int) + 1))] (hz_X12_mostWorth hT _ _ rfl) rfl rfl (Nat.le_of_ble_eq_true rfl) (vz_inc (by omega) (by omega)) rfl ?_
  refine v_goto (hz_X12_mostWorth hT _ _ rfl) ?_
  exact k0 
theorem qs_mw100 {D : zD} {T : zT} (hT : hTab T) (hO : vOK T) {N : Nat} {h : zH} {Q : zR → Prop} {j n : Nat} (y b w : Int) (hv0 : zHv h)
    (k0 : (b < 0) → Q (zset h 121 0 (0, 8), some (0, -1)))
    (k1 : (0 ≤ b) → (y = 0) → Q (h, some (0, b)))
    (k2 : (0 ≤ b) → (y ≠ 0) → Q (h, some (0, w))) :
    vP D T N 278 100 h [some (2, 121), some (0, (j : Int)), some (0, y), some (0, b), some (0, w), some (0, (n : Int))] [] Q := by
  refine v_load (v := (0, b)) (hz_X12_mostWorth hT _ _ rfl) rfl rfl ?_
  refine v_if (hz_X12_mostWorth hT _ _ rfl) (fun hc1 => ?_) (fun hc1 => ?_)
  · have hc1 : b < 0 := hc1
    refine v_load (v := (2, 121)) (hz_X12_mostWorth hT _ _ rfl) rfl rfl ?_
    refine v_push (8) (hz_X12_mostWorth hT _ _ rfl) rfl ?_
    refine v_call (w := 2) [some (2, 121), some (0, 8)] hO (hz_X12_mostWorth hT _ _ rfl) rfl rfl ?_
    refine v_load (v := (2, 121)) (hi_X12_refuse_0 hT) rfl rfl ?_
    refine v_load (v := (0, 8)) (hi_X12_refuse_1 hT) rfl rfl ?_
    refine v_putf (r := 121) hO (hi_X12_refuse_2 hT) rfl (fun hf2 => ?_)
    refine v_push (-1) (hi_X12_refuse_5 hT) rfl ?_
    refine v_ret (hi_X12_refuse_6 hT) (Or.inl rfl) ?_
    show vP D T N 278 110 (zset h 121 0 (0, 8)) [some (2, 121), some (0, (j : Int)), some (0, y), some (0, b), some (0, w), some (0, (n : Int))] [(0, -1)] _
    refine v_goto (hz_X12_mostWorth hT _ _ rfl) ?_
    refine v_ret (hz_X12_mostWorth hT _ _ rfl) (Or.inl rfl) ?_
    exact k0 hc1
  · have hc1 : 0 ≤ b := Int.not_lt.mp hc1
    refine v_load (v := (0, y)) (hz_X12_mostWorth hT _ _ rfl) rfl rfl ?_
    refine v_if (hz_X12_mostWorth hT _ _ rfl) (fun hc3 => ?_) (fun hc3 => ?_)
    · have hc3 : y = 0 := hc3
      refine v_load (v := (0, b)) (hz_X12_mostWorth hT _ _ rfl) rfl rfl ?_
      refine v_goto (hz_X12_mostWorth hT _ _ rfl) ?_
      refine v_ret (hz_X12_mostWorth hT _ _ rfl) (Or.inl rfl) ?_
      exact k1 hc1 hc3
    · have hc3 : y ≠ 0 := hc3
      refine v_load (v := (0, w)) (hz_X12_mostWorth hT _ _ rfl) rfl rfl ?_
      refine v_ret (hz_X12_mostWorth hT _ _ rfl) (Or.inl rfl) ?_
      exact k2 hc1 hc3
/-! worth, mostWorth: the reference -/
noncomputable def wtS (P : PT) (j q : Nat) : Nat → Int
  | 0 => 0
  | m + 1 => wtS P j q m + (if P 8 m = (j : Int) ∧ mC P m ≠ -1 then (if mC (pSt P j q 1) m = -1 then 100 else mC (pSt P j q 1) m - mC P m) else 0)
noncomputable def wtV (P : PT) (j q : Nat) : Int := wtS P j q (P 0 3).toNat
def wqF (h g : zH) : Prop := ∀ a b, ¬ (a = 130 ∨ (a = 126 ∧ 101 ≤ b ∧ b < 245)) → g a b = h a b
theorem wqF.rfl {h : zH} : wqF h h := fun _ _ _ => Eq.refl _
theorem wqF.trans {h g g2 : zH} (f : wqF h g) (f2 : wqF g g2) : wqF h g2 := fun a b hn => (f2 a b hn).trans (f a b hn)
theorem wqF.st {j q : Nat} {P : PT} {v : zV} {h : zH} (lb : lB P) (hj : j < 3) (gq : gIn P q) : wqF h (zset h 126 ((101 + (48 * (j : Int))) + ((gJ P q : Nat) : Int)).toNat v) := fun a b hn => by
  have := gJ_lt lb gq
  exact zset_ne (fun e => hn (by omega))
theorem rx_wtL {D : zD} {T : zT} (hT : hTab T) (hO : vOK T) {N : Nat} {Q : zR → Prop} {P : PT} {j q : Nat} (hb : fB P) (hj : j < 3) (gq : gIn P q) : ∀ (r m : Nat) (n : Int) (h : zH) (o6 o7 : Option zV), (m : Int) + (r : Int) = P 0 3 → rBk 0 P h → n = wtS P j q m → (-(1000000 * (m : Int)) ≤ n ∧ n ≤ 1000000 * (m : Int)) → (∀ g : zH, rBk 0 P g → wqF h g → Q (g, some (0, wtV P j q))) → vP D T N 338 13 h [some (2, 121), some (0, (j : Int)), some (0, ((gJ P q : Nat) : Int)), some (0, n), some (0, P 3 (48 * j + q)), some (0, (m : Int)), o6, o7] [] Q
  | 0, m, n, h, o6, o7, hm, hR, en, bd, k => by
    have e : n = wtV P j q := by
      rw [en]
      unfold wtV
      rw [show (P 0 3).toNat = m from by omega]
    exact vP_dn (vP_hv (fun hv => qr_wt9 hT hO n _ o6 o7 hv hR.m (by omega) (by rw [e]; exact k h hR wqF.rfl)))
  | r + 1, m, n, h, o6, o7, hm, hR, en, bd, k => by
    have lb := hb.1
    have lj := gJ_lt lb gq
    have h3 : (m : Int) < P 0 3 := by omega
    have m6 : m < 6 := by have := lb.2.2.2.2; omega
    have b1 : fB (pSt P j q 1) := hb.s3 (by decide)
    have s0 : ¬ (P 8 m = (j : Int) ∧ mC P m ≠ -1) → wtS P j q (m + 1) = wtS P j q m := fun c => by
      show wtS P j q m + (if P 8 m = (j : Int) ∧ mC P m ≠ -1 then (if mC (pSt P j q 1) m = -1 then 100 else mC (pSt P j q 1) m - mC P m) else 0) = _
      rw [if_neg c, Int.add_zero]
    have s1 : P 8 m = (j : Int) ∧ mC P m ≠ -1 → wtS P j q (m + 1) = wtS P j q m + (if mC (pSt P j q 1) m = -1 then 100 else mC (pSt P j q 1) m - mC P m) := fun c => by
      show wtS P j q m + (if P 8 m = (j : Int) ∧ mC P m ≠ -1 then (if mC (pSt P j q 1) m = -1 then 100 else mC (pSt P j q 1) m - mC P m) else 0) = _
      rw [if_pos c]
    refine vP_dn (vP_hv (fun hv => qr_wt13 hT hO n _ o6 o7 hv hR.m (hR.by h3) h3 m6 (fun _ _ c => ?_) (fun _ _ c => ?_)))
    · refine rx_cw hT hO m hR hb h3 (fun g u => ?_)
      have hR1 : rBk 0 P g := hR.eq lb (fun b _ _ => u 126 b (by decide))
      have F1 : wqF h g := fun a b hn => u a b (fun e => hn (Or.inl e))
      rcases mC_b hb h3 with w | ⟨w1, w2⟩
      · have e : cwC P m = 1000000 := if_pos w
        rw [e]
        show vP D T N 338 48 g [some (2, 121), some (0, (j : Int)), some (0, ((gJ P q : Nat) : Int)), some (0, n), some (0, P 3 (48 * j + q)), some (0, (m : Int)), o6, o7] [(0, 1000000)] Q
        refine vP_hv (fun hv => qr_wt48f hT hO n _ o6 o7 hv m6 ?_)
        exact rx_wtL hT hO hb hj gq r (m + 1) n g _ _ (by omega) hR1 (by rw [s0 (fun d => d.2 w)]; exact en) (by omega) (fun g2 x1 x2 => k g2 x1 (F1.trans x2))
      · have w0 : mC P m ≠ -1 := by omega
        have e : cwC P m = mC P m := if_neg w0
        rw [e]
        show vP D T N 338 48 g [some (2, 121), some (0, (j : Int)), some (0, ((gJ P q : Nat) : Int)), some (0, n), some (0, P 3 (48 * j + q)), some (0, (m : Int)), o6, o7] [(0, mC P m)] Q
        refine vP_hv (fun hv => qr_wt48 hT hO n _ (mC P m) o6 o7 hv m6 (by omega) gq lj hj (fun _ _ => ?_))
        have R1 := hR1.s3 lb hj gq (v := 1)
        refine rx_cw hT hO (P := pSt P j q 1) m R1 b1 h3 (fun g2 u2 => ?_)
        have Rg : rBk 0 (pSt P j q 1) g2 := R1.eq lb (fun b _ _ => u2 126 b (by decide))
        have R2 := Rg.s3 (show lB (pSt P j q 1) from lb) hj gq (v := P 3 (48 * j + q))
        rw [pSt_back] at R2
        have F2 : wqF h (zset g2 126 ((101 + (48 * (j : Int))) + ((gJ P q : Nat) : Int)).toNat (0, P 3 (48 * j + q))) := ((F1.trans (wqF.st lb hj gq)).trans (fun a b hn => u2 a b (fun e => hn (Or.inl e)))).trans (wqF.st lb hj gq)
        have mb := mC_b (P := pSt P j q 1) b1 (show (m : Int) < P 0 3 from h3)
        have cb : 0 ≤ cwC (pSt P j q 1) m ∧ cwC (pSt P j q 1) m ≤ 1000000 := by
          unfold cwC
          split <;> omega
        show vP D T N 338 78 g2 [some (2, 121), some (0, (j : Int)), some (0, ((gJ P q : Nat) : Int)), some (0, n), some (0, P 3 (48 * j + q)), some (0, (m : Int)), some (0, mC P m), o7] [(0, cwC (pSt P j q 1) m)] Q
        refine vP_hv (fun hv => qr_wt78 hT hO n _ (mC P m) (cwC (pSt P j q 1) m) o7 hv m6 gq lj hj (by omega) cb (by omega) (fun _ _ c2 => ?_) (fun _ _ c2 => ?_))
        · have q1 : mC (pSt P j q 1) m = -1 := by
            unfold cwC at c2
            rcases mb with d | d
            · exact d
            · rw [if_neg (by omega)] at c2
              omega
          exact rx_wtL hT hO hb hj gq r (m + 1) (n + 100) (zset g2 126 ((101 + (48 * (j : Int))) + ((gJ P q : Nat) : Int)).toNat (0, P 3 (48 * j + q))) _ _ (by omega) R2 (by rw [s1 ⟨c, w0⟩, if_pos q1, en]) (by omega) (fun g3 x1 x2 => k g3 x1 (F2.trans x2))
        · have q1 : mC (pSt P j q 1) m ≠ -1 := fun d => c2 (by unfold cwC; rw [if_pos d])
          have q2 : cwC (pSt P j q 1) m = mC (pSt P j q 1) m := if_neg q1
          exact rx_wtL hT hO hb hj gq r (m + 1) (n + (cwC (pSt P j q 1) m - mC P m)) (zset g2 126 ((101 + (48 * (j : Int))) + ((gJ P q : Nat) : Int)).toNat (0, P 3 (48 * j + q))) _ _ (by omega) R2 (by rw [s1 ⟨c, w0⟩, if_neg q1, en, q2]) (by omega) (fun g3 x1 x2 => k g3 x1 (F2.trans x2))
    · exact rx_wtL hT hO hb hj gq r (m + 1) n h _ _ (by omega) hR (by rw [s0 (fun d => c d.1)]; exact en) (by omega) k
theorem rx_wt {D : zD} {T : zT} (hT : hTab T) (hO : vOK T) {N : Nat} {h : zH} {Q : zR → Prop} {P : PT} {j q : Nat} (hR : rBk 0 P h) (hb : fB P) (hj : j < 3) (gq : gIn P q) (k : ∀ g : zH, rBk 0 P g → wqF h g → Q (g, some (0, wtV P j q))) : vP D T N 338 0 h [some (2, 121), some (0, (j : Int)), some (0, ((gJ P q : Nat) : Int)), none, none, none, none, none] [] Q := by
  have l0 := hb.1.2.2.2.1
  exact vP_hv (fun hv => qr_wt0 hT hO hv hR hb gq (gJ_lt hb.1 gq) hj (rx_wtL hT hO hb hj gq (P 0 3).toNat 0 0 h none none (by omega) hR rfl ⟨by decide, by decide⟩ k))
noncomputable def woV (P : PT) (x y z : Int) : Int := if okC P x y z ∧ P 3 (cI x y z) ≠ 1 then wtV P x.toNat (8 * z.toNat + y.toNat) else -1
theorem wqF.sf {h g : zH} (f : wqF h g) : rSF h g := fun a b hn => f a b (fun e => hn (by omega))
theorem rx_worth {D : zD} {T : zT} (hT : hTab T) (hO : vOK T) {N : Nat} {h : zH} {P : PT} (hR : rBk 0 P h) (hb : fB P) (x y z : Int) : vP D T N 337 0 h [some (2, 121), some (0, x), some (0, y), some (0, z)] [] (fun r => rBk 0 P r.1 ∧ rSF h r.1 ∧ r.2 = some (0, woV P x y z)) := by
  have lb := hb.1
  have l3 := lb.2.2.1.2
  have F2 : rSF h (zset (zset h 121 1 (0, 0)) 121 0 (0, 0)) := fun a b hn => (zset_ne (fun e => hn (by omega))).trans (zset_ne (fun e => hn (by omega)))
  have hR2 : rBk 0 P (zset (zset h 121 1 (0, 0)) 121 0 (0, 0)) := (hR.z1 lb).z1 lb
  have no : ∀ v : Int, ¬ (okC P x y z ∧ P 3 (cI x y z) ≠ 1) → rBk 0 P (zset (zset (zset h 121 1 (0, 0)) 121 0 (0, 0)) 121 0 (0, v)) ∧ rSF h (zset (zset (zset h 121 1 (0, 0)) 121 0 (0, 0)) 121 0 (0, v)) ∧ (some ((0, -1) : zV)) = some (0, woV P x y z) := fun v c => by
    unfold woV
    rw [if_neg c]
    exact ⟨hR2.z1 lb, fun a b hn => (zset_ne (fun e => hn (by omega))).trans (F2 a b hn), rfl⟩
  refine vP_hv (fun hv => qs_wo0 (P := P) hT hO x y z hv hR.w hR.r hR.c hR.m lb ?k0 ?k1 ?k2 ?k3 ?k4 ?k5 ?k6)
  case k6 =>
    intro c1 c2 c3 c4 c5 c6
    obtain ⟨j, rfl⟩ : ∃ j : Nat, x = (j : Int) := ⟨x.toNat, by omega⟩
    obtain ⟨u, rfl⟩ : ∃ u : Nat, y = (u : Int) := ⟨y.toNat, by omega⟩
    obtain ⟨v, rfl⟩ : ∃ v : Nat, z = (v : Int) := ⟨z.toNat, by omega⟩
    have w8 := lb.1.2
    have r6 := lb.2.1.2
    have gq : gIn P (8 * v + u) := ⟨by omega, by omega, by omega⟩
    have ok : okC P (j : Int) (u : Int) (v : Int) := ⟨c1, by omega, c3, by omega, c5, by omega⟩
    have ej := at2_J lb (u := u) (v := v) (by omega)
    refine vP_hv (fun hv => qs_wo33 hT hO hv ?_)
    refine rb_at2 hT hO _ _ (by omega) (by omega) hR2.w lb ?_
    rw [ej]
    show vP D T N 337 41 _ [some (2, 121), some (0, (j : Int)), some (0, (u : Int)), some (0, (v : Int))] [(0, ((gJ P (8 * v + u) : Nat) : Int)), (0, (j : Int)), (2, 121)] _
    refine vP_hv (fun hv => qs_wo41 hT hO hv hR2 hb (by omega) gq (gJ_lt lb gq) ej (by omega) (by omega) lb (fun c => ?_) (fun c => ?_))
    · exact no 9 (fun d => d.2 c)
    · refine rx_wt hT hO hR2 hb (by omega) gq (fun g g1 g2 => ?_)
      have e2 : woV P (j : Int) (u : Int) (v : Int) = wtV P j (8 * v + u) := if_pos ⟨ok, c⟩
      rw [e2]
      exact vP_hv (fun hv => qs_wo68 hT hO _ hv ⟨g1, fun a b hn => (g2.sf a b hn).trans (F2 a b hn), rfl⟩)
  all_goals
    intros
    exact no 2 (by rintro ⟨⟨o1, o2, o3, o4, o5, o6⟩, _⟩; omega)
noncomputable def mwT (P : PT) (j : Nat) : Nat → Nat → Int × Int → Int × Int
  | 0, _, K => K
  | r + 1, n, K => mwT P j r (n + 1) (@ite (Int × Int) (ifP P j (gQ P n) ∧ K.2 < wtV P j (gQ P n)) (Classical.propDecidable _) ((n : Int), wtV P j (gQ P n)) K)
theorem rx_mwT {D : zD} {T : zT} (hT : hTab T) (hO : vOK T) {N : Nat} {Q : zR → Prop} {P : PT} {j : Nat} {y : Int} (hb : fB P) (hj : j < 3) : ∀ (r n : Nat) (h : zH) (K : Int × Int), n + r = (P 0 0).toNat * (P 0 1).toNat → rBk 0 P h → (∀ (g : zH) (n' : Nat), rBk 0 P g → wqF h g → vP D T N 278 100 g [some (2, 121), some (0, (j : Int)), some (0, y), some (0, (mwT P j r n K).1), some (0, (mwT P j r n K).2), some (0, (n' : Int))] [] Q) → vP D T N 278 48 h [some (2, 121), some (0, (j : Int)), some (0, y), some (0, K.1), some (0, K.2), some (0, (n : Int))] [] Q
  | 0, n, h, K, hn, hR, k => by
    have e := wr_i hb.1
    have hn : n = (P 0 0).toNat * (P 0 1).toNat := hn
    exact vP_hv (fun hv => qs_mw48x (P := P) hT hO y K.1 K.2 hv hR.w hR.r hb (by rw [← e, hn]; exact Int.le_refl _) (k h n hR wqF.rfl))
  | r + 1, n, h, K, hn, hR, k => by
    have e := wr_i hb.1
    have lb := hb.1
    have w48 := wr_48 hb.1
    obtain ⟨gq, ej⟩ := gQ_ok hb.1 (n := n) (by omega)
    have lj := gJ_lt lb gq
    have e1 : (((gJ P (gQ P n) : Nat) : Int) + 1) = ((n + 1 : Nat) : Int) := by rw [ej]; rfl
    have e0 : ((gJ P (gQ P n) : Nat) : Int) = (n : Int) := by rw [ej]
    have nx : ∀ (g : zH) (K' : Int × Int), (@ite (Int × Int) (ifP P j (gQ P n) ∧ K.2 < wtV P j (gQ P n)) (Classical.propDecidable _) ((n : Int), wtV P j (gQ P n)) K) = K' → rBk 0 P g → wqF h g → vP D T N 278 48 g [some (2, 121), some (0, (j : Int)), some (0, y), some (0, K'.1), some (0, K'.2), some (0, (((gJ P (gQ P n) : Nat) : Int) + 1))] [] Q := fun g K' ek hR' F => by
      rw [e1]
      refine rx_mwT hT hO hb hj r (n + 1) g K' (by omega) hR' (fun g2 n' x1 x2 => ?_)
      have q := k g2 n' x1 (F.trans x2)
      have em : mwT P j (r + 1) n K = mwT P j r (n + 1) K' := by
        show mwT P j r (n + 1) (@ite (Int × Int) (ifP P j (gQ P n) ∧ K.2 < wtV P j (gQ P n)) (Classical.propDecidable _) ((n : Int), wtV P j (gQ P n)) K) = _
        rw [ek]
      rw [em] at q
      exact q
    have go : vP D T N 278 48 h [some (2, 121), some (0, (j : Int)), some (0, y), some (0, K.1), some (0, K.2), some (0, ((gJ P (gQ P n) : Nat) : Int))] [] Q := by
      refine vP_hv (fun hv => qs_mw48 (P := P) (q := gQ P n) hT hO y K.1 K.2 hv hR.w hR.r hb gq lj hj (by rw [ej, ← e]; omega) ?_)
      refine rx_if hT hO hR hb hj gq (fun c => ?_) (fun c => ?_)
      · show vP D T N 278 64 h [some (2, 121), some (0, (j : Int)), some (0, y), some (0, K.1), some (0, K.2), some (0, ((gJ P (gQ P n) : Nat) : Int))] [(0, 1)] Q
        refine vP_hv (fun hv => qs_mw64y (P := P) hT hO y K.1 K.2 hv ?_)
        refine rx_wt hT hO hR hb hj gq (fun g g1 g2 => ?_)
        show vP D T N 278 74 g [some (2, 121), some (0, (j : Int)), some (0, y), some (0, K.1), some (0, K.2), some (0, ((gJ P (gQ P n) : Nat) : Int))] [(0, wtV P j (gQ P n))] Q
        refine vP_hv (fun hv => qs_mw74 (P := P) hT hO y K.1 K.2 _ hv lj (fun c2 => ?_) (fun c2 => ?_))
        · refine rx_wt hT hO g1 hb hj gq (fun g' g1' g2' => ?_)
          show vP D T N 278 89 g' [some (2, 121), some (0, (j : Int)), some (0, y), some (0, K.1), some (0, K.2), some (0, ((gJ P (gQ P n) : Nat) : Int))] [(0, wtV P j (gQ P n))] Q
          have q := nx g' ((n : Int), wtV P j (gQ P n)) (if_pos ⟨c, c2⟩) g1' (g2.trans g2')
          refine vP_hv (fun hv => qs_mw89 (P := P) hT hO y K.1 K.2 _ hv lj ?_)
          rw [e0] at q ⊢
          exact q
        · exact nx g K (if_neg (fun d => by have := d.2; omega)) g1 g2
      · show vP D T N 278 64 h [some (2, 121), some (0, (j : Int)), some (0, y), some (0, K.1), some (0, K.2), some (0, ((gJ P (gQ P n) : Nat) : Int))] [(0, 0)] Q
        exact vP_hv (fun hv => qs_mw64n (P := P) hT hO y K.1 K.2 hv lj (nx h K (if_neg (fun d => c d.1)) hR wqF.rfl))
    rw [ej] at go
    exact go
abbrev okW (P : PT) (x y : Int) : Prop := 0 ≤ x ∧ x < P 0 2 ∧ 0 ≤ y ∧ y ≤ 1
noncomputable def mwV (P : PT) (x y : Int) : Int := if okW P x y ∧ 0 ≤ (mwT P x.toNat ((P 0 0).toNat * (P 0 1).toNat) 0 (-1, -1)).1 then (if y = 0 then (mwT P x.toNat ((P 0 0).toNat * (P 0 1).toNat) 0 (-1, -1)).1 else (mwT P x.toNat ((P 0 0).toNat * (P 0 1).toNat) 0 (-1, -1)).2) else -1
theorem rx_mostWorth {D : zD} {T : zT} (hT : hTab T) (hO : vOK T) {N : Nat} {h : zH} {P : PT} (hR : rBk 0 P h) (hb : fB P) (x y : Int) : vP D T N 278 0 h [some (2, 121), some (0, x), some (0, y), none, none, none] [] (fun r => rBk 0 P r.1 ∧ rSF h r.1 ∧ r.2 = some (0, mwV P x y)) := by
  have lb := hb.1
  have l3 := lb.2.2.1.2
  have F2 : rSF h (zset (zset h 121 1 (0, 0)) 121 0 (0, 0)) := fun a b hn => (zset_ne (fun e => hn (by omega))).trans (zset_ne (fun e => hn (by omega)))
  have hR2 : rBk 0 P (zset (zset h 121 1 (0, 0)) 121 0 (0, 0)) := (hR.z1 lb).z1 lb
  have no : ∀ (g : zH) (v : Int), rBk 0 P g → rSF h g → ¬ (okW P x y ∧ 0 ≤ (mwT P x.toNat ((P 0 0).toNat * (P 0 1).toNat) 0 (-1, -1)).1) → rBk 0 P (zset g 121 0 (0, v)) ∧ rSF h (zset g 121 0 (0, v)) ∧ (some ((0, -1) : zV)) = some (0, mwV P x y) := fun g v r f c => by
    unfold mwV
    rw [if_neg c]
    exact ⟨r.z1 lb, fun a b hn => (zset_ne (fun e => hn (by omega))).trans (f a b hn), rfl⟩
  refine vP_hv (fun hv => qs_mw0 (P := P) hT hO x y hv hR.w hR.r hR.c hR.m lb ?k0 ?k1 ?k2 ?k3 ?k4)
  case k4 =>
    intro c1 c2 c3 c4
    obtain ⟨j, rfl⟩ : ∃ j : Nat, x = (j : Int) := ⟨x.toNat, by omega⟩
    have ok : okW P (j : Int) y := ⟨c1, by omega, c3, c4⟩
    refine rx_mwT hT hO hb (show j < 3 by omega) ((P 0 0).toNat * (P 0 1).toNat) 0 _ (-1, -1) (Nat.zero_add _) hR2 (fun g n' g1 g2 => ?_)
    have F3 : rSF h g := fun a b hn => (g2.sf a b hn).trans (F2 a b hn)
    generalize eK : mwT P j ((P 0 0).toNat * (P 0 1).toNat) 0 (-1, -1) = K
    have eK' : mwT P ((j : Int)).toNat ((P 0 0).toNat * (P 0 1).toNat) 0 (-1, -1) = K := eK
    refine vP_hv (fun hv => qs_mw100 hT hO y K.1 K.2 hv (fun q => no g 8 g1 F3 (fun d => by have := d.2; rw [eK'] at this; omega)) (fun q1 q2 => ⟨g1, F3, ?_⟩) (fun q1 q2 => ⟨g1, F3, ?_⟩))
    · unfold mwV
      rw [eK', if_pos ⟨ok, q1⟩, if_pos q2]
    · unfold mwV
      rw [eK', if_pos ⟨ok, q1⟩, if_neg q2]
  all_goals
    intros
    exact no _ _ hR2 F2 (by rintro ⟨⟨o1, o2, o3, o4⟩, _⟩; omega)
end
section
theorem fRw_worth {D : zD} (_ : ∀ i, -2147483648 ≤ D.2 i ∧ D.2 i ≤ 2147483647) {h h1 h2 : zH} {x y z v1 v2 : Int} (hZ : lZ D h) (hZ1 : lZ D h1) (hR : fR h) (z1 : zRun D TLw 614 194 0 (h, zargs 0 [(2, 0), (0, x), (0, y), (0, z)], []) (h1, some (0, v1))) (f1 : aFr lM_194 h h1) (z2 : zRun D TLw 614 337 0 (h1, zargs 0 [(2, 121), (0, x), (0, y), (0, z)], []) (h2, some (0, v2))) (f2 : aFr lM_337 h1 h2) : fR h2 ∧ True := by
  have k1 : ∀ a k, aIn fpS a k → h1 a k = h a k := fun a k hi => f1.keep (by decide +kernel) hi
  refine ⟨⟨lR_S h h2 (fun a k hi => (f2.keep (by decide +kernel) hi).trans (k1 a k (aIn_l hi))) hR.1, ?_⟩, trivial⟩
  obtain ⟨hM, r, c, s1, s2, s3, P, p1, p2, p3, p4, o⟩ := fX_S k1 hR.2
  obtain ⟨q1, q2, _⟩ := hZ1.run 4 z2 (Q := fun r => rBk 0 P r.1 ∧ rSF h1 r.1 ∧ r.2 = some (0, woV P x y z)) (fun N => rx_worth TLw_T vOK_T p2 p3 x y z)
  exact fX_up hM s1 s2 s3 o pSh.rfl (fun a b hf => q2 a b (by unfold fOut at hf; omega)) (p1.eq (fun a b h1 h2 => q2 a b (by have := s1.c2; omega))) q1 p3 p4
theorem fRw_mostWorth {D : zD} (_ : ∀ i, -2147483648 ≤ D.2 i ∧ D.2 i ≤ 2147483647) {h h1 h2 : zH} {x y v1 v2 : Int} (hZ : lZ D h) (hZ1 : lZ D h1) (hR : fR h) (z1 : zRun D TLw 614 167 0 (h, zargs 0 [(2, 0), (0, x), (0, y)], []) (h1, some (0, v1))) (f1 : aFr lM_167 h h1) (z2 : zRun D TLw 614 278 0 (h1, zargs 0 [(2, 121), (0, x), (0, y)], []) (h2, some (0, v2))) (f2 : aFr lM_278 h1 h2) : fR h2 ∧ True := by
  have k1 : ∀ a k, aIn fpS a k → h1 a k = h a k := fun a k hi => f1.keep (by decide +kernel) hi
  refine ⟨⟨lR_S h h2 (fun a k hi => (f2.keep (by decide +kernel) hi).trans (k1 a k (aIn_l hi))) hR.1, ?_⟩, trivial⟩
  obtain ⟨hM, r, c, s1, s2, s3, P, p1, p2, p3, p4, o⟩ := fX_S k1 hR.2
  obtain ⟨q1, q2, _⟩ := hZ1.run 6 z2 (Q := fun r => rBk 0 P r.1 ∧ rSF h1 r.1 ∧ r.2 = some (0, mwV P x y)) (fun N => rx_mostWorth TLw_T vOK_T p2 p3 x y)
  exact fX_up hM s1 s2 s3 o pSh.rfl (fun a b hf => q2 a b (by unfold fOut at hf; omega)) (p1.eq (fun a b h1 h2 => q2 a b (by have := s1.c2; omega))) q1 p3 p4
end
section
theorem qr_ct0 {D : zD} {T : zT} (hT : hTab T) (hO : vOK T) {N : Nat} {h : zH} {Q : zR → Prop} {m : Nat} (f c : Int) (hv0 : zHv h)
    (k0 : vP D T N 210 0 h [some (2, 121), some (0, (m : Int))] [] (fun r1 => vP D T N 218 5 r1.1 [some (2, 121), some (0, (m : Int)), some (0, f), some (0, c), none, none, none, none] (zpush r1.2 []) Q)) :
    vP D T N 218 0 h [some (2, 121), some (0, (m : Int)), some (0, f), some (0, c), none, none, none, none] [] Q := by
  refine v_load (v := (2, 121)) (hz_X12_cutsOff hT _ _ rfl) rfl rfl ?_
  refine v_load (v := (0, (m : Int))) (hz_X12_cutsOff hT _ _ rfl) rfl rfl ?_
  refine v_call (w := 2) [some (2, 121), some (0, (m : Int))] hO (hz_X12_cutsOff hT _ _ rfl) rfl rfl ?_
  exact k0 
theorem qr_ct5f {D : zD} {T : zT} (hT : hTab T) (hO : vOK T) {N : Nat} {h : zH} {Q : zR → Prop} {m : Nat} (f c : Int) (hv0 : zHv h)
    (k0 : Q (h, some (0, 1))) :
    vP D T N 218 5 h [some (2, 121), some (0, (m : Int)), some (0, f), some (0, c), none, none, none, none] [(0, 1000000)] Q := by
  refine v_push (1000000) (hz_X12_cutsOff hT _ _ rfl) rfl ?_
  refine v_ic (hz_X12_cutsOff hT _ _ rfl) (fun _ => ?_) (fun hc1 => absurd (show (1000000 : Int) = 1000000 from (by decide)) hc1)
  refine v_push (1) (hz_X12_cutsOff hT _ _ rfl) rfl ?_
  refine v_ret (hz_X12_cutsOff hT _ _ rfl) (Or.inl rfl) ?_
  exact k0 
theorem qr_ct5z {D : zD} {T : zT} (hT : hTab T) (hO : vOK T) {N : Nat} {h : zH} {Q : zR → Prop} {m : Nat} (f p : Int) (hv0 : zHv h) (hp : p ≠ 1000000)
    (k0 : Q (h, some (0, 0))) :
    vP D T N 218 5 h [some (2, 121), some (0, (m : Int)), some (0, f), some (0, 0), none, none, none, none] [(0, p)] Q := by
  refine v_push (1000000) (hz_X12_cutsOff hT _ _ rfl) rfl ?_
  refine v_ic (hz_X12_cutsOff hT _ _ rfl) (fun hc1 => absurd (show p = 1000000 from hc1) hp) (fun _ => ?_)
  refine v_load (v := (0, 0)) (hz_X12_cutsOff hT _ _ rfl) rfl rfl ?_
  refine v_if (hz_X12_cutsOff hT _ _ rfl) (fun _ => ?_) (fun hc2 => absurd (show (0 : Int) = 0 from (by decide)) hc2)
  refine v_push (0) (hz_X12_cutsOff hT _ _ rfl) rfl ?_
  refine v_ret (hz_X12_cutsOff hT _ _ rfl) (Or.inl rfl) ?_
  exact k0 
theorem qr_ct5 {D : zD} {T : zT} (hT : hTab T) (hO : vOK T) {N : Nat} {h : zH} {Q : zR → Prop} {P : PT} {m c : Nat} (f p : Int) (hv0 : zHv h) (hp : p ≠ 1000000) (m6 : m < 6) (eb : h 126 (263 + (m : Int)).toNat = (0, P 8 m))
    (k0 : (0 ≤ (263 + (m : Int))) → ((263 + (m : Int)) < 2750) → vP D T N 218 34 h [some (2, 121), some (0, (m : Int)), some (0, f), some (0, ((c + 1 : Nat) : Int)), some (0, (P 8 m)), some (0, f), none, none] [] Q) :
    vP D T N 218 5 h [some (2, 121), some (0, (m : Int)), some (0, f), some (0, ((c + 1 : Nat) : Int)), none, none, none, none] [(0, p)] Q := by
  refine v_push (1000000) (hz_X12_cutsOff hT _ _ rfl) rfl ?_
  refine v_ic (hz_X12_cutsOff hT _ _ rfl) (fun hc1 => absurd (show p = 1000000 from hc1) hp) (fun _ => ?_)
  refine v_load (v := (0, ((c + 1 : Nat) : Int))) (hz_X12_cutsOff hT _ _ rfl) rfl rfl ?_
  refine v_if (hz_X12_cutsOff hT _ _ rfl) (fun hc2 => absurd (show ((c + 1 : Nat) : Int) = 0 from hc2) (by omega)) (fun _ => ?_)
  refine v_load (v := (2, 121)) (hz_X12_cutsOff hT _ _ rfl) rfl rfl ?_
  refine v_getR (c := 126) (r := 121) (hz_X12_cutsOff hT _ _ rfl) rfl rfl rfl ?_
  refine v_push (263) (hz_X12_cutsOff hT _ _ rfl) rfl ?_
  refine v_load (v := (0, (m : Int))) (hz_X12_cutsOff hT _ _ rfl) rfl rfl ?_
  refine v_bin (w := (263 + (m : Int))) (hz_X12_cutsOff hT _ _ rfl) (hq_add (by omega) (by omega)) ?_
  refine v_aldB (t := 0) (r := 126) (w := (P 8 m)) (hz_X12_cutsOff hT _ _ rfl) rfl rfl rfl (fun _ _ => (congrArg Prod.snd eb)) (fun ha3 hb4 => ?_)
  refine v_store1 [some (2, 121), some (0, (m : Int)), some (0, f), some (0, ((c + 1 : Nat) : Int)), some (0, (P 8 m)), none, none, none] (hz_X12_cutsOff hT _ _ rfl) ⟨rfl, Nat.ne_of_beq_eq_false rfl⟩ (Nat.le_of_ble_eq_true rfl) rfl ?_
  refine v_load (v := (0, f)) (hz_X12_cutsOff hT _ _ rfl) rfl rfl ?_
  refine v_store1 [some (2, 121), some (0, (m : Int)), some (0, f), some (0, ((c + 1 : Nat) : Int)), some (0, (P 8 m)), some (0, f), none, none] (hz_X12_cutsOff hT _ _ rfl) ⟨rfl, Nat.ne_of_beq_eq_false rfl⟩ (Nat.le_of_ble_eq_true rfl) rfl ?_
  exact k0 ha3 hb4
theorem qr_ct34 {D : zD} {T : zT} (hT : hTab T) (hO : vOK T) {N : Nat} {h : zH} {Q : zR → Prop} {P : PT} {m c j q : Nat} (f : Int) (o6 o7 : Option zV) (hv0 : zHv h) (hR : rBk 0 P h) (hb : fB P) (m6 : m < 6) (c3 : c < 3) (ea : h 126 (245 + (m : Int)).toNat = (0, ((gJ P (P 6 m).toNat : Nat) : Int))) (eg : h 126 (251 + (m : Int)).toNat = (0, ((gJ P (P 7 m).toNat : Nat) : Int))) (gq : gIn P q) (hq : gJ P q < 48) (hj : j < 3) (hlt : ((gJ P q : Nat) : Int) < ((P 0 0) * (P 0 1)))
    (k0 : (0 ≤ (245 + (m : Int))) → ((245 + (m : Int)) < 2750) → (((gJ P q : Nat) : Int) = ((gJ P (P 6 m).toNat : Nat) : Int)) → vP D T N 218 34 h [some (2, 121), some (0, (m : Int)), some (0, f), some (0, ((c + 1 : Nat) : Int)), some (0, (j : Int)), some (0, (((gJ P q : Nat) : Int) + 1)), o6, o7] [] Q)
    (k1 : (0 ≤ (245 + (m : Int))) → ((245 + (m : Int)) < 2750) → (((gJ P q : Nat) : Int) ≠ ((gJ P (P 6 m).toNat : Nat) : Int)) → (0 ≤ (251 + (m : Int))) → ((251 + (m : Int)) < 2750) → (((gJ P q : Nat) : Int) = ((gJ P (P 7 m).toNat : Nat) : Int)) → vP D T N 218 34 h [some (2, 121), some (0, (m : Int)), some (0, f), some (0, ((c + 1 : Nat) : Int)), some (0, (j : Int)), some (0, (((gJ P q : Nat) : Int) + 1)), o6, o7] [] Q)
    (k2 : (0 ≤ (245 + (m : Int))) → ((245 + (m : Int)) < 2750) → (((gJ P q : Nat) : Int) ≠ ((gJ P (P 6 m).toNat : Nat) : Int)) → (0 ≤ (251 + (m : Int))) → ((251 + (m : Int)) < 2750) → (((gJ P q : Nat) : Int) ≠ ((gJ P (P 7 m).toNat : Nat) : Int)) → ((rCF P ((j : Int)) q) = 1000000) → vP D T N 218 34 h [some (2, 121), some (0, (m : Int)), some (0, f), some (0, ((c + 1 : Nat) : Int)), some (0, (j : Int)), some (0, (((gJ P q : Nat) : Int) + 1)), o6, o7] [] Q)
    (k3 : (0 ≤ (245 + (m : Int))) → ((245 + (m : Int)) < 2750) → (((gJ P q : Nat) : Int) ≠ ((gJ P (P 6 m).toNat : Nat) : Int)) → (0 ≤ (251 + (m : Int))) → ((251 + (m : Int)) < 2750) → (((gJ P q : Nat) : Int) ≠ ((gJ P (P 7 m).toNat : Nat) : Int)) → ((rCF P ((j : Int)) q) ≠ 1000000) → (0 ≤ ((101 + (48 * (j : Int))) + ((gJ P q : Nat) : Int))) → (((101 + (48 * (j : Int))) + ((gJ P q : Nat) : Int)) < 2750) → vP D T N 218 0 (zset h 126 ((((101 + (48 * (j : Int))) + ((gJ P q : Nat) : Int))).toNat) (0, 1)) [some (2, 121), some (0, (m : Int)), some (0, (((gJ P q : Nat) : Int) + 1)), some (0, (((c + 1 : Nat) : Int) - 1)), none, none, none, none] [] (fun r1 => vP D T N 218 125 r1.1 [some (2, 121), some (0, (m : Int)), some (0, f), some (0, ((c + 1 : Nat) : Int)), some (0, (j : Int)), some (0, ((gJ P q : Nat) : Int)), some (0, (P 3 (48 * j + q))), o7] (zpush r1.2 []) Q)) :
    vP D T (N + 1) 218 34 h [some (2, 121), some (0, (m : Int)), some (0, f), some (0, ((c + 1 : Nat) : Int)), some (0, (j : Int)), some (0, ((gJ P q : Nat) : Int)), o6, o7] [] Q := by
  refine v_loadS (v := (0, ((gJ P q : Nat) : Int))) (hz_X12_cutsOff hT _ _ rfl) rfl rfl ?_
  refine v_load (v := (2, 121)) (hz_X12_cutsOff hT _ _ rfl) rfl rfl ?_
  refine v_call (w := 1) [some (2, 121)] hO (hz_X12_cutsOff hT _ _ rfl) rfl rfl (rb_cells hT hO hR.w hR.r hb.1 ?_)
  show vP D T N 218 40 h [some (2, 121), some (0, (m : Int)), some (0, f), some (0, ((c + 1 : Nat) : Int)), some (0, (j : Int)), some (0, ((gJ P q : Nat) : Int)), o6, o7] [(0, ((P 0 0) * (P 0 1))), (0, ((gJ P q : Nat) : Int))] _
  refine v_ic (hz_X12_cutsOff hT _ _ rfl) (fun _ => ?_) (fun hc1 => absurd (show ((gJ P q : Nat) : Int) < ((P 0 0) * (P 0 1)) from hlt) hc1)
  refine v_load (v := (0, ((gJ P q : Nat) : Int))) (hz_X12_cutsOff hT _ _ rfl) rfl rfl ?_
  refine v_load (v := (2, 121)) (hz_X12_cutsOff hT _ _ rfl) rfl rfl ?_
  refine v_getR (c := 126) (r := 121) (hz_X12_cutsOff hT _ _ rfl) rfl rfl rfl ?_
  refine v_push (245) (hz_X12_cutsOff hT _ _ rfl) rfl ?_
  refine v_load (v := (0, (m : Int))) (hz_X12_cutsOff hT _ _ rfl) rfl rfl ?_
  refine v_bin (w := (245 + (m : Int))) (hz_X12_cutsOff hT _ _ rfl) (hq_add (by omega) (by omega)) ?_
  refine v_aldB (t := 0) (r := 126) (w := ((gJ P (P 6 m).toNat : Nat) : Int)) (hz_X12_cutsOff hT _ _ rfl) rfl rfl rfl (fun _ _ => (congrArg Prod.snd ea)) (fun ha2 hb3 => ?_)
  refine v_ic (hz_X12_cutsOff hT _ _ rfl) (fun hc4 => ?_) (fun hc4 => ?_)
  · have hc4 : ((gJ P q : Nat) : Int) = ((gJ P (P 6 m).toNat : Nat) : Int) := hc4
    refine v_iinc (x := ((gJ P q : Nat) : Int)) (u := 1) (w := (((gJ P q : Nat) : Int) + 1)) [some (2, 121), some (0, (m : Int)), some (0, f), some (0, ((c + 1 : Nat) : Int)), some (0, (j : Int)), some (0, (((gJ P q : Nat) : Int) + 1)), o6, o7] (hi_X12_cutsOff_148 hT) rfl rfl (Nat.le_of_ble_eq_true rfl) (vz_inc (by omega) (by omega)) rfl ?_
    refine v_goto (hi_X12_cutsOff_151 hT) ?_
    exact k0 ha2 hb3 hc4
  · have hc4 : ((gJ P q : Nat) : Int) ≠ ((gJ P (P 6 m).toNat : Nat) : Int) := hc4
    refine v_load (v := (0, ((gJ P q : Nat) : Int))) (hz_X12_cutsOff hT _ _ rfl) rfl rfl ?_
    refine v_load (v := (2, 121)) (hz_X12_cutsOff hT _ _ rfl) rfl rfl ?_
    refine v_getR (c := 126) (r := 121) (hz_X12_cutsOff hT _ _ rfl) rfl rfl rfl ?_
    refine v_push (251) (hz_X12_cutsOff hT _ _ rfl) rfl ?_
    refine v_load (v := (0, (m : Int))) (hz_X12_cutsOff hT _ _ rfl) rfl rfl ?_
    refine v_bin (w := (251 + (m : Int))) (hz_X12_cutsOff hT _ _ rfl) (hq_add (by omega) (by omega)) ?_
    refine v_aldB (t := 0) (r := 126) (w := ((gJ P (P 7 m).toNat : Nat) : Int)) (hz_X12_cutsOff hT _ _ rfl) rfl rfl rfl (fun _ _ => (congrArg Prod.snd eg)) (fun ha5 hb6 => ?_)
    refine v_ic (hz_X12_cutsOff hT _ _ rfl) (fun hc7 => ?_) (fun hc7 => ?_)
    · have hc7 : ((gJ P q : Nat) : Int) = ((gJ P (P 7 m).toNat : Nat) : Int) := hc7
      refine v_iinc (x := ((gJ P q : Nat) : Int)) (u := 1) (w := (((gJ P q : Nat) : Int) + 1)) [some (2, 121), some (0, (m : Int)), some (0, f), some (0, ((c + 1 : Nat) : Int)), some (0, (j : Int)), some (0, (((gJ P q : Nat) : Int) + 1)), o6, o7] (hi_X12_cutsOff_148 hT) rfl rfl (Nat.le_of_ble_eq_true rfl) (vz_inc (by omega) (by omega)) rfl ?_
      refine v_goto (hi_X12_cutsOff_151 hT) ?_
      exact k1 ha2 hb3 hc4 ha5 hb6 hc7
    · have hc7 : ((gJ P q : Nat) : Int) ≠ ((gJ P (P 7 m).toNat : Nat) : Int) := hc7
      refine v_load (v := (2, 121)) (hz_X12_cutsOff hT _ _ rfl) rfl rfl ?_
      refine v_load (v := (0, (j : Int))) (hz_X12_cutsOff hT _ _ rfl) rfl rfl ?_
      refine v_load (v := (0, ((gJ P q : Nat) : Int))) (hz_X12_cutsOff hT _ _ rfl) rfl rfl ?_
      refine v_call (w := 4) [some (2, 121), some (0, (j : Int)), some (0, ((gJ P q : Nat) : Int)), none] hO (hz_X12_cutsOff hT _ _ rfl) rfl rfl (rb_co hT hO ((j : Int)) q (by omega) (by omega) gq hR hb ?_)
      show vP D T N 218 81 h [some (2, 121), some (0, (m : Int)), some (0, f), some (0, ((c + 1 : Nat) : Int)), some (0, (j : Int)), some (0, ((gJ P q : Nat) : Int)), o6, o7] [(0, (rCF P ((j : Int)) q))] _
      refine v_push (1000000) (hz_X12_cutsOff hT _ _ rfl) rfl ?_
      refine v_ic (hz_X12_cutsOff hT _ _ rfl) (fun hc8 => ?_) (fun hc8 => ?_)
      · have hc8 : (rCF P ((j : Int)) q) = 1000000 := hc8
        refine v_goto (hz_X12_cutsOff hT _ _ rfl) ?_
        refine v_iinc (x := ((gJ P q : Nat) : Int)) (u := 1) (w := (((gJ P q : Nat) : Int) + 1)) [some (2, 121), some (0, (m : Int)), some (0, f), some (0, ((c + 1 : Nat) : Int)), some (0, (j : Int)), some (0, (((gJ P q : Nat) : Int) + 1)), o6, o7] (hi_X12_cutsOff_148 hT) rfl rfl (Nat.le_of_ble_eq_true rfl) (vz_inc (by omega) (by omega)) rfl ?_
        refine v_goto (hi_X12_cutsOff_151 hT) ?_
        exact k2 ha2 hb3 hc4 ha5 hb6 hc7 hc8
      · have hc8 : (rCF P ((j : Int)) q) ≠ 1000000 := hc8
        refine v_load (v := (2, 121)) (hz_X12_cutsOff hT _ _ rfl) rfl rfl ?_
        refine v_load (v := (0, (j : Int))) (hz_X12_cutsOff hT _ _ rfl) rfl rfl ?_
        refine v_load (v := (0, ((gJ P q : Nat) : Int))) (hz_X12_cutsOff hT _ _ rfl) rfl rfl ?_
        refine v_call (w := 3) [some (2, 121), some (0, (j : Int)), some (0, ((gJ P q : Nat) : Int))] hO (hz_X12_cutsOff hT _ _ rfl) rfl rfl (rb_st hT hO ((j : Int)) j q rfl (by omega) gq hR hb ?_)
        show vP D T N 218 98 h [some (2, 121), some (0, (m : Int)), some (0, f), some (0, ((c + 1 : Nat) : Int)), some (0, (j : Int)), some (0, ((gJ P q : Nat) : Int)), o6, o7] [(0, (P 3 (48 * j + q)))] _
        refine v_store1 [some (2, 121), some (0, (m : Int)), some (0, f), some (0, ((c + 1 : Nat) : Int)), some (0, (j : Int)), some (0, ((gJ P q : Nat) : Int)), some (0, (P 3 (48 * j + q))), o7] (hz_X12_cutsOff hT _ _ rfl) ⟨rfl, Nat.ne_of_beq_eq_false rfl⟩ (Nat.le_of_ble_eq_true rfl) rfl ?_
        refine v_load (v := (2, 121)) (hz_X12_cutsOff hT _ _ rfl) rfl rfl ?_
        refine v_getR (c := 126) (r := 121) (hz_X12_cutsOff hT _ _ rfl) rfl rfl rfl ?_
        refine v_load (v := (0, (j : Int))) (hz_X12_cutsOff hT _ _ rfl) rfl rfl ?_
        refine v_load (v := (0, ((gJ P q : Nat) : Int))) (hz_X12_cutsOff hT _ _ rfl) rfl rfl ?_
        refine v_call (w := 2) [some (0, (j : Int)), some (0, ((gJ P q : Nat) : Int))] hO (hz_X12_cutsOff hT _ _ rfl) rfl rfl ?_
        refine v_push (101) (hi_X12_state_0 hT) rfl ?_
        refine v_push (48) (hi_X12_state_2 hT) rfl ?_
        refine v_load (v := (0, (j : Int))) (hi_X12_state_4 hT) rfl rfl ?_
        refine v_bin (w := (48 * (j : Int))) (hi_X12_state_5 hT) (hq_mul (by omega) (by omega)) ?_
        refine v_bin (w := (101 + (48 * (j : Int)))) (hi_X12_state_6 hT) (hq_add (by omega) (by omega)) ?_
        refine v_load (v := (0, ((gJ P q : Nat) : Int))) (hi_X12_state_7 hT) rfl rfl ?_
        refine v_bin (w := ((101 + (48 * (j : Int))) + ((gJ P q : Nat) : Int))) (hi_X12_state_8 hT) (hq_add (by omega) (by omega)) ?_
        refine v_ret (hi_X12_state_9 hT) (Or.inl rfl) ?_
        show vP D T N 218 111 h [some (2, 121), some (0, (m : Int)), some (0, f), some (0, ((c + 1 : Nat) : Int)), some (0, (j : Int)), some (0, ((gJ P q : Nat) : Int)), some (0, (P 3 (48 * j + q))), o7] [(0, ((101 + (48 * (j : Int))) + ((gJ P q : Nat) : Int))), (2, 126)] _
        refine v_push (1) (hz_X12_cutsOff hT _ _ rfl) rfl ?_
        refine v_ast (r := 126) (hz_X12_cutsOff hT _ _ rfl) rfl rfl (fun ha9 hb10 hf11 => ?_)
        refine v_load (v := (2, 121)) (hz_X12_cutsOff hT _ _ rfl) rfl rfl ?_
        refine v_load (v := (0, (m : Int))) (hz_X12_cutsOff hT _ _ rfl) rfl rfl ?_
        refine v_load (v := (0, ((gJ P q : Nat) : Int))) (hz_X12_cutsOff hT _ _ rfl) rfl rfl ?_
        refine v_push (1) (hz_X12_cutsOff hT _ _ rfl) rfl ?_
        refine v_bin (w := (((gJ P q : Nat) : Int) + 1)) (hz_X12_cutsOff hT _ _ rfl) (hq_add (by omega) (by omega)) ?_
        refine v_load (v := (0, ((c + 1 : Nat) : Int))) (hz_X12_cutsOff hT _ _ rfl) rfl rfl ?_
        refine v_push (1) (hz_X12_cutsOff hT _ _ rfl) rfl ?_
        refine v_bin (w := (((c + 1 : Nat) : Int) - 1)) (hz_X12_cutsOff hT _ _ rfl) (hq_sub (by omega) (by omega)) ?_
        refine v_call (w := 8) [some (2, 121), some (0, (m : Int)), some (0, (((gJ P q : Nat) : Int) + 1)), some (0, (((c + 1 : Nat) : Int) - 1)), none, none, none, none] hO (hz_X12_cutsOff hT _ _ rfl) rfl rfl ?_
        exact k3 ha2 hb3 hc4 ha5 hb6 hc7 hc8 ha9 hb10
theorem qr_ct34x {D : zD} {T : zT} (hT : hTab T) (hO : vOK T) {N : Nat} {h : zH} {Q : zR → Prop} {P : PT} {m c j n : Nat} (f : Int) (o6 o7 : Option zV) (hv0 : zHv h) (p0 : h 126 0 = (0, P 0 0)) (p1 : h 126 1 = (0, P 0 1)) (hb : fB P) (hge : ((P 0 0) * (P 0 1)) ≤ (n : Int))
    (k0 : Q (h, some (0, 0))) :
    vP D T (N + 1) 218 34 h [some (2, 121), some (0, (m : Int)), some (0, f), some (0, ((c + 1 : Nat) : Int)), some (0, (j : Int)), some (0, (n : Int)), o6, o7] [] Q := by
  refine v_loadS (v := (0, (n : Int))) (hz_X12_cutsOff hT _ _ rfl) rfl rfl ?_
  refine v_load (v := (2, 121)) (hz_X12_cutsOff hT _ _ rfl) rfl rfl ?_
  refine v_call (w := 1) [some (2, 121)] hO (hz_X12_cutsOff hT _ _ rfl) rfl rfl (rb_cells hT hO p0 p1 hb.1 ?_)
  show vP D T N 218 40 h [some (2, 121), some (0, (m : Int)), some (0, f), some (0, ((c + 1 : Nat) : Int)), some (0, (j : Int)), some (0, (n : Int)), o6, o7] [(0, ((P 0 0) * (P 0 1))), (0, (n : Int))] _
  refine v_ic (hz_X12_cutsOff hT _ _ rfl) (fun hc1 => absurd (show (n : Int) < ((P 0 0) * (P 0 1)) from hc1) (by omega)) (fun _ => ?_)
  refine v_push (0) (hz_X12_cutsOff hT _ _ rfl) rfl ?_
  refine v_ret (hz_X12_cutsOff hT _ _ rfl) (Or.inl rfl) ?_
  exact k0 
theorem qr_ct125_0 {D : zD} {T : zT} (hT : hTab T) (hO : vOK T) {N : Nat} {h : zH} {Q : zR → Prop} {P : PT} {m c j q : Nat} (f w : Int) (o7 : Option zV) (hv0 : zHv h) (hq : gJ P q < 48) (hj : j < 3)
    (k0 : (0 ≤ ((101 + (48 * (j : Int))) + ((gJ P q : Nat) : Int))) → (((101 + (48 * (j : Int))) + ((gJ P q : Nat) : Int)) < 2750) → vP D T N 218 34 (zset h 126 ((((101 + (48 * (j : Int))) + ((gJ P q : Nat) : Int))).toNat) (0, w)) [some (2, 121), some (0, (m : Int)), some (0, f), some (0, ((c + 1 : Nat) : Int)), some (0, (j : Int)), some (0, (((gJ P q : Nat) : Int) + 1)), some (0, w), some (0, 0)] [] Q) :
    vP D T N 218 125 h [some (2, 121), some (0, (m : Int)), some (0, f), some (0, ((c + 1 : Nat) : Int)), some (0, (j : Int)), some (0, ((gJ P q : Nat) : Int)), some (0, w), o7] [(0, 0)] Q := by
  refine v_store1 [some (2, 121), some (0, (m : Int)), some (0, f), some (0, ((c + 1 : Nat) : Int)), some (0, (j : Int)), some (0, ((gJ P q : Nat) : Int)), some (0, w), some (0, 0)] (hz_X12_cutsOff hT _ _ rfl) ⟨rfl, Nat.ne_of_beq_eq_false rfl⟩ (Nat.le_of_ble_eq_true rfl) rfl ?_
  refine v_load (v := (2, 121)) (hz_X12_cutsOff hT _ _ rfl) rfl rfl ?_
  refine v_getR (c := 126) (r := 121) (hz_X12_cutsOff hT _ _ rfl) rfl rfl rfl ?_
  refine v_load (v := (0, (j : Int))) (hz_X12_cutsOff hT _ _ rfl) rfl rfl ?_
  refine v_load (v := (0, ((gJ P q : Nat) : Int))) (hz_X12_cutsOff hT _ _ rfl) rfl rfl ?_
  refine v_call (w := 2) [some (0, (j : Int)), some (0, ((gJ P q : Nat) : Int))] hO (hz_X12_cutsOff hT _ _ rfl) rfl rfl ?_
  refine v_push (101) (hi_X12_state_0 hT) rfl ?_
  refine v_push (48) (hi_X12_state_2 hT) rfl ?_
  refine v_load (v := (0, (j : Int))) (hi_X12_state_4 hT) rfl rfl ?_
  refine v_bin (w := (48 * (j : Int))) (hi_X12_state_5 hT) (hq_mul (by omega) (by omega)) ?_
  refine v_bin (w := (101 + (48 * (j : Int)))) (hi_X12_state_6 hT) (hq_add (by omega) (by omega)) ?_
  refine v_load (v := (0, ((gJ P q : Nat) : Int))) (hi_X12_state_7 hT) rfl rfl ?_
  refine v_bin (w := ((101 + (48 * (j : Int))) + ((gJ P q : Nat) : Int))) (hi_X12_state_8 hT) (hq_add (by omega) (by omega)) ?_
  refine v_ret (hi_X12_state_9 hT) (Or.inl rfl) ?_
  show vP D T N 218 138 h [some (2, 121), some (0, (m : Int)), some (0, f), some (0, ((c + 1 : Nat) : Int)), some (0, (j : Int)), some (0, ((gJ P q : Nat) : Int)), some (0, w), some (0, 0)] [(0, ((101 + (48 * (j : Int))) + ((gJ P q : Nat) : Int))), (2, 126)] _
  refine v_load (v := (0, w)) (hz_X12_cutsOff hT _ _ rfl) rfl rfl ?_
  refine v_ast (r := 126) (hz_X12_cutsOff hT _ _ rfl) rfl rfl (fun ha1 hb2 hf3 => ?_)
  refine v_load (v := (0, 0)) (hz_X12_cutsOff hT _ _ rfl) rfl rfl ?_
  refine v_if (hz_X12_cutsOff hT _ _ rfl) (fun _ => ?_) (fun hc4 => absurd (show (0 : Int) = 0 from (by decide)) hc4)
  refine v_iinc (x := ((gJ P q : Nat) : Int)) (u := 1) (w := (((gJ P q : Nat) : Int) + 1)) [some (2, 121), some (0, (m : Int)), some (0, f), some (0, ((c + 1 : Nat) : Int)), some (0, (j : Int)), some (0, (((gJ P q : Nat) : Int) + 1)), some (0, w), some (0, 0)] (hi_X12_cutsOff_148 hT) rfl rfl (Nat.le_of_ble_eq_true rfl) (vz_inc (by omega) (by omega)) rfl ?_
  refine v_goto (hi_X12_cutsOff_151 hT) ?_
  exact k0 ha1 hb2
theorem qr_ct125_1 {D : zD} {T : zT} (hT : hTab T) (hO : vOK T) {N : Nat} {h : zH} {Q : zR → Prop} {P : PT} {m c j q : Nat} (f w : Int) (o7 : Option zV) (hv0 : zHv h) (hq : gJ P q < 48) (hj : j < 3)
    (k0 : (0 ≤ ((101 + (48 * (j : Int))) + ((gJ P q : Nat) : Int))) → (((101 + (48 * (j : Int))) + ((gJ P q : Nat) : Int)) < 2750) → Q (zset h 126 ((((101 + (48 * (j : Int))) + ((gJ P q : Nat) : Int))).toNat) (0, w), some (0, 1))) :
    vP D T N 218 125 h [some (2, 121), some (0, (m : Int)), some (0, f), some (0, ((c + 1 : Nat) : Int)), some (0, (j : Int)), some (0, ((gJ P q : Nat) : Int)), some (0, w), o7] [(0, 1)] Q := by
  refine v_store1 [some (2, 121), some (0, (m : Int)), some (0, f), some (0, ((c + 1 : Nat) : Int)), some (0, (j : Int)), some (0, ((gJ P q : Nat) : Int)), some (0, w), some (0, 1)] (hz_X12_cutsOff hT _ _ rfl) ⟨rfl, Nat.ne_of_beq_eq_false rfl⟩ (Nat.le_of_ble_eq_true rfl) rfl ?_
  refine v_load (v := (2, 121)) (hz_X12_cutsOff hT _ _ rfl) rfl rfl ?_
  refine v_getR (c := 126) (r := 121) (hz_X12_cutsOff hT _ _ rfl) rfl rfl rfl ?_
  refine v_load (v := (0, (j : Int))) (hz_X12_cutsOff hT _ _ rfl) rfl rfl ?_
  refine v_load (v := (0, ((gJ P q : Nat) : Int))) (hz_X12_cutsOff hT _ _ rfl) rfl rfl ?_
  refine v_call (w := 2) [some (0, (j : Int)), some (0, ((gJ P q : Nat) : Int))] hO (hz_X12_cutsOff hT _ _ rfl) rfl rfl ?_
  refine v_push (101) (hi_X12_state_0 hT) rfl ?_
  refine v_push (48) (hi_X12_state_2 hT) rfl ?_
  refine v_load (v := (0, (j : Int))) (hi_X12_state_4 hT) rfl rfl ?_
  refine v_bin (w := (48 * (j : Int))) (hi_X12_state_5 hT) (hq_mul (by omega) (by omega)) ?_
  refine v_bin (w := (101 + (48 * (j : Int)))) (hi_X12_state_6 hT) (hq_add (by omega) (by omega)) ?_
  refine v_load (v := (0, ((gJ P q : Nat) : Int))) (hi_X12_state_7 hT) rfl rfl ?_
  refine v_bin (w := ((101 + (48 * (j : Int))) + ((gJ P q : Nat) : Int))) (hi_X12_state_8 hT) (hq_add (by omega) (by omega)) ?_
  refine v_ret (hi_X12_state_9 hT) (Or.inl rfl) ?_
  show vP D T N 218 138 h [some (2, 121), some (0, (m : Int)), some (0, f), some (0, ((c + 1 : Nat) : Int)), some (0, (j : Int)), some (0, ((gJ P q : Nat) : Int)), some (0, w), some (0, 1)] [(0, ((101 + (48 * (j : Int))) + ((gJ P q : Nat) : Int))), (2, 126)] _
  refine v_load (v := (0, w)) (hz_X12_cutsOff hT _ _ rfl) rfl rfl ?_
  refine v_ast (r := 126) (hz_X12_cutsOff hT _ _ rfl) rfl rfl (fun ha1 hb2 hf3 => ?_)
  refine v_load (v := (0, 1)) (hz_X12_cutsOff hT _ _ rfl) rfl rfl ?_
  refine v_if (hz_X12_cutsOff hT _ _ rfl) (fun hc4 => absurd (show (1 : Int) = 0 from hc4) (by decide)) (fun _ => ?_)
  refine v_push (1) (hz_X12_cutsOff hT _ _ rfl) rfl ?_
  refine v_ret (hz_X12_cutsOff hT _ _ rfl) (Or.inl rfl) ?_
  exact k0 ha1 hb2
theorem qr_ib0 {D : zD} {T : zT} (hT : hTab T) (hO : vOK T) {N : Nat} {h : zH} {Q : zR → Prop} {P : PT} {a b : Nat} (hv0 : zHv h)
    (k0 : vP D T N 242 2 h [some (2, 121), some (0, ((gJ P a : Nat) : Int)), some (0, ((gJ P b : Nat) : Int)), some (0, 0)] [] Q) :
    vP D T N 242 0 h [some (2, 121), some (0, ((gJ P a : Nat) : Int)), some (0, ((gJ P b : Nat) : Int)), none] [] Q := by
  refine v_push (0) (hz_X12_isBeside hT _ _ rfl) rfl ?_
  refine v_store1 [some (2, 121), some (0, ((gJ P a : Nat) : Int)), some (0, ((gJ P b : Nat) : Int)), some (0, 0)] (hz_X12_isBeside hT _ _ rfl) ⟨rfl, Nat.ne_of_beq_eq_false rfl⟩ (Nat.le_of_ble_eq_true rfl) rfl ?_
  exact k0 
theorem qr_ib2 {D : zD} {T : zT} (hT : hTab T) (hO : vOK T) {N : Nat} {h : zH} {Q : zR → Prop} {P : PT} {a b d : Nat} (hv0 : zHv h) (p0 : h 126 0 = (0, P 0 0)) (p1 : h 126 1 = (0, P 0 1)) (hb : fB P) (ga : gIn P a) (hd : (d : Int) < 4)
    (k0 : (gNb P a d = -1) → (-1 = ((gJ P b : Nat) : Int)) → Q (h, some (0, 1)))
    (k1 : (gNb P a d = -1) → (-1 ≠ ((gJ P b : Nat) : Int)) → vP D T N 242 2 h [some (2, 121), some (0, ((gJ P a : Nat) : Int)), some (0, ((gJ P b : Nat) : Int)), some (0, ((d : Int) + 1))] [] Q)
    (k2 : ∀ (q2 : Nat), (gNb P a d = (q2 : Int)) → (gIn P q2) → (((gJ P q2 : Nat) : Int) = ((gJ P b : Nat) : Int)) → Q (h, some (0, 1)))
    (k3 : ∀ (q2 : Nat), (gNb P a d = (q2 : Int)) → (gIn P q2) → (((gJ P q2 : Nat) : Int) ≠ ((gJ P b : Nat) : Int)) → vP D T N 242 2 h [some (2, 121), some (0, ((gJ P a : Nat) : Int)), some (0, ((gJ P b : Nat) : Int)), some (0, ((d : Int) + 1))] [] Q) :
    vP D T (N + 1) 242 2 h [some (2, 121), some (0, ((gJ P a : Nat) : Int)), some (0, ((gJ P b : Nat) : Int)), some (0, (d : Int))] [] Q := by
  refine v_loadS (v := (0, (d : Int))) (hz_X12_isBeside hT _ _ rfl) rfl rfl ?_
  refine v_push (4) (hz_X12_isBeside hT _ _ rfl) rfl ?_
  refine v_ic (hz_X12_isBeside hT _ _ rfl) (fun _ => ?_) (fun hc1 => absurd (show (d : Int) < 4 from hd) hc1)
  refine v_load (v := (2, 121)) (hz_X12_isBeside hT _ _ rfl) rfl rfl ?_
  refine v_load (v := (0, ((gJ P a : Nat) : Int))) (hz_X12_isBeside hT _ _ rfl) rfl rfl ?_
  refine v_load (v := (0, (d : Int))) (hz_X12_isBeside hT _ _ rfl) rfl rfl ?_
  refine v_call (w := 5) [some (2, 121), some (0, ((gJ P a : Nat) : Int)), some (0, (d : Int)), none, none] hO (hz_X12_isBeside hT _ _ rfl) rfl rfl (rb_bes hT hO ((d : Int)) a d rfl ga (by omega) p0 p1 hb.1 (fun en2 => ?_) (fun q2 en2 hg2 => ?_))
  · show vP D T N 242 13 h [some (2, 121), some (0, ((gJ P a : Nat) : Int)), some (0, ((gJ P b : Nat) : Int)), some (0, (d : Int))] [(0, -1)] _
    refine v_load (v := (0, ((gJ P b : Nat) : Int))) (hz_X12_isBeside hT _ _ rfl) rfl rfl ?_
    refine v_ic (hz_X12_isBeside hT _ _ rfl) (fun hc3 => ?_) (fun hc3 => ?_)
    · have hc3 : -1 = ((gJ P b : Nat) : Int) := hc3
      refine v_push (1) (hz_X12_isBeside hT _ _ rfl) rfl ?_
      refine v_ret (hz_X12_isBeside hT _ _ rfl) (Or.inl rfl) ?_
      exact k0 en2 hc3
    · have hc3 : -1 ≠ ((gJ P b : Nat) : Int) := hc3
      refine v_iinc (x := (d : Int)) (u := 1) (w := ((d : Int) + 1)) [some (2, 121), some (0, ((gJ P a : Nat) : Int)), some (0, ((gJ P b : Nat) : Int)), some (0, ((d : Int) + 1))] (hz_X12_isBeside hT _ _ rfl) rfl rfl (Nat.le_of_ble_eq_true rfl) (vz_inc (by omega) (by omega)) rfl ?_
      refine v_goto (hz_X12_isBeside hT _ _ rfl) ?_
      exact k1 en2 hc3
  · show vP D T N 242 13 h [some (2, 121), some (0, ((gJ P a : Nat) : Int)), some (0, ((gJ P b : Nat) : Int)), some (0, (d : Int))] [(0, ((gJ P q2 : Nat) : Int))] _
    refine v_load (v := (0, ((gJ P b : Nat) : Int))) (hz_X12_isBeside hT _ _ rfl) rfl rfl ?_
    refine v_ic (hz_X12_isBeside hT _ _ rfl) (fun hc4 => ?_) (fun hc4 => ?_)
    · have hc4 : ((gJ P q2 : Nat) : Int) = ((gJ P b : Nat) : Int) := hc4
      refine v_push (1) (hz_X12_isBeside hT _ _ rfl) rfl ?_
      refine v_ret (hz_X12_isBeside hT _ _ rfl) (Or.inl rfl) ?_
      exact k2 q2 en2 hg2 hc4
    · have hc4 : ((gJ P q2 : Nat) : Int) ≠ ((gJ P b : Nat) : Int) := hc4
      refine v_iinc (x := (d : Int)) (u := 1) (w := ((d : Int) + 1)) [some (2, 121), some (0, ((gJ P a : Nat) : Int)), some (0, ((gJ P b : Nat) : Int)), some (0, ((d : Int) + 1))] (hz_X12_isBeside hT _ _ rfl) rfl rfl (Nat.le_of_ble_eq_true rfl) (vz_inc (by omega) (by omega)) rfl ?_
      refine v_goto (hz_X12_isBeside hT _ _ rfl) ?_
      exact k3 q2 en2 hg2 hc4
theorem qr_ib4 {D : zD} {T : zT} (hT : hTab T) (hO : vOK T) {N : Nat} {h : zH} {Q : zR → Prop} {P : PT} {a b : Nat} (hv0 : zHv h)
    (k0 : (((gJ P a : Nat) : Int) = ((gJ P b : Nat) : Int)) → Q (h, some (0, 1)))
    (k1 : (((gJ P a : Nat) : Int) ≠ ((gJ P b : Nat) : Int)) → Q (h, some (0, 0))) :
    vP D T (N + 1) 242 2 h [some (2, 121), some (0, ((gJ P a : Nat) : Int)), some (0, ((gJ P b : Nat) : Int)), some (0, 4)] [] Q := by
  refine v_loadS (v := (0, 4)) (hz_X12_isBeside hT _ _ rfl) rfl rfl ?_
  refine v_push (4) (hz_X12_isBeside hT _ _ rfl) rfl ?_
  refine v_ic (hz_X12_isBeside hT _ _ rfl) (fun hc1 => absurd (show (4 : Int) < 4 from hc1) (by decide)) (fun _ => ?_)
  refine v_load (v := (0, ((gJ P a : Nat) : Int))) (hz_X12_isBeside hT _ _ rfl) rfl rfl ?_
  refine v_load (v := (0, ((gJ P b : Nat) : Int))) (hz_X12_isBeside hT _ _ rfl) rfl rfl ?_
  refine v_ic (hz_X12_isBeside hT _ _ rfl) (fun hc2 => ?_) (fun hc2 => ?_)
  · have hc2 : ((gJ P a : Nat) : Int) = ((gJ P b : Nat) : Int) := hc2
    refine v_push (1) (hz_X12_isBeside hT _ _ rfl) rfl ?_
    refine v_goto (hz_X12_isBeside hT _ _ rfl) ?_
    refine v_ret (hz_X12_isBeside hT _ _ rfl) (Or.inl rfl) ?_
    exact k0 hc2
  · have hc2 : ((gJ P a : Nat) : Int) ≠ ((gJ P b : Nat) : Int) := hc2
    refine v_push (0) (hz_X12_isBeside hT _ _ rfl) rfl ?_
    refine v_ret (hz_X12_isBeside hT _ _ rfl) (Or.inl rfl) ?_
    exact k1 hc2
theorem qs_cut0 {D : zD} {T : zT} (hT : hTab T) (hO : vOK T) {N : Nat} {h : zH} {Q : zR → Prop} {P : PT} (x : Int) (hv0 : zHv h) (p0 : h 126 0 = (0, P 0 0)) (p1 : h 126 1 = (0, P 0 1)) (p2 : h 126 2 = (0, P 0 2)) (p3 : h 126 3 = (0, P 0 3)) (lb : (0 ≤ P 0 0 ∧ P 0 0 ≤ 8) ∧ (0 ≤ P 0 1 ∧ P 0 1 ≤ 6) ∧ (0 ≤ P 0 2 ∧ P 0 2 ≤ 3) ∧ (0 ≤ P 0 3 ∧ P 0 3 ≤ 6))
    (k0 : (x < 0) → Q (zset (zset (zset h 121 1 (0, 0)) 121 0 (0, 0)) 121 0 (0, 2), some (0, -1)))
    (k1 : (0 ≤ x) → (((P 0 3) - 1) < x) → Q (zset (zset (zset h 121 1 (0, 0)) 121 0 (0, 0)) 121 0 (0, 2), some (0, -1)))
    (k2 : (0 ≤ x) → (x ≤ ((P 0 3) - 1)) → vP D T N 210 0 (zset (zset h 121 1 (0, 0)) 121 0 (0, 0)) [some (2, 121), some (0, x)] [] (fun r1 => vP D T N 217 29 r1.1 [some (2, 121), some (0, x), none] (zpush r1.2 []) Q)) :
    vP D T N 217 0 h [some (2, 121), some (0, x), none] [] Q := by
  refine v_load (v := (2, 121)) (hz_X12_cut_ hT _ _ rfl) rfl rfl ?_
  refine v_push (0) (hz_X12_cut_ hT _ _ rfl) rfl ?_
  refine v_putf (r := 121) hO (hz_X12_cut_ hT _ _ rfl) rfl (fun hf1 => ?_)
  refine v_load (v := (2, 121)) (hz_X12_cut_ hT _ _ rfl) rfl rfl ?_
  refine v_push (0) (hz_X12_cut_ hT _ _ rfl) rfl ?_
  refine v_putf (r := 121) hO (hz_X12_cut_ hT _ _ rfl) rfl (fun hf2 => ?_)
  refine v_load (v := (2, 121)) (hz_X12_cut_ hT _ _ rfl) rfl rfl ?_
  refine v_load (v := (0, x)) (hz_X12_cut_ hT _ _ rfl) rfl rfl ?_
  refine v_call (w := 2) [some (2, 121), some (0, x)] hO (hz_X12_cut_ hT _ _ rfl) rfl rfl ?_
  refine v_load (v := (0, x)) (hi_X12_isCompanyAt_0 hT) rfl rfl ?_
  refine v_i2l (hi_X12_isCompanyAt_1 hT) ?_
  refine v_push (0) (hi_X12_isCompanyAt_2 hT) rfl ?_
  refine v_load (v := (2, 121)) (hi_X12_isCompanyAt_3 hT) rfl rfl ?_
  refine v_getR (c := 126) (r := 121) (hi_X12_isCompanyAt_4 hT) rfl rfl rfl ?_
  refine v_push (3) (hi_X12_isCompanyAt_7 hT) rfl ?_
  refine v_aldV (v := (0, (P 0 3))) (r := 126) (hi_X12_isCompanyAt_8 hT) rfl rfl (fun _ _ _ => (Eq.trans (Eq.trans (zset_ne (fun c => absurd c.1 (by decide))) (zset_ne (fun c => absurd c.1 (by decide)))) (p3))) (fun ha3 hb4 => ?_)
  refine v_push (1) (hi_X12_isCompanyAt_9 hT) rfl ?_
  refine v_bin (w := ((P 0 3) - 1)) (hi_X12_isCompanyAt_10 hT) (hq_sub (by omega) (by omega)) ?_
  refine v_i2l (hi_X12_isCompanyAt_11 hT) ?_
  refine v_call (w := 6) [some (1, x), none, some (1, 0), none, some (1, ((P 0 3) - 1)), none] hO (hi_X12_isCompanyAt_12 hT) rfl rfl ?_
  refine v_load (v := (1, x)) (hi_X12_isIn_0 hT) rfl rfl ?_
  refine v_load (v := (1, 0)) (hi_X12_isIn_1 hT) rfl rfl ?_
  refine v_lif (hi_X12_isIn_2 hT) (hi_X12_isIn_3 hT) (fun hc5 => ?_) (fun hc5 => ?_)
  · have hc5 : x < 0 := hc5
    refine v_push (0) (hi_X12_isIn_17 hT) rfl ?_
    refine v_ret (hi_X12_isIn_18 hT) (Or.inl rfl) ?_
    show vP D T N 246 15 (zset (zset h 121 1 (0, 0)) 121 0 (0, 0)) [some (2, 121), some (0, x)] [(0, 0)] _
    refine v_ret (hi_X12_isCompanyAt_15 hT) (Or.inl rfl) ?_
    show vP D T N 217 15 (zset (zset h 121 1 (0, 0)) 121 0 (0, 0)) [some (2, 121), some (0, x), none] [(0, 0)] _
    refine v_if (hz_X12_cut_ hT _ _ rfl) (fun _ => ?_) (fun hc6 => absurd (show (0 : Int) = 0 from (by decide)) hc6)
    refine v_load (v := (2, 121)) (hz_X12_cut_ hT _ _ rfl) rfl rfl ?_
    refine v_push (2) (hz_X12_cut_ hT _ _ rfl) rfl ?_
    refine v_call (w := 2) [some (2, 121), some (0, 2)] hO (hz_X12_cut_ hT _ _ rfl) rfl rfl ?_
    refine v_load (v := (2, 121)) (hi_X12_refuse_0 hT) rfl rfl ?_
    refine v_load (v := (0, 2)) (hi_X12_refuse_1 hT) rfl rfl ?_
    refine v_putf (r := 121) hO (hi_X12_refuse_2 hT) rfl (fun hf7 => ?_)
    refine v_push (-1) (hi_X12_refuse_5 hT) rfl ?_
    refine v_ret (hi_X12_refuse_6 hT) (Or.inl rfl) ?_
    show vP D T N 217 23 (zset (zset (zset h 121 1 (0, 0)) 121 0 (0, 0)) 121 0 (0, 2)) [some (2, 121), some (0, x), none] [(0, -1)] _
    refine v_ret (hz_X12_cut_ hT _ _ rfl) (Or.inl rfl) ?_
    exact k0 hc5
  · have hc5 : 0 ≤ x := Int.not_lt.mp hc5
    refine v_load (v := (1, x)) (hi_X12_isIn_6 hT) rfl rfl ?_
    refine v_load (v := (1, ((P 0 3) - 1))) (hi_X12_isIn_7 hT) rfl rfl ?_
    refine v_lif (hi_X12_isIn_9 hT) (hi_X12_isIn_10 hT) (fun hc8 => ?_) (fun hc8 => ?_)
    · have hc8 : ((P 0 3) - 1) < x := hc8
      refine v_push (0) (hi_X12_isIn_17 hT) rfl ?_
      refine v_ret (hi_X12_isIn_18 hT) (Or.inl rfl) ?_
      show vP D T N 246 15 (zset (zset h 121 1 (0, 0)) 121 0 (0, 0)) [some (2, 121), some (0, x)] [(0, 0)] _
      refine v_ret (hi_X12_isCompanyAt_15 hT) (Or.inl rfl) ?_
      show vP D T N 217 15 (zset (zset h 121 1 (0, 0)) 121 0 (0, 0)) [some (2, 121), some (0, x), none] [(0, 0)] _
      refine v_if (hz_X12_cut_ hT _ _ rfl) (fun _ => ?_) (fun hc9 => absurd (show (0 : Int) = 0 from (by decide)) hc9)
      refine v_load (v := (2, 121)) (hz_X12_cut_ hT _ _ rfl) rfl rfl ?_
      refine v_push (2) (hz_X12_cut_ hT _ _ rfl) rfl ?_
      refine v_call (w := 2) [some (2, 121), some (0, 2)] hO (hz_X12_cut_ hT _ _ rfl) rfl rfl ?_
      refine v_load (v := (2, 121)) (hi_X12_refuse_0 hT) rfl rfl ?_
      refine v_load (v := (0, 2)) (hi_X12_refuse_1 hT) rfl rfl ?_
      refine v_putf (r := 121) hO (hi_X12_refuse_2 hT) rfl (fun hf10 => ?_)
      refine v_push (-1) (hi_X12_refuse_5 hT) rfl ?_
      refine v_ret (hi_X12_refuse_6 hT) (Or.inl rfl) ?_
      show vP D T N 217 23 (zset (zset (zset h 121 1 (0, 0)) 121 0 (0, 0)) 121 0 (0, 2)) [some (2, 121), some (0, x), none] [(0, -1)] _
      refine v_ret (hz_X12_cut_ hT _ _ rfl) (Or.inl rfl) ?_
      exact k1 hc5 hc8
    · have hc8 : x ≤ ((P 0 3) - 1) := Int.not_lt.mp hc8
      refine v_push (1) (hi_X12_isIn_13 hT) rfl ?_
      refine v_goto (hi_X12_isIn_14 hT) ?_
      refine v_ret (hi_X12_isIn_18 hT) (Or.inl rfl) ?_
      show vP D T N 246 15 (zset (zset h 121 1 (0, 0)) 121 0 (0, 0)) [some (2, 121), some (0, x)] [(0, 1)] _
      refine v_ret (hi_X12_isCompanyAt_15 hT) (Or.inl rfl) ?_
      show vP D T N 217 15 (zset (zset h 121 1 (0, 0)) 121 0 (0, 0)) [some (2, 121), some (0, x), none] [(0, 1)] _
      refine v_if (hz_X12_cut_ hT _ _ rfl) (fun hc11 => absurd (show (1 : Int) = 0 from hc11) (by decide)) (fun _ => ?_)
      refine v_load (v := (2, 121)) (hz_X12_cut_ hT _ _ rfl) rfl rfl ?_
      refine v_load (v := (0, x)) (hz_X12_cut_ hT _ _ rfl) rfl rfl ?_
      refine v_call (w := 2) [some (2, 121), some (0, x)] hO (hz_X12_cut_ hT _ _ rfl) rfl rfl ?_
      exact k2 hc5 hc8
theorem qs_cut29f {D : zD} {T : zT} (hT : hTab T) (hO : vOK T) {N : Nat} {h : zH} {Q : zR → Prop} {P : PT} {m : Nat} (hv0 : zHv h)
    (k0 : Q (zset h 121 0 (0, 9), some (0, -1))) :
    vP D T N 217 29 h [some (2, 121), some (0, (m : Int)), none] [(0, 1000000)] Q := by
  refine v_push (1000000) (hz_X12_cut_ hT _ _ rfl) rfl ?_
  refine v_ic (hz_X12_cut_ hT _ _ rfl) (fun _ => ?_) (fun hc1 => absurd (show (1000000 : Int) = 1000000 from (by decide)) hc1)
  refine v_load (v := (2, 121)) (hz_X12_cut_ hT _ _ rfl) rfl rfl ?_
  refine v_push (9) (hz_X12_cut_ hT _ _ rfl) rfl ?_
  refine v_call (w := 2) [some (2, 121), some (0, 9)] hO (hz_X12_cut_ hT _ _ rfl) rfl rfl ?_
  refine v_load (v := (2, 121)) (hi_X12_refuse_0 hT) rfl rfl ?_
  refine v_load (v := (0, 9)) (hi_X12_refuse_1 hT) rfl rfl ?_
  refine v_putf (r := 121) hO (hi_X12_refuse_2 hT) rfl (fun hf2 => ?_)
  refine v_push (-1) (hi_X12_refuse_5 hT) rfl ?_
  refine v_ret (hi_X12_refuse_6 hT) (Or.inl rfl) ?_
  show vP D T N 217 68 (zset h 121 0 (0, 9)) [some (2, 121), some (0, (m : Int)), none] [(0, -1)] _
  refine v_ret (hz_X12_cut_ hT _ _ rfl) (Or.inl rfl) ?_
  exact k0 
theorem qs_cut29 {D : zD} {T : zT} (hT : hTab T) (hO : vOK T) {N : Nat} {h : zH} {Q : zR → Prop} {P : PT} {m : Nat} (p : Int) (hv0 : zHv h) (hp : p ≠ 1000000) (m6 : m < 6) (ea : h 126 (245 + (m : Int)).toNat = (0, ((gJ P (P 6 m).toNat : Nat) : Int))) (eg : h 126 (251 + (m : Int)).toNat = (0, ((gJ P (P 7 m).toNat : Nat) : Int)))
    (k0 : (0 ≤ (245 + (m : Int))) → ((245 + (m : Int)) < 2750) → (0 ≤ (251 + (m : Int))) → ((251 + (m : Int)) < 2750) → vP D T N 242 0 h [some (2, 121), some (0, ((gJ P (P 6 m).toNat : Nat) : Int)), some (0, ((gJ P (P 7 m).toNat : Nat) : Int)), none] [] (fun r1 => vP D T N 217 59 r1.1 [some (2, 121), some (0, (m : Int)), none] (zpush r1.2 []) Q)) :
    vP D T N 217 29 h [some (2, 121), some (0, (m : Int)), none] [(0, p)] Q := by
  refine v_push (1000000) (hz_X12_cut_ hT _ _ rfl) rfl ?_
  refine v_ic (hz_X12_cut_ hT _ _ rfl) (fun hc1 => absurd (show p = 1000000 from hc1) hp) (fun _ => ?_)
  refine v_load (v := (2, 121)) (hz_X12_cut_ hT _ _ rfl) rfl rfl ?_
  refine v_load (v := (2, 121)) (hz_X12_cut_ hT _ _ rfl) rfl rfl ?_
  refine v_getR (c := 126) (r := 121) (hz_X12_cut_ hT _ _ rfl) rfl rfl rfl ?_
  refine v_push (245) (hz_X12_cut_ hT _ _ rfl) rfl ?_
  refine v_load (v := (0, (m : Int))) (hz_X12_cut_ hT _ _ rfl) rfl rfl ?_
  refine v_bin (w := (245 + (m : Int))) (hz_X12_cut_ hT _ _ rfl) (hq_add (by omega) (by omega)) ?_
  refine v_aldB (t := 0) (r := 126) (w := ((gJ P (P 6 m).toNat : Nat) : Int)) (hz_X12_cut_ hT _ _ rfl) rfl rfl rfl (fun _ _ => (congrArg Prod.snd ea)) (fun ha2 hb3 => ?_)
  refine v_load (v := (2, 121)) (hz_X12_cut_ hT _ _ rfl) rfl rfl ?_
  refine v_getR (c := 126) (r := 121) (hz_X12_cut_ hT _ _ rfl) rfl rfl rfl ?_
  refine v_push (251) (hz_X12_cut_ hT _ _ rfl) rfl ?_
  refine v_load (v := (0, (m : Int))) (hz_X12_cut_ hT _ _ rfl) rfl rfl ?_
  refine v_bin (w := (251 + (m : Int))) (hz_X12_cut_ hT _ _ rfl) (hq_add (by omega) (by omega)) ?_
  refine v_aldB (t := 0) (r := 126) (w := ((gJ P (P 7 m).toNat : Nat) : Int)) (hz_X12_cut_ hT _ _ rfl) rfl rfl rfl (fun _ _ => (congrArg Prod.snd eg)) (fun ha4 hb5 => ?_)
  refine v_call (w := 4) [some (2, 121), some (0, ((gJ P (P 6 m).toNat : Nat) : Int)), some (0, ((gJ P (P 7 m).toNat : Nat) : Int)), none] hO (hz_X12_cut_ hT _ _ rfl) rfl rfl ?_
  exact k0 ha2 hb3 ha4 hb5
theorem qs_cut59_1 {D : zD} {T : zT} (hT : hTab T) (hO : vOK T) {N : Nat} {h : zH} {Q : zR → Prop} {P : PT} {m : Nat} (hv0 : zHv h)
    (k0 : Q (zset h 121 0 (0, 9), some (0, -1))) :
    vP D T N 217 59 h [some (2, 121), some (0, (m : Int)), none] [(0, 1)] Q := by
  refine v_if (hz_X12_cut_ hT _ _ rfl) (fun hc1 => absurd (show (1 : Int) = 0 from hc1) (by decide)) (fun _ => ?_)
  refine v_load (v := (2, 121)) (hz_X12_cut_ hT _ _ rfl) rfl rfl ?_
  refine v_push (9) (hz_X12_cut_ hT _ _ rfl) rfl ?_
  refine v_call (w := 2) [some (2, 121), some (0, 9)] hO (hz_X12_cut_ hT _ _ rfl) rfl rfl ?_
  refine v_load (v := (2, 121)) (hi_X12_refuse_0 hT) rfl rfl ?_
  refine v_load (v := (0, 9)) (hi_X12_refuse_1 hT) rfl rfl ?_
  refine v_putf (r := 121) hO (hi_X12_refuse_2 hT) rfl (fun hf2 => ?_)
  refine v_push (-1) (hi_X12_refuse_5 hT) rfl ?_
  refine v_ret (hi_X12_refuse_6 hT) (Or.inl rfl) ?_
  show vP D T N 217 68 (zset h 121 0 (0, 9)) [some (2, 121), some (0, (m : Int)), none] [(0, -1)] _
  refine v_ret (hz_X12_cut_ hT _ _ rfl) (Or.inl rfl) ?_
  exact k0 
theorem qs_cut59_0 {D : zD} {T : zT} (hT : hTab T) (hO : vOK T) {N : Nat} {h : zH} {Q : zR → Prop} {P : PT} {m : Nat} (hv0 : zHv h)
    (k0 : vP D T N 217 71 h [some (2, 121), some (0, (m : Int)), some (0, 1)] [] Q) :
    vP D T N 217 59 h [some (2, 121), some (0, (m : Int)), none] [(0, 0)] Q := by
  refine v_if (hz_X12_cut_ hT _ _ rfl) (fun _ => ?_) (fun hc1 => absurd (show (0 : Int) = 0 from (by decide)) hc1)
  refine v_push (1) (hz_X12_cut_ hT _ _ rfl) rfl ?_
  refine v_store1 [some (2, 121), some (0, (m : Int)), some (0, 1)] (hz_X12_cut_ hT _ _ rfl) ⟨rfl, Nat.ne_of_beq_eq_false rfl⟩ (Nat.le_of_ble_eq_true rfl) rfl ?_
  exact k0 
theorem qs_cut71 {D : zD} {T : zT} (hT : hTab T) (hO : vOK T) {N : Nat} {h : zH} {Q : zR → Prop} {P : PT} {m : Nat} {n : Nat} (hv0 : zHv h) (hn : (n : Int) < 4)
    (k0 : vP D T N 218 0 h [some (2, 121), some (0, (m : Int)), some (0, 0), some (0, (n : Int)), none, none, none, none] [] (fun r1 => vP D T N 217 83 r1.1 [some (2, 121), some (0, (m : Int)), some (0, (n : Int))] (zpush r1.2 []) Q)) :
    vP D T (N + 1) 217 71 h [some (2, 121), some (0, (m : Int)), some (0, (n : Int))] [] Q := by
  refine v_loadS (v := (0, (n : Int))) (hz_X12_cut_ hT _ _ rfl) rfl rfl ?_
  refine v_push (4) (hz_X12_cut_ hT _ _ rfl) rfl ?_
  refine v_ic (hz_X12_cut_ hT _ _ rfl) (fun _ => ?_) (fun hc1 => absurd (show (n : Int) < 4 from hn) hc1)
  refine v_load (v := (2, 121)) (hz_X12_cut_ hT _ _ rfl) rfl rfl ?_
  refine v_load (v := (0, (m : Int))) (hz_X12_cut_ hT _ _ rfl) rfl rfl ?_
  refine v_push (0) (hz_X12_cut_ hT _ _ rfl) rfl ?_
  refine v_load (v := (0, (n : Int))) (hz_X12_cut_ hT _ _ rfl) rfl rfl ?_
  refine v_call (w := 8) [some (2, 121), some (0, (m : Int)), some (0, 0), some (0, (n : Int)), none, none, none, none] hO (hz_X12_cut_ hT _ _ rfl) rfl rfl ?_
  exact k0 
theorem qs_cut83_1 {D : zD} {T : zT} (hT : hTab T) (hO : vOK T) {N : Nat} {h : zH} {Q : zR → Prop} {P : PT} {m : Nat} {n : Nat} (hv0 : zHv h)
    (k0 : Q (h, some (0, (n : Int)))) :
    vP D T N 217 83 h [some (2, 121), some (0, (m : Int)), some (0, (n : Int))] [(0, 1)] Q := by
  refine v_if (hz_X12_cut_ hT _ _ rfl) (fun hc1 => absurd (show (1 : Int) = 0 from hc1) (by decide)) (fun _ => ?_)
  refine v_load (v := (0, (n : Int))) (hz_X12_cut_ hT _ _ rfl) rfl rfl ?_
  refine v_ret (hz_X12_cut_ hT _ _ rfl) (Or.inl rfl) ?_
  exact k0 
theorem qs_cut83_0 {D : zD} {T : zT} (hT : hTab T) (hO : vOK T) {N : Nat} {h : zH} {Q : zR → Prop} {P : PT} {m : Nat} {n : Nat} (hv0 : zHv h) (hn : (n : Int) < 4)
    (k0 : vP D T N 217 71 h [some (2, 121), some (0, (m : Int)), some (0, ((n : Int) + 1))] [] Q) :
    vP D T N 217 83 h [some (2, 121), some (0, (m : Int)), some (0, (n : Int))] [(0, 0)] Q := by
  refine v_if (hz_X12_cut_ hT _ _ rfl) (fun _ => ?_) (fun hc1 => absurd (show (0 : Int) = 0 from (by decide)) hc1)
  refine v_iinc (x := (n : Int)) (u := 1) (w := ((n : Int) + 1)) [some (2, 121), some (0, (m : Int)), some (0, ((n : Int) + 1))] (hz_X12_cut_ hT _ _ rfl) rfl rfl (Nat.le_of_ble_eq_true rfl) (vz_inc (by omega) (by omega)) rfl ?_
  refine v_goto (hz_X12_cut_ hT _ _ rfl) ?_
  exact k0 
theorem qs_cut71x {D : zD} {T : zT} (hT : hTab T) (hO : vOK T) {N : Nat} {h : zH} {Q : zR → Prop} {P : PT} {m : Nat} (hv0 : zHv h)
    (k0 : Q (h, some (0, 4))) :
    vP D T (N + 1) 217 71 h [some (2, 121), some (0, (m : Int)), some (0, 4)] [] Q := by
  refine v_loadS (v := (0, 4)) (hz_X12_cut_ hT _ _ rfl) rfl rfl ?_
  refine v_push (4) (hz_X12_cut_ hT _ _ rfl) rfl ?_
  refine v_ic (hz_X12_cut_ hT _ _ rfl) (fun hc1 => absurd (show (4 : Int) < 4 from hc1) (by decide)) (fun _ => ?_)
  refine v_push (4) (hz_X12_cut_ hT _ _ rfl) rfl ?_
  refine v_ret (hz_X12_cut_ hT _ _ rfl) (Or.inl rfl) ?_
  exact k0 
/-! cutsOff, isBeside, cut: the reference -/
noncomputable def coT (m : Nat) : Nat → PT → Nat → Prop
  | 0, P, _ => mC P m = -1
  | k + 1, P, n => mC P m = -1 ∨ ∃ i : Nat, n ≤ i ∧ i < (P 0 0).toNat * (P 0 1).toNat ∧ (i ≠ gJ P (P 6 m).toNat ∧ i ≠ gJ P (P 7 m).toNat ∧ rCF P (P 8 m) (gQ P i) ≠ 1000000 ∧ coT m k (pSt P (P 8 m).toNat (gQ P i) 1) (i + 1))
abbrev coA (P : PT) (m k i : Nat) : Prop := i ≠ gJ P (P 6 m).toNat ∧ i ≠ gJ P (P 7 m).toNat ∧ rCF P (P 8 m) (gQ P i) ≠ 1000000 ∧ coT m k (pSt P (P 8 m).toNat (gQ P i) 1) (i + 1)
theorem rx_coL {D : zD} {T : zT} (hT : hTab T) (hO : vOK T) {N : Nat} {Q : zR → Prop} {P : PT} {m c j : Nat} {f : Int} (hb : fB P) (h3 : (m : Int) < P 0 3) (e8 : P 8 m = (j : Int)) (c3 : c < 3)
    (IH : ∀ (P' : PT) (h' : zH) (n' : Nat) (Q' : zR → Prop), rBk 0 P' h' → fB P' → (m : Int) < P' 0 3 → n' ≤ (P' 0 0).toNat * (P' 0 1).toNat → (∀ g : zH, coT m c P' n' → rBk 0 P' g → wqF h' g → Q' (g, some (0, 1))) → (∀ g : zH, ¬ coT m c P' n' → rBk 0 P' g → wqF h' g → Q' (g, some (0, 0))) → vP D T N 218 0 h' [some (2, 121), some (0, (m : Int)), some (0, (n' : Int)), some (0, (c : Int)), none, none, none, none] [] Q') :
    ∀ (r n : Nat) (h : zH) (o6 o7 : Option zV), n + r = (P 0 0).toNat * (P 0 1).toNat → rBk 0 P h → (∀ g : zH, (∃ i : Nat, n ≤ i ∧ i < (P 0 0).toNat * (P 0 1).toNat ∧ coA P m c i) → rBk 0 P g → wqF h g → Q (g, some (0, 1))) → (∀ g : zH, ¬ (∃ i : Nat, n ≤ i ∧ i < (P 0 0).toNat * (P 0 1).toNat ∧ coA P m c i) → rBk 0 P g → wqF h g → Q (g, some (0, 0))) → vP D T N 218 34 h [some (2, 121), some (0, (m : Int)), some (0, f), some (0, ((c + 1 : Nat) : Int)), some (0, (j : Int)), some (0, (n : Int)), o6, o7] [] Q
  | 0, n, h, o6, o7, hn, hR, y, no => by
    have e := wr_i hb.1
    have hn : n = (P 0 0).toNat * (P 0 1).toNat := hn
    exact vP_dn (vP_hv (fun hv => qr_ct34x (P := P) hT hO f o6 o7 hv hR.w hR.r hb (by rw [← e, hn]; exact Int.le_refl _) (no h (fun ⟨i, a, b, _⟩ => by omega) hR wqF.rfl)))
  | r + 1, n, h, o6, o7, hn, hR, y, no => by
    have e := wr_i hb.1
    have lb := hb.1
    have w48 := wr_48 hb.1
    obtain ⟨gq, ej⟩ := gQ_ok hb.1 (n := n) (by omega)
    have lj := gJ_lt lb gq
    have hj : j < 3 := by
      have := (hb.2.2.2 m h3).2.2.2.2
      have := lb.2.2.1.2
      omega
    have m6 : m < 6 := by have := lb.2.2.2.2; omega
    have sk : ¬ coA P m c n → ∀ (h' : zH) (o6 o7 : Option zV), rBk 0 P h' → wqF h h' → vP D T N 218 34 h' [some (2, 121), some (0, (m : Int)), some (0, f), some (0, ((c + 1 : Nat) : Int)), some (0, (j : Int)), some (0, ((n : Int) + 1)), o6, o7] [] Q := fun na h' o6 o7 R' F' => by
      rw [show ((n : Int) + 1) = ((n + 1 : Nat) : Int) from rfl]
      refine rx_coL hT hO hb h3 e8 c3 IH r (n + 1) h' o6 o7 (by omega) R' (fun g d R F => ?_) (fun g d R F => no g ?_ R (F'.trans F))
      · obtain ⟨i, a, b, d⟩ := d
        exact y g ⟨i, by omega, b, d⟩ R (F'.trans F)
      · rintro ⟨i, a, b, d'⟩
        rcases Nat.eq_or_lt_of_le a with q | q
        · subst q; exact na d'
        · exact d ⟨i, q, b, d'⟩
    have go : vP D T N 218 34 h [some (2, 121), some (0, (m : Int)), some (0, f), some (0, ((c + 1 : Nat) : Int)), some (0, (j : Int)), some (0, ((gJ P (gQ P n) : Nat) : Int)), o6, o7] [] Q := by
      refine vP_dn (vP_hv (fun hv => qr_ct34 (P := P) (q := gQ P n) hT hO f o6 o7 hv hR hb m6 c3 (hR.at h3) (hR.go h3) gq lj hj (by rw [ej, ← e]; omega) ?_ ?_ ?_ ?_))
      · intro _ _ d
        rw [ej] at d ⊢
        exact sk (fun a => a.1 (by omega)) h o6 o7 hR wqF.rfl
      · intro _ _ _ _ _ d
        rw [ej] at d ⊢
        exact sk (fun a => a.2.1 (by omega)) h o6 o7 hR wqF.rfl
      · intro _ _ _ _ _ _ d
        rw [ej]
        exact sk (fun a => a.2.2.1 (by rw [e8]; exact d)) h o6 o7 hR wqF.rfl
      · intro _ _ d1 _ _ d2 d3 _ _
        rw [ej] at d1 d2
        rw [show (((c + 1 : Nat) : Int) - 1) = (c : Int) from by omega, show (((gJ P (gQ P n) : Nat) : Int) + 1) = ((n + 1 : Nat) : Int) from by rw [ej]; rfl]
        have R1 := hR.s3 lb hj gq (v := 1)
        have b1 : fB (pSt P j (gQ P n) 1) := hb.s3 (by decide)
        have e8' : (P 8 m).toNat = j := by omega
        have F0 : wqF h (zset h 126 ((101 + (48 * (j : Int))) + ((gJ P (gQ P n) : Nat) : Int)).toNat (0, 1)) := wqF.st lb hj gq
        have back : ∀ g : zH, rBk 0 (pSt P j (gQ P n) 1) g → rBk 0 P (zset g 126 ((101 + (48 * (j : Int))) + ((gJ P (gQ P n) : Nat) : Int)).toNat (0, P 3 (48 * j + gQ P n))) := fun g x => by
          have R2 := x.s3 (show lB (pSt P j (gQ P n) 1) from lb) hj gq (v := P 3 (48 * j + gQ P n))
          rw [pSt_back] at R2
          exact R2
        have A : coT m c (pSt P j (gQ P n) 1) (n + 1) → coA P m c n := fun x => ⟨by omega, by omega, by rw [e8]; exact d3, by rw [e8']; exact x⟩
        have A' : ¬ coT m c (pSt P j (gQ P n) 1) (n + 1) → ¬ coA P m c n := fun x a => x (by have := a.2.2.2; rw [e8'] at this; exact this)
        refine IH (pSt P j (gQ P n) 1) _ (n + 1) _ R1 b1 h3 (show n + 1 ≤ (P 0 0).toNat * (P 0 1).toNat by omega) (fun g x Rg Fg => ?_) (fun g x Rg Fg => ?_)
        · show vP D T N 218 125 g [some (2, 121), some (0, (m : Int)), some (0, f), some (0, ((c + 1 : Nat) : Int)), some (0, (j : Int)), some (0, ((gJ P (gQ P n) : Nat) : Int)), some (0, P 3 (48 * j + gQ P n)), o7] [(0, 1)] Q
          refine vP_hv (fun hv => qr_ct125_1 (P := P) hT hO f _ o7 hv lj hj (fun _ _ => ?_))
          exact y _ ⟨n, Nat.le_refl _, by omega, A x⟩ (back g Rg) ((F0.trans Fg).trans (wqF.st lb hj gq))
        · show vP D T N 218 125 g [some (2, 121), some (0, (m : Int)), some (0, f), some (0, ((c + 1 : Nat) : Int)), some (0, (j : Int)), some (0, ((gJ P (gQ P n) : Nat) : Int)), some (0, P 3 (48 * j + gQ P n)), o7] [(0, 0)] Q
          refine vP_hv (fun hv => qr_ct125_0 (P := P) hT hO f _ o7 hv lj hj (fun _ _ => ?_))
          rw [show (((gJ P (gQ P n) : Nat) : Int) + 1) = ((n : Int) + 1) from by rw [ej]]
          exact sk (A' x) _ _ _ (back g Rg) ((F0.trans Fg).trans (wqF.st lb hj gq))
    rw [ej] at go
    exact go
theorem rx_co {D : zD} {T : zT} (hT : hTab T) (hO : vOK T) {N : Nat} {m : Nat} : ∀ (k : Nat), k ≤ 3 → ∀ (P : PT) (h : zH) (n : Nat) (Q : zR → Prop), rBk 0 P h → fB P → (m : Int) < P 0 3 → n ≤ (P 0 0).toNat * (P 0 1).toNat → (∀ g : zH, coT m k P n → rBk 0 P g → wqF h g → Q (g, some (0, 1))) → (∀ g : zH, ¬ coT m k P n → rBk 0 P g → wqF h g → Q (g, some (0, 0))) → vP D T N 218 0 h [some (2, 121), some (0, (m : Int)), some (0, (n : Int)), some (0, (k : Int)), none, none, none, none] [] Q
  | 0, _, P, h, n, Q, hR, hb, h3, hn, y, no => by
    refine vP_hv (fun hv => qr_ct0 hT hO _ _ hv ?_)
    refine rx_cw hT hO m hR hb h3 (fun g u => ?_)
    have R1 : rBk 0 P g := hR.eq hb.1 (fun b _ _ => u 126 b (by decide))
    have F1 : wqF h g := fun a b hn => u a b (fun e => hn (Or.inl e))
    show vP D T N 218 5 g [some (2, 121), some (0, (m : Int)), some (0, (n : Int)), some (0, 0), none, none, none, none] [(0, cwC P m)] Q
    by_cases w : mC P m = -1
    · rw [show cwC P m = 1000000 from if_pos w]
      exact vP_hv (fun hv => qr_ct5f hT hO _ _ hv (y g w R1 F1))
    · have e : cwC P m = mC P m := if_neg w
      exact vP_hv (fun hv => qr_ct5z hT hO _ _ hv (by rw [e]; have := mC_b hb h3; omega) (no g w R1 F1))
  | k + 1, hk, P, h, n, Q, hR, hb, h3, hn, y, no => by
    refine vP_hv (fun hv => qr_ct0 hT hO _ _ hv ?_)
    refine rx_cw hT hO m hR hb h3 (fun g u => ?_)
    have R1 : rBk 0 P g := hR.eq hb.1 (fun b _ _ => u 126 b (by decide))
    have F1 : wqF h g := fun a b hn => u a b (fun e => hn (Or.inl e))
    show vP D T N 218 5 g [some (2, 121), some (0, (m : Int)), some (0, (n : Int)), some (0, ((k + 1 : Nat) : Int)), none, none, none, none] [(0, cwC P m)] Q
    by_cases w : mC P m = -1
    · rw [show cwC P m = 1000000 from if_pos w]
      exact vP_hv (fun hv => qr_ct5f hT hO _ _ hv (y g (Or.inl w) R1 F1))
    · have e : cwC P m = mC P m := if_neg w
      have m6 : m < 6 := by have := hb.1.2.2.2.2; omega
      refine vP_hv (fun hv => qr_ct5 (P := P) (c := k) hT hO _ _ hv (by rw [e]; have := mC_b hb h3; omega) m6 (R1.by h3) (fun _ _ => ?_))
      obtain ⟨j, e8⟩ : ∃ j : Nat, P 8 m = (j : Int) := ⟨(P 8 m).toNat, by have := (hb.2.2.2 m h3).2.2.2.1; omega⟩
      rw [e8]
      exact rx_coL hT hO hb h3 e8 (by omega) (fun P' h' n' Q' a1 a2 a3 a4 a5 a6 => rx_co hT hO k (by omega) P' h' n' Q' a1 a2 a3 a4 a5 a6) ((P 0 0).toNat * (P 0 1).toNat - n) n g none none (by omega) R1 (fun g2 x r1 f1 => y g2 (Or.inr x) r1 (F1.trans f1)) (fun g2 x r1 f1 => no g2 (fun d => d.elim w x) r1 (F1.trans f1))
abbrev ibD (P : PT) (b d : Nat) (a : Nat) : Prop := ∃ q2 : Nat, gNb P a d = (q2 : Int) ∧ gIn P q2 ∧ gJ P q2 = gJ P b
def ibP (P : PT) (a b n : Nat) : Prop := (∃ d : Nat, n ≤ d ∧ d < 4 ∧ ibD P b d a) ∨ gJ P a = gJ P b
theorem rx_ibL {D : zD} {T : zT} (hT : hTab T) (hO : vOK T) {N : Nat} {Q : zR → Prop} {P : PT} {a b : Nat} {h : zH} (hR : rBk 0 P h) (hb : fB P) (ga : gIn P a) : ∀ (r d : Nat), d + r = 4 → (ibP P a b d → Q (h, some (0, 1))) → (¬ ibP P a b d → Q (h, some (0, 0))) → vP D T N 242 2 h [some (2, 121), some (0, ((gJ P a : Nat) : Int)), some (0, ((gJ P b : Nat) : Int)), some (0, (d : Int))] [] Q
  | 0, d, hd, y, n => by
    obtain rfl : d = 4 := hd
    refine vP_dn (vP_hv (fun hv => qr_ib4 (P := P) (a := a) (b := b) hT hO hv (fun e => y (Or.inr (by omega))) (fun e => n (fun c => ?_))))
    rcases c with ⟨i, c1, c2, _⟩ | c
    · omega
    · omega
  | r + 1, d, hd, y, n => by
    have nx : ¬ ibD P b d a → vP D T N 242 2 h [some (2, 121), some (0, ((gJ P a : Nat) : Int)), some (0, ((gJ P b : Nat) : Int)), some (0, ((d : Int) + 1))] [] Q := fun c => by
      rw [show ((d : Int) + 1) = ((d + 1 : Nat) : Int) from rfl]
      refine rx_ibL hT hO hR hb ga r (d + 1) (by omega) (fun z => y ?_) (fun z => n (fun w => z ?_))
      · rcases z with ⟨i, c1, c2, c3⟩ | z
        · exact Or.inl ⟨i, by omega, c2, c3⟩
        · exact Or.inr z
      · rcases w with ⟨i, c1, c2, c3⟩ | w
        · rcases Nat.eq_or_lt_of_le c1 with q | q
          · subst q; exact absurd c3 c
          · exact Or.inl ⟨i, q, c2, c3⟩
        · exact Or.inr w
    refine vP_dn (vP_hv (fun hv => qr_ib2 (P := P) (a := a) (b := b) (d := d) hT hO hv hR.w hR.r hb ga (by omega) ?_ ?_ ?_ ?_))
    · intro e1 e2
      omega
    · intro e1 e2
      exact nx (by rintro ⟨q2, f1, _, _⟩; omega)
    · intro q2 e1 e2 e3
      exact y (Or.inl ⟨d, Nat.le_refl _, by omega, q2, e1, e2, by omega⟩)
    · intro q2 e1 e2 e3
      exact nx (by
        rintro ⟨q3, f1, _, f3⟩
        have : q3 = q2 := by omega
        subst this
        omega)
theorem rx_ib {D : zD} {T : zT} (hT : hTab T) (hO : vOK T) {N : Nat} {Q : zR → Prop} {P : PT} {a b : Nat} {h : zH} (hR : rBk 0 P h) (hb : fB P) (ga : gIn P a) (y : ibP P a b 0 → Q (h, some (0, 1))) (n : ¬ ibP P a b 0 → Q (h, some (0, 0))) : vP D T N 242 0 h [some (2, 121), some (0, ((gJ P a : Nat) : Int)), some (0, ((gJ P b : Nat) : Int)), none] [] Q :=
  vP_hv (fun hv => qr_ib0 (P := P) (a := a) (b := b) hT hO hv (rx_ibL hT hO hR hb ga 4 0 rfl y n))
/-- what cut answers -/
abbrev okX (P : PT) (x : Int) : Prop := 0 ≤ x ∧ x < P 0 3
def ctV (P : PT) (m : Nat) (v : Int) : Prop := (mC P m = -1 ∧ v = -1) ∨ (mC P m ≠ -1 ∧ ibP P (P 6 m).toNat (P 7 m).toNat 0 ∧ v = -1) ∨ (mC P m ≠ -1 ∧ ¬ ibP P (P 6 m).toNat (P 7 m).toNat 0 ∧ ∃ k : Nat, v = (k : Int) ∧ 1 ≤ k ∧ k ≤ 4 ∧ (∀ i : Nat, 1 ≤ i → i < k → ¬ coT m i P 0) ∧ (k < 4 → coT m k P 0))
theorem rx_ctL {D : zD} {T : zT} (hT : hTab T) (hO : vOK T) {N : Nat} {Q : zR → Prop} {P : PT} {m : Nat} (hb : fB P) (h3 : (m : Int) < P 0 3) : ∀ (r n : Nat) (h : zH), n + r = 4 → 1 ≤ n → rBk 0 P h → (∀ i : Nat, 1 ≤ i → i < n → ¬ coT m i P 0) → (∀ (g : zH) (k : Nat), rBk 0 P g → wqF h g → 1 ≤ k → k ≤ 4 → (∀ i : Nat, 1 ≤ i → i < k → ¬ coT m i P 0) → (k < 4 → coT m k P 0) → Q (g, some (0, (k : Int)))) → vP D T N 217 71 h [some (2, 121), some (0, (m : Int)), some (0, (n : Int))] [] Q
  | 0, n, h, hn, n1, hR, u, k => by
    obtain rfl : n = 4 := hn
    exact vP_dn (vP_hv (fun hv => qs_cut71x (P := P) (m := m) hT hO hv (k h 4 hR wqF.rfl (by omega) (by omega) u (fun q => absurd q (by omega)))))
  | r + 1, n, h, hn, n1, hR, u, k => by
    refine vP_dn (vP_hv (fun hv => qs_cut71 (P := P) (m := m) (n := n) hT hO hv (by omega) ?_))
    refine rx_co hT hO n (by omega) P h 0 _ hR hb h3 (Nat.zero_le _) (fun g x R F => ?_) (fun g x R F => ?_)
    · show vP D T N 217 83 g [some (2, 121), some (0, (m : Int)), some (0, (n : Int))] [(0, 1)] Q
      exact vP_hv (fun hv => qs_cut83_1 (P := P) (m := m) (n := n) hT hO hv (k g n R F n1 (by omega) u (fun _ => x)))
    · show vP D T N 217 83 g [some (2, 121), some (0, (m : Int)), some (0, (n : Int))] [(0, 0)] Q
      refine vP_hv (fun hv => qs_cut83_0 (P := P) (m := m) (n := n) hT hO hv (by omega) ?_)
      rw [show ((n : Int) + 1) = ((n + 1 : Nat) : Int) from rfl]
      refine rx_ctL hT hO hb h3 r (n + 1) g (by omega) (by omega) R (fun i i1 i2 => ?_) (fun g2 k2 R2 F2 => k g2 k2 R2 (F.trans F2))
      rcases Nat.lt_or_ge i n with q | q
      · exact u i i1 q
      · obtain rfl : i = n := by omega
        exact x
theorem rx_cut {D : zD} {T : zT} (hT : hTab T) (hO : vOK T) {N : Nat} {h : zH} {P : PT} (hR : rBk 0 P h) (hb : fB P) (x : Int) : vP D T N 217 0 h [some (2, 121), some (0, x), none] [] (fun r => rBk 0 P r.1 ∧ rSF h r.1 ∧ ((¬ okX P x ∧ r.2 = some (0, -1)) ∨ (okX P x ∧ ∃ v : Int, r.2 = some (0, v) ∧ ctV P x.toNat v))) := by
  have lb := hb.1
  have F2 : rSF h (zset (zset h 121 1 (0, 0)) 121 0 (0, 0)) := fun a b hn => (zset_ne (fun e => hn (by omega))).trans (zset_ne (fun e => hn (by omega)))
  have hR2 : rBk 0 P (zset (zset h 121 1 (0, 0)) 121 0 (0, 0)) := (hR.z1 lb).z1 lb
  have F9 : ∀ (g : zH) (v : zV), rSF h g → rSF h (zset g 121 0 v) := fun g v f a b hn => (zset_ne (fun e => hn (by omega))).trans (f a b hn)
  refine vP_hv (fun hv => qs_cut0 (P := P) hT hO x hv hR.w hR.r hR.c hR.m lb (fun c => ?_) (fun c1 c2 => ?_) (fun c1 c2 => ?_))
  · exact ⟨hR2.z1 lb, F9 _ _ F2, Or.inl ⟨fun d => by have := d.1; omega, rfl⟩⟩
  · exact ⟨hR2.z1 lb, F9 _ _ F2, Or.inl ⟨fun d => by have := d.2; omega, rfl⟩⟩
  obtain ⟨m, rfl⟩ : ∃ m : Nat, x = (m : Int) := ⟨x.toNat, by omega⟩
  have h3 : (m : Int) < P 0 3 := by omega
  have m6 : m < 6 := by have := lb.2.2.2.2; omega
  have ok : okX P (m : Int) := ⟨c1, h3⟩
  have em : ((m : Int)).toNat = m := rfl
  refine rx_cw hT hO m hR2 hb h3 (fun g u => ?_)
  have R1 : rBk 0 P g := hR2.eq lb (fun b _ _ => u 126 b (by decide))
  have F1 : rSF h g := fun a b hn => (u a b (fun e => hn (Or.inl e))).trans (F2 a b hn)
  show vP D T N 217 29 g [some (2, 121), some (0, (m : Int)), none] [(0, cwC P m)] _
  by_cases w : mC P m = -1
  · rw [show cwC P m = 1000000 from if_pos w]
    exact vP_hv (fun hv => qs_cut29f (P := P) (m := m) hT hO hv ⟨R1.z1 lb, F9 _ _ F1, Or.inr ⟨ok, -1, rfl, Or.inl ⟨w, rfl⟩⟩⟩)
  have e : cwC P m = mC P m := if_neg w
  obtain ⟨_, ⟨b6, g6⟩, ⟨b7, g7⟩, _⟩ := hb.2.2.2 m h3
  refine vP_hv (fun hv => qs_cut29 (P := P) (m := m) hT hO _ hv (by rw [e]; have := mC_b hb h3; omega) m6 (R1.at h3) (R1.go h3) (fun _ _ _ _ => ?_))
  refine rx_ib hT hO R1 hb g6 (fun d => ?_) (fun d => ?_)
  · show vP D T N 217 59 g [some (2, 121), some (0, (m : Int)), none] [(0, 1)] _
    exact vP_hv (fun hv => qs_cut59_1 (P := P) (m := m) hT hO hv ⟨R1.z1 lb, F9 _ _ F1, Or.inr ⟨ok, -1, rfl, Or.inr (Or.inl ⟨w, d, rfl⟩)⟩⟩)
  · show vP D T N 217 59 g [some (2, 121), some (0, (m : Int)), none] [(0, 0)] _
    refine vP_hv (fun hv => qs_cut59_0 (P := P) (m := m) hT hO hv ?_)
    refine rx_ctL hT hO hb h3 3 1 g rfl (Nat.le_refl _) R1 (fun i i1 i2 => absurd i2 (by omega)) (fun g2 k R2 F k1 k4 u1 u2 => ⟨R2, fun a b hn => (F a b (fun q => hn (by omega))).trans (F1 a b hn), Or.inr ⟨ok, (k : Int), rfl, Or.inr (Or.inr ⟨w, d, k, rfl, k1, k4, u1, u2⟩)⟩⟩)
theorem fRw_cut {D : zD} (_ : ∀ i, -2147483648 ≤ D.2 i ∧ D.2 i ≤ 2147483647) {h h1 h2 : zH} {x v1 v2 : Int} (hZ : lZ D h) (hZ1 : lZ D h1) (hR : fR h) (z1 : zRun D TLw 614 153 0 (h, zargs 0 [(2, 0), (0, x)], []) (h1, some (0, v1))) (f1 : aFr lM_153 h h1) (z2 : zRun D TLw 614 217 0 (h1, zargs 0 [(2, 121), (0, x)], []) (h2, some (0, v2))) (f2 : aFr lM_217 h1 h2) : fR h2 ∧ True := by
  have k1 : ∀ a k, aIn fpS a k → h1 a k = h a k := fun a k hi => f1.keep (by decide +kernel) hi
  refine ⟨⟨lR_S h h2 (fun a k hi => (f2.keep (by decide +kernel) hi).trans (k1 a k (aIn_l hi))) hR.1, ?_⟩, trivial⟩
  obtain ⟨hM, r, c, s1, s2, s3, P, p1, p2, p3, p4, o⟩ := fX_S k1 hR.2
  obtain ⟨q1, q2, _⟩ := hZ1.run 3 z2 (Q := fun r => rBk 0 P r.1 ∧ rSF h1 r.1 ∧ ((¬ okX P x ∧ r.2 = some (0, -1)) ∨ (okX P x ∧ ∃ v : Int, r.2 = some (0, v) ∧ ctV P x.toNat v))) (fun N => rx_cut TLw_T vOK_T p2 p3 x)
  exact fX_up hM s1 s2 s3 o pSh.rfl (fun a b hf => q2 a b (by unfold fOut at hf; omega)) (p1.eq (fun a b h1 h2 => q2 a b (by have := s1.c2; omega))) q1 p3 p4
end
