theorem qr_su0 {D : zD} {T : zT} (hT : hTab T) (hO : vOK T) {N : Nat} {h : zH} {Q : zR → Prop} {j : Nat} (hv0 : zHv h)
    (k0 : vP D T N 320 12 (zset (zset h 121 34 (0, 0)) 121 35 (0, 0)) [some (2, 121), some (0, (j : Int)), some (0, 0), none] [] Q) :
    vP D T N 320 0 h [some (2, 121), some (0, (j : Int)), none, none] [] Q := by
  refine v_load (v := (2, 121)) (hz_X12_sums hT _ _ rfl) rfl rfl ?_
  refine v_push (0) (hz_X12_sums hT _ _ rfl) rfl ?_
  refine v_putf (r := 121) hO (hz_X12_sums hT _ _ rfl) rfl (fun hf1 => ?_)
  refine v_load (v := (2, 121)) (hz_X12_sums hT _ _ rfl) rfl rfl ?_
  refine v_push (0) (hz_X12_sums hT _ _ rfl) rfl ?_
  refine v_putf (r := 121) hO (hz_X12_sums hT _ _ rfl) rfl (fun hf2 => ?_)
  refine v_push (0) (hz_X12_sums hT _ _ rfl) rfl ?_
  refine v_store1 [some (2, 121), some (0, (j : Int)), some (0, 0), none] (hz_X12_sums hT _ _ rfl) ⟨rfl, Nat.ne_of_beq_eq_false rfl⟩ (Nat.le_of_ble_eq_true rfl) rfl ?_
  exact k0 
theorem qr_su12 {D : zD} {T : zT} (hT : hTab T) (hO : vOK T) {N : Nat} {h : zH} {Q : zR → Prop} {P : PT} {j m : Nat} (o : Option zV) (hv0 : zHv h) (p3 : h 126 3 = (0, P 0 3)) (eb : h 126 (263 + (m : Int)).toNat = (0, P 8 m)) (hm : (m : Int) < P 0 3) (m6 : m < 6)
    (k0 : (0 ≤ (263 + (m : Int))) → ((263 + (m : Int)) < 2750) → ((P 8 m) = (j : Int)) → vP D T N 210 0 h [some (2, 121), some (0, (m : Int))] [] (fun r1 => vP D T N 320 44 r1.1 [some (2, 121), some (0, (j : Int)), some (0, (m : Int)), o] (zpush r1.2 []) Q))
    (k1 : (0 ≤ (263 + (m : Int))) → ((263 + (m : Int)) < 2750) → ((P 8 m) ≠ (j : Int)) → vP D T N 320 12 h [some (2, 121), some (0, (j : Int)), some (0, ((m : Int) + 1)), o] [] Q) :
    vP D T (N + 1) 320 12 h [some (2, 121), some (0, (j : Int)), some (0, (m : Int)), o] [] Q := by
  refine v_loadS (v := (0, (m : Int))) (hz_X12_sums hT _ _ rfl) rfl rfl ?_
  refine v_load (v := (2, 121)) (hz_X12_sums hT _ _ rfl) rfl rfl ?_
  refine v_getR (c := 126) (r := 121) (hz_X12_sums hT _ _ rfl) rfl rfl rfl ?_
  refine v_push (3) (hz_X12_sums hT _ _ rfl) rfl ?_
  refine v_aldV (v := (0, (P 0 3))) (r := 126) (hz_X12_sums hT _ _ rfl) rfl rfl (fun _ _ _ => p3) (fun ha1 hb2 => ?_)
  refine v_ic (hz_X12_sums hT _ _ rfl) (fun _ => ?_) (fun hc3 => absurd (show (m : Int) < (P 0 3) from hm) hc3)
  refine v_load (v := (2, 121)) (hz_X12_sums hT _ _ rfl) rfl rfl ?_
  refine v_getR (c := 126) (r := 121) (hz_X12_sums hT _ _ rfl) rfl rfl rfl ?_
  refine v_push (263) (hz_X12_sums hT _ _ rfl) rfl ?_
  refine v_load (v := (0, (m : Int))) (hz_X12_sums hT _ _ rfl) rfl rfl ?_
  refine v_bin (w := (263 + (m : Int))) (hz_X12_sums hT _ _ rfl) (hq_add (by omega) (by omega)) ?_
  refine v_aldB (t := 0) (r := 126) (w := (P 8 m)) (hz_X12_sums hT _ _ rfl) rfl rfl rfl (fun _ _ => (congrArg Prod.snd eb)) (fun ha4 hb5 => ?_)
  refine v_load (v := (0, (j : Int))) (hz_X12_sums hT _ _ rfl) rfl rfl ?_
  refine v_ic (hz_X12_sums hT _ _ rfl) (fun hc6 => ?_) (fun hc6 => ?_)
  · have hc6 : (P 8 m) = (j : Int) := hc6
    refine v_load (v := (2, 121)) (hz_X12_sums hT _ _ rfl) rfl rfl ?_
    refine v_load (v := (0, (m : Int))) (hz_X12_sums hT _ _ rfl) rfl rfl ?_
    refine v_call (w := 2) [some (2, 121), some (0, (m : Int))] hO (hz_X12_sums hT _ _ rfl) rfl rfl ?_
    exact k0 ha4 hb5 hc6
  · have hc6 : (P 8 m) ≠ (j : Int) := hc6
    refine v_goto (hz_X12_sums hT _ _ rfl) ?_
    refine v_iinc (x := (m : Int)) (u := 1) (w := ((m : Int) + 1)) [some (2, 121), some (0, (j : Int)), some (0, ((m : Int) + 1)), o] (hz_X12_sums hT _ _ rfl) rfl rfl (Nat.le_of_ble_eq_true rfl) (vz_inc (by omega) (by omega)) rfl ?_
    refine v_goto (hz_X12_sums hT _ _ rfl) ?_
    exact k1 ha4 hb5 hc6
theorem qr_su9 {D : zD} {T : zT} (hT : hTab T) (hO : vOK T) {N : Nat} {h : zH} {Q : zR → Prop} {P : PT} {j m : Nat} (o : Option zV) (hv0 : zHv h) (p3 : h 126 3 = (0, P 0 3)) (hm : P 0 3 ≤ (m : Int))
    (k0 : Q (h, none)) :
    vP D T (N + 1) 320 12 h [some (2, 121), some (0, (j : Int)), some (0, (m : Int)), o] [] Q := by
  refine v_loadS (v := (0, (m : Int))) (hz_X12_sums hT _ _ rfl) rfl rfl ?_
  refine v_load (v := (2, 121)) (hz_X12_sums hT _ _ rfl) rfl rfl ?_
  refine v_getR (c := 126) (r := 121) (hz_X12_sums hT _ _ rfl) rfl rfl rfl ?_
  refine v_push (3) (hz_X12_sums hT _ _ rfl) rfl ?_
  refine v_aldV (v := (0, (P 0 3))) (r := 126) (hz_X12_sums hT _ _ rfl) rfl rfl (fun _ _ _ => p3) (fun ha1 hb2 => ?_)
  refine v_ic (hz_X12_sums hT _ _ rfl) (fun hc3 => absurd (show (m : Int) < (P 0 3) from hc3) (by omega)) (fun _ => ?_)
  refine v_ret0 (hz_X12_sums hT _ _ rfl) ?_
  exact k0 
theorem qr_su44f {D : zD} {T : zT} (hT : hTab T) (hO : vOK T) {N : Nat} {h : zH} {Q : zR → Prop} {j m : Nat} (o : Option zV) (hv0 : zHv h) (m6 : m < 6)
    (k0 : vP D T N 320 12 h [some (2, 121), some (0, (j : Int)), some (0, ((m : Int) + 1)), some (0, 1000000)] [] Q) :
    vP D T N 320 44 h [some (2, 121), some (0, (j : Int)), some (0, (m : Int)), o] [(0, 1000000)] Q := by
  refine v_store1 [some (2, 121), some (0, (j : Int)), some (0, (m : Int)), some (0, 1000000)] (hz_X12_sums hT _ _ rfl) ⟨rfl, Nat.ne_of_beq_eq_false rfl⟩ (Nat.le_of_ble_eq_true rfl) rfl ?_
  refine v_load (v := (0, 1000000)) (hz_X12_sums hT _ _ rfl) rfl rfl ?_
  refine v_push (1000000) (hz_X12_sums hT _ _ rfl) rfl ?_
  refine v_ic (hz_X12_sums hT _ _ rfl) (fun _ => ?_) (fun hc1 => absurd (show (1000000 : Int) = 1000000 from (by omega)) hc1)
  refine v_goto (hz_X12_sums hT _ _ rfl) ?_
  refine v_iinc (x := (m : Int)) (u := 1) (w := ((m : Int) + 1)) [some (2, 121), some (0, (j : Int)), some (0, ((m : Int) + 1)), some (0, 1000000)] (hz_X12_sums hT _ _ rfl) rfl rfl (Nat.le_of_ble_eq_true rfl) (vz_inc (by omega) (by omega)) rfl ?_
  refine v_goto (hz_X12_sums hT _ _ rfl) ?_
  exact k0 
theorem qr_su44 {D : zD} {T : zT} (hT : hTab T) (hO : vOK T) {N : Nat} {h : zH} {Q : zR → Prop} {j m r : Nat} (p c : Int) (o : Option zV) (hv0 : zHv h) (m6 : m < 6) (hp : p ≠ 1000000) (bp : 0 ≤ p ∧ p < 1000000) (e34 : h 121 34 = (0, (r : Int))) (e35 : h 121 35 = (0, c)) (br : r ≤ 6) (bc : 0 ≤ c ∧ c ≤ 6000000)
    (k0 : vP D T N 320 12 (zset (zset h 121 34 (0, ((r : Int) + 1))) 121 35 (0, (c + p))) [some (2, 121), some (0, (j : Int)), some (0, ((m : Int) + 1)), some (0, p)] [] Q) :
    vP D T N 320 44 h [some (2, 121), some (0, (j : Int)), some (0, (m : Int)), o] [(0, p)] Q := by
  refine v_store1 [some (2, 121), some (0, (j : Int)), some (0, (m : Int)), some (0, p)] (hz_X12_sums hT _ _ rfl) ⟨rfl, Nat.ne_of_beq_eq_false rfl⟩ (Nat.le_of_ble_eq_true rfl) rfl ?_
  refine v_load (v := (0, p)) (hz_X12_sums hT _ _ rfl) rfl rfl ?_
  refine v_push (1000000) (hz_X12_sums hT _ _ rfl) rfl ?_
  refine v_ic (hz_X12_sums hT _ _ rfl) (fun hc1 => absurd (show p = 1000000 from hc1) hp) (fun _ => ?_)
  refine v_load (v := (2, 121)) (hz_X12_sums hT _ _ rfl) rfl rfl ?_
  refine v_dup (hz_X12_sums hT _ _ rfl) (Nat.ne_of_beq_eq_false rfl) ?_
  refine v_getf (v := (0, (r : Int))) (r := 121) (hz_X12_sums hT _ _ rfl) rfl rfl (fun _ => e34) ?_
  refine v_push (1) (hz_X12_sums hT _ _ rfl) rfl ?_
  refine v_bin (w := ((r : Int) + 1)) (hz_X12_sums hT _ _ rfl) (hq_add (by omega) (by omega)) ?_
  refine v_putf (r := 121) hO (hz_X12_sums hT _ _ rfl) rfl (fun hf2 => ?_)
  refine v_load (v := (2, 121)) (hz_X12_sums hT _ _ rfl) rfl rfl ?_
  refine v_dup (hz_X12_sums hT _ _ rfl) (Nat.ne_of_beq_eq_false rfl) ?_
  refine v_getf (v := (0, c)) (r := 121) (hz_X12_sums hT _ _ rfl) rfl rfl (fun _ => Eq.trans (zset_ne (fun c => absurd c.2 (by decide))) (e35)) ?_
  refine v_load (v := (0, p)) (hz_X12_sums hT _ _ rfl) rfl rfl ?_
  refine v_bin (w := (c + p)) (hz_X12_sums hT _ _ rfl) (hq_add (by omega) (by omega)) ?_
  refine v_putf (r := 121) hO (hz_X12_sums hT _ _ rfl) rfl (fun hf3 => ?_)
  refine v_iinc (x := (m : Int)) (u := 1) (w := ((m : Int) + 1)) [some (2, 121), some (0, (j : Int)), some (0, ((m : Int) + 1)), some (0, p)] (hz_X12_sums hT _ _ rfl) rfl rfl (Nat.le_of_ble_eq_true rfl) (vz_inc (by omega) (by omega)) rfl ?_
  refine v_goto (hz_X12_sums hT _ _ rfl) ?_
  exact k0 
theorem qr_ta0 {D : zD} {T : zT} (hT : hTab T) (hO : vOK T) {N : Nat} {h : zH} {Q : zR → Prop} {j : Nat} (f s : Int) (hv0 : zHv h)
    (k0 : vP D T N 320 0 h [some (2, 121), some (0, (j : Int)), none, none] [] (fun r1 => vP D T N 322 5 r1.1 [some (2, 121), some (0, (j : Int)), some (0, f), some (0, s)] (zpush r1.2 []) Q)) :
    vP D T N 322 0 h [some (2, 121), some (0, (j : Int)), some (0, f), some (0, s)] [] Q := by
  refine v_load (v := (2, 121)) (hz_X12_tastes hT _ _ rfl) rfl rfl ?_
  refine v_load (v := (0, (j : Int))) (hz_X12_tastes hT _ _ rfl) rfl rfl ?_
  refine v_call (w := 4) [some (2, 121), some (0, (j : Int)), none, none] hO (hz_X12_tastes hT _ _ rfl) rfl rfl ?_
  exact k0 
theorem qr_ta5 {D : zD} {T : zT} (hT : hTab T) (hO : vOK T) {N : Nat} {h : zH} {Q : zR → Prop} {j : Nat} (f s r c t0 t1 : Int) (hv0 : zHv h) (e34 : h 121 34 = (0, r)) (e35 : h 121 35 = (0, c)) (u0 : h 133 0 = (0, t0)) (u1 : h 133 1 = (0, t1))
    (k0 : (r < t0) → Q (h, none))
    (k1 : (t0 ≤ r) → (t0 = r) → (c < t1) → Q (zset (zset (zset (zset h 133 0 (0, r)) 133 1 (0, c)) 133 2 (0, f)) 133 3 (0, s), none))
    (k2 : (t0 ≤ r) → (t0 = r) → (t1 ≤ c) → Q (h, none))
    (k3 : (t0 ≤ r) → (t0 ≠ r) → Q (zset (zset (zset (zset h 133 0 (0, r)) 133 1 (0, c)) 133 2 (0, f)) 133 3 (0, s), none)) :
    vP D T N 322 5 h [some (2, 121), some (0, (j : Int)), some (0, f), some (0, s)] [] Q := by
  refine v_load (v := (2, 121)) (hz_X12_tastes hT _ _ rfl) rfl rfl ?_
  refine v_getR (c := 133) (r := 121) (hz_X12_tastes hT _ _ rfl) rfl rfl rfl ?_
  refine v_push (0) (hz_X12_tastes hT _ _ rfl) rfl ?_
  refine v_aldV (v := (0, t0)) (r := 133) (hz_X12_tastes hT _ _ rfl) rfl rfl (fun _ _ _ => u0) (fun ha1 hb2 => ?_)
  refine v_load (v := (2, 121)) (hz_X12_tastes hT _ _ rfl) rfl rfl ?_
  refine v_getf (v := (0, r)) (r := 121) (hz_X12_tastes hT _ _ rfl) rfl rfl (fun _ => e34) ?_
  refine v_ic (hz_X12_tastes hT _ _ rfl) (fun hc3 => ?_) (fun hc3 => ?_)
  · have hc3 : r < t0 := hc3
    refine v_ret0 (hz_X12_tastes hT _ _ rfl) ?_
    exact k0 hc3
  · have hc3 : t0 ≤ r := Int.not_lt.mp hc3
    refine v_load (v := (2, 121)) (hz_X12_tastes hT _ _ rfl) rfl rfl ?_
    refine v_getR (c := 133) (r := 121) (hz_X12_tastes hT _ _ rfl) rfl rfl rfl ?_
    refine v_push (0) (hz_X12_tastes hT _ _ rfl) rfl ?_
    refine v_aldV (v := (0, t0)) (r := 133) (hz_X12_tastes hT _ _ rfl) rfl rfl (fun _ _ _ => u0) (fun ha4 hb5 => ?_)
    refine v_load (v := (2, 121)) (hz_X12_tastes hT _ _ rfl) rfl rfl ?_
    refine v_getf (v := (0, r)) (r := 121) (hz_X12_tastes hT _ _ rfl) rfl rfl (fun _ => e34) ?_
    refine v_ic (hz_X12_tastes hT _ _ rfl) (fun hc6 => ?_) (fun hc6 => ?_)
    · have hc6 : t0 = r := hc6
      refine v_load (v := (2, 121)) (hz_X12_tastes hT _ _ rfl) rfl rfl ?_
      refine v_getR (c := 133) (r := 121) (hz_X12_tastes hT _ _ rfl) rfl rfl rfl ?_
      refine v_push (1) (hz_X12_tastes hT _ _ rfl) rfl ?_
      refine v_aldV (v := (0, t1)) (r := 133) (hz_X12_tastes hT _ _ rfl) rfl rfl (fun _ _ _ => u1) (fun ha7 hb8 => ?_)
      refine v_load (v := (2, 121)) (hz_X12_tastes hT _ _ rfl) rfl rfl ?_
      refine v_getf (v := (0, c)) (r := 121) (hz_X12_tastes hT _ _ rfl) rfl rfl (fun _ => e35) ?_
      refine v_ic (hz_X12_tastes hT _ _ rfl) (fun hc9 => ?_) (fun hc9 => ?_)
      · have hc9 : c < t1 := hc9
        refine v_load (v := (2, 121)) (hz_X12_tastes hT _ _ rfl) rfl rfl ?_
        refine v_getR (c := 133) (r := 121) (hz_X12_tastes hT _ _ rfl) rfl rfl rfl ?_
        refine v_push (0) (hz_X12_tastes hT _ _ rfl) rfl ?_
        refine v_load (v := (2, 121)) (hz_X12_tastes hT _ _ rfl) rfl rfl ?_
        refine v_getf (v := (0, r)) (r := 121) (hz_X12_tastes hT _ _ rfl) rfl rfl (fun _ => e34) ?_
        refine v_ast (r := 133) (hz_X12_tastes hT _ _ rfl) rfl rfl (fun ha10 hb11 hf12 => ?_)
        refine v_load (v := (2, 121)) (hz_X12_tastes hT _ _ rfl) rfl rfl ?_
        refine v_getR (c := 133) (r := 121) (hz_X12_tastes hT _ _ rfl) rfl rfl rfl ?_
        refine v_push (1) (hz_X12_tastes hT _ _ rfl) rfl ?_
        refine v_load (v := (2, 121)) (hz_X12_tastes hT _ _ rfl) rfl rfl ?_
        refine v_getf (v := (0, c)) (r := 121) (hz_X12_tastes hT _ _ rfl) rfl rfl (fun _ => Eq.trans (zset_ne (fun c => absurd c.1 (by decide))) (e35)) ?_
        refine v_ast (r := 133) (hz_X12_tastes hT _ _ rfl) rfl rfl (fun ha13 hb14 hf15 => ?_)
        refine v_load (v := (2, 121)) (hz_X12_tastes hT _ _ rfl) rfl rfl ?_
        refine v_getR (c := 133) (r := 121) (hz_X12_tastes hT _ _ rfl) rfl rfl rfl ?_
        refine v_push (2) (hz_X12_tastes hT _ _ rfl) rfl ?_
        refine v_load (v := (0, f)) (hz_X12_tastes hT _ _ rfl) rfl rfl ?_
        refine v_ast (r := 133) (hz_X12_tastes hT _ _ rfl) rfl rfl (fun ha16 hb17 hf18 => ?_)
        refine v_load (v := (2, 121)) (hz_X12_tastes hT _ _ rfl) rfl rfl ?_
        refine v_getR (c := 133) (r := 121) (hz_X12_tastes hT _ _ rfl) rfl rfl rfl ?_
        refine v_push (3) (hz_X12_tastes hT _ _ rfl) rfl ?_
        refine v_load (v := (0, s)) (hz_X12_tastes hT _ _ rfl) rfl rfl ?_
        refine v_ast (r := 133) (hz_X12_tastes hT _ _ rfl) rfl rfl (fun ha19 hb20 hf21 => ?_)
        refine v_ret0 (hz_X12_tastes hT _ _ rfl) ?_
        exact k1 hc3 hc6 hc9
      · have hc9 : t1 ≤ c := Int.not_lt.mp hc9
        refine v_ret0 (hz_X12_tastes hT _ _ rfl) ?_
        exact k2 hc3 hc6 hc9
    · have hc6 : t0 ≠ r := hc6
      refine v_load (v := (2, 121)) (hz_X12_tastes hT _ _ rfl) rfl rfl ?_
      refine v_getR (c := 133) (r := 121) (hz_X12_tastes hT _ _ rfl) rfl rfl rfl ?_
      refine v_push (0) (hz_X12_tastes hT _ _ rfl) rfl ?_
      refine v_load (v := (2, 121)) (hz_X12_tastes hT _ _ rfl) rfl rfl ?_
      refine v_getf (v := (0, r)) (r := 121) (hz_X12_tastes hT _ _ rfl) rfl rfl (fun _ => e34) ?_
      refine v_ast (r := 133) (hz_X12_tastes hT _ _ rfl) rfl rfl (fun ha22 hb23 hf24 => ?_)
      refine v_load (v := (2, 121)) (hz_X12_tastes hT _ _ rfl) rfl rfl ?_
      refine v_getR (c := 133) (r := 121) (hz_X12_tastes hT _ _ rfl) rfl rfl rfl ?_
      refine v_push (1) (hz_X12_tastes hT _ _ rfl) rfl ?_
      refine v_load (v := (2, 121)) (hz_X12_tastes hT _ _ rfl) rfl rfl ?_
      refine v_getf (v := (0, c)) (r := 121) (hz_X12_tastes hT _ _ rfl) rfl rfl (fun _ => Eq.trans (zset_ne (fun c => absurd c.1 (by decide))) (e35)) ?_
      refine v_ast (r := 133) (hz_X12_tastes hT _ _ rfl) rfl rfl (fun ha25 hb26 hf27 => ?_)
      refine v_load (v := (2, 121)) (hz_X12_tastes hT _ _ rfl) rfl rfl ?_
      refine v_getR (c := 133) (r := 121) (hz_X12_tastes hT _ _ rfl) rfl rfl rfl ?_
      refine v_push (2) (hz_X12_tastes hT _ _ rfl) rfl ?_
      refine v_load (v := (0, f)) (hz_X12_tastes hT _ _ rfl) rfl rfl ?_
      refine v_ast (r := 133) (hz_X12_tastes hT _ _ rfl) rfl rfl (fun ha28 hb29 hf30 => ?_)
      refine v_load (v := (2, 121)) (hz_X12_tastes hT _ _ rfl) rfl rfl ?_
      refine v_getR (c := 133) (r := 121) (hz_X12_tastes hT _ _ rfl) rfl rfl rfl ?_
      refine v_push (3) (hz_X12_tastes hT _ _ rfl) rfl ?_
      refine v_load (v := (0, s)) (hz_X12_tastes hT _ _ rfl) rfl rfl ?_
      refine v_ast (r := 133) (hz_X12_tastes hT _ _ rfl) rfl rfl (fun ha31 hb32 hf33 => ?_)
      refine v_ret0 (hz_X12_tastes hT _ _ rfl) ?_
      exact k3 hc3 hc6
theorem qs_sup0 {D : zD} {T : zT} (hT : hTab T) (hO : vOK T) {N : Nat} {h : zH} {Q : zR → Prop} {P : PT} (x y z : Int) (hv0 : zHv h) (p0 : h 126 0 = (0, P 0 0)) (p1 : h 126 1 = (0, P 0 1)) (p2 : h 126 2 = (0, P 0 2)) (p3 : h 126 3 = (0, P 0 3)) (lb : (0 ≤ P 0 0 ∧ P 0 0 ≤ 8) ∧ (0 ≤ P 0 1 ∧ P 0 1 ≤ 6) ∧ (0 ≤ P 0 2 ∧ P 0 2 ≤ 3) ∧ (0 ≤ P 0 3 ∧ P 0 3 ≤ 6))
    (k0 : (x < 0) → Q (zset (zset (zset h 121 1 (0, 0)) 121 0 (0, 0)) 121 0 (0, 2), some (0, -1)))
    (k1 : (0 ≤ x) → (((P 0 2) - 1) < x) → Q (zset (zset (zset h 121 1 (0, 0)) 121 0 (0, 0)) 121 0 (0, 2), some (0, -1)))
    (k2 : (0 ≤ x) → (x ≤ ((P 0 2) - 1)) → (y < 1) → Q (zset (zset (zset h 121 1 (0, 0)) 121 0 (0, 0)) 121 0 (0, 5), some (0, -1)))
    (k3 : (0 ≤ x) → (x ≤ ((P 0 2) - 1)) → (1 ≤ y) → (2 < y) → Q (zset (zset (zset h 121 1 (0, 0)) 121 0 (0, 0)) 121 0 (0, 5), some (0, -1)))
    (k4 : (0 ≤ x) → (x ≤ ((P 0 2) - 1)) → (1 ≤ y) → (y ≤ 2) → (z < 0) → Q (zset (zset (zset h 121 1 (0, 0)) 121 0 (0, 0)) 121 0 (0, 5), some (0, -1)))
    (k5 : (0 ≤ x) → (x ≤ ((P 0 2) - 1)) → (1 ≤ y) → (y ≤ 2) → (0 ≤ z) → (3 < z) → Q (zset (zset (zset h 121 1 (0, 0)) 121 0 (0, 0)) 121 0 (0, 5), some (0, -1)))
    (k6 : (0 ≤ x) → (x ≤ ((P 0 2) - 1)) → (1 ≤ y) → (y ≤ 2) → (0 ≤ z) → (z ≤ 3) → vP D T N 321 54 (zset (zset h 121 1 (0, 0)) 121 0 (0, 0)) [some (2, 121), some (0, x), some (0, y), some (0, z), none, none, none, none] [] Q) :
    vP D T N 321 0 h [some (2, 121), some (0, x), some (0, y), some (0, z), none, none, none, none] [] Q := by
  refine v_load (v := (2, 121)) (hz_X12_supper hT _ _ rfl) rfl rfl ?_
  refine v_push (0) (hz_X12_supper hT _ _ rfl) rfl ?_
  refine v_putf (r := 121) hO (hz_X12_supper hT _ _ rfl) rfl (fun hf1 => ?_)
  refine v_load (v := (2, 121)) (hz_X12_supper hT _ _ rfl) rfl rfl ?_
  refine v_push (0) (hz_X12_supper hT _ _ rfl) rfl ?_
  refine v_putf (r := 121) hO (hz_X12_supper hT _ _ rfl) rfl (fun hf2 => ?_)
  refine v_load (v := (2, 121)) (hz_X12_supper hT _ _ rfl) rfl rfl ?_
  refine v_load (v := (0, x)) (hz_X12_supper hT _ _ rfl) rfl rfl ?_
  refine v_call (w := 2) [some (2, 121), some (0, x)] hO (hz_X12_supper hT _ _ rfl) rfl rfl ?_
  refine v_load (v := (0, x)) (hz_X12_isCopy hT _ _ rfl) rfl rfl ?_
  refine v_i2l (hz_X12_isCopy hT _ _ rfl) ?_
  refine v_push (0) (hz_X12_isCopy hT _ _ rfl) rfl ?_
  refine v_load (v := (2, 121)) (hz_X12_isCopy hT _ _ rfl) rfl rfl ?_
  refine v_getR (c := 126) (r := 121) (hz_X12_isCopy hT _ _ rfl) rfl rfl rfl ?_
  refine v_push (2) (hz_X12_isCopy hT _ _ rfl) rfl ?_
  refine v_aldV (v := (0, (P 0 2))) (r := 126) (hz_X12_isCopy hT _ _ rfl) rfl rfl (fun _ _ _ => (Eq.trans (Eq.trans (zset_ne (fun c => absurd c.1 (by decide))) (zset_ne (fun c => absurd c.1 (by decide)))) (p2))) (fun ha3 hb4 => ?_)
  refine v_push (1) (hz_X12_isCopy hT _ _ rfl) rfl ?_
  refine v_bin (w := ((P 0 2) - 1)) (hz_X12_isCopy hT _ _ rfl) (hq_sub (by omega) (by omega)) ?_
  refine v_i2l (hz_X12_isCopy hT _ _ rfl) ?_
  refine v_call (w := 6) [some (1, x), none, some (1, 0), none, some (1, ((P 0 2) - 1)), none] hO (hz_X12_isCopy hT _ _ rfl) rfl rfl ?_
  refine v_load (v := (1, x)) (hz_X12_isIn hT _ _ rfl) rfl rfl ?_
  refine v_load (v := (1, 0)) (hz_X12_isIn hT _ _ rfl) rfl rfl ?_
  refine v_lif (hz_X12_isIn hT _ _ rfl) (hz_X12_isIn hT _ _ rfl) (fun hc5 => ?_) (fun hc5 => ?_)
  · have hc5 : x < 0 := hc5
    refine v_push (0) (hz_X12_isIn hT _ _ rfl) rfl ?_
    refine v_ret (hz_X12_isIn hT _ _ rfl) (Or.inl rfl) ?_
    show vP D T N 248 15 (zset (zset h 121 1 (0, 0)) 121 0 (0, 0)) [some (2, 121), some (0, x)] [(0, 0)] _
    refine v_ret (hz_X12_isCopy hT _ _ rfl) (Or.inl rfl) ?_
    show vP D T N 321 15 (zset (zset h 121 1 (0, 0)) 121 0 (0, 0)) [some (2, 121), some (0, x), some (0, y), some (0, z), none, none, none, none] [(0, 0)] _
    refine v_if (hz_X12_supper hT _ _ rfl) (fun _ => ?_) (fun hc6 => absurd (show (0 : Int) = 0 from (by omega)) hc6)
    refine v_load (v := (2, 121)) (hz_X12_supper hT _ _ rfl) rfl rfl ?_
    refine v_push (2) (hz_X12_supper hT _ _ rfl) rfl ?_
    refine v_call (w := 2) [some (2, 121), some (0, 2)] hO (hz_X12_supper hT _ _ rfl) rfl rfl ?_
    refine v_load (v := (2, 121)) (hz_X12_refuse hT _ _ rfl) rfl rfl ?_
    refine v_load (v := (0, 2)) (hz_X12_refuse hT _ _ rfl) rfl rfl ?_
    refine v_putf (r := 121) hO (hz_X12_refuse hT _ _ rfl) rfl (fun hf7 => ?_)
    refine v_push (-1) (hz_X12_refuse hT _ _ rfl) rfl ?_
    refine v_ret (hz_X12_refuse hT _ _ rfl) (Or.inl rfl) ?_
    show vP D T N 321 23 (zset (zset (zset h 121 1 (0, 0)) 121 0 (0, 0)) 121 0 (0, 2)) [some (2, 121), some (0, x), some (0, y), some (0, z), none, none, none, none] [(0, -1)] _
    refine v_ret (hz_X12_supper hT _ _ rfl) (Or.inl rfl) ?_
    exact k0 hc5
  · have hc5 : 0 ≤ x := Int.not_lt.mp hc5
    refine v_load (v := (1, x)) (hz_X12_isIn hT _ _ rfl) rfl rfl ?_
    refine v_load (v := (1, ((P 0 2) - 1))) (hz_X12_isIn hT _ _ rfl) rfl rfl ?_
    refine v_lif (hz_X12_isIn hT _ _ rfl) (hz_X12_isIn hT _ _ rfl) (fun hc8 => ?_) (fun hc8 => ?_)
    · have hc8 : ((P 0 2) - 1) < x := hc8
      refine v_push (0) (hz_X12_isIn hT _ _ rfl) rfl ?_
      refine v_ret (hz_X12_isIn hT _ _ rfl) (Or.inl rfl) ?_
      show vP D T N 248 15 (zset (zset h 121 1 (0, 0)) 121 0 (0, 0)) [some (2, 121), some (0, x)] [(0, 0)] _
      refine v_ret (hz_X12_isCopy hT _ _ rfl) (Or.inl rfl) ?_
      show vP D T N 321 15 (zset (zset h 121 1 (0, 0)) 121 0 (0, 0)) [some (2, 121), some (0, x), some (0, y), some (0, z), none, none, none, none] [(0, 0)] _
      refine v_if (hz_X12_supper hT _ _ rfl) (fun _ => ?_) (fun hc9 => absurd (show (0 : Int) = 0 from (by omega)) hc9)
      refine v_load (v := (2, 121)) (hz_X12_supper hT _ _ rfl) rfl rfl ?_
      refine v_push (2) (hz_X12_supper hT _ _ rfl) rfl ?_
      refine v_call (w := 2) [some (2, 121), some (0, 2)] hO (hz_X12_supper hT _ _ rfl) rfl rfl ?_
      refine v_load (v := (2, 121)) (hz_X12_refuse hT _ _ rfl) rfl rfl ?_
      refine v_load (v := (0, 2)) (hz_X12_refuse hT _ _ rfl) rfl rfl ?_
      refine v_putf (r := 121) hO (hz_X12_refuse hT _ _ rfl) rfl (fun hf10 => ?_)
      refine v_push (-1) (hz_X12_refuse hT _ _ rfl) rfl ?_
      refine v_ret (hz_X12_refuse hT _ _ rfl) (Or.inl rfl) ?_
      show vP D T N 321 23 (zset (zset (zset h 121 1 (0, 0)) 121 0 (0, 0)) 121 0 (0, 2)) [some (2, 121), some (0, x), some (0, y), some (0, z), none, none, none, none] [(0, -1)] _
      refine v_ret (hz_X12_supper hT _ _ rfl) (Or.inl rfl) ?_
      exact k1 hc5 hc8
    · have hc8 : x ≤ ((P 0 2) - 1) := Int.not_lt.mp hc8
      refine v_push (1) (hz_X12_isIn hT _ _ rfl) rfl ?_
      refine v_goto (hz_X12_isIn hT _ _ rfl) ?_
      refine v_ret (hz_X12_isIn hT _ _ rfl) (Or.inl rfl) ?_
      show vP D T N 248 15 (zset (zset h 121 1 (0, 0)) 121 0 (0, 0)) [some (2, 121), some (0, x)] [(0, 1)] _
      refine v_ret (hz_X12_isCopy hT _ _ rfl) (Or.inl rfl) ?_
      show vP D T N 321 15 (zset (zset h 121 1 (0, 0)) 121 0 (0, 0)) [some (2, 121), some (0, x), some (0, y), some (0, z), none, none, none, none] [(0, 1)] _
      refine v_if (hz_X12_supper hT _ _ rfl) (fun hc11 => absurd (show (1 : Int) = 0 from hc11) (by omega)) (fun _ => ?_)
      refine v_load (v := (0, y)) (hz_X12_supper hT _ _ rfl) rfl rfl ?_
      refine v_i2l (hz_X12_supper hT _ _ rfl) ?_
      refine v_push (1) (hz_X12_supper hT _ _ rfl) rfl ?_
      refine v_push (2) (hz_X12_supper hT _ _ rfl) rfl ?_
      refine v_call (w := 6) [some (1, y), none, some (1, 1), none, some (1, 2), none] hO (hz_X12_supper hT _ _ rfl) rfl rfl ?_
      refine v_load (v := (1, y)) (hz_X12_isIn hT _ _ rfl) rfl rfl ?_
      refine v_load (v := (1, 1)) (hz_X12_isIn hT _ _ rfl) rfl rfl ?_
      refine v_lif (hz_X12_isIn hT _ _ rfl) (hz_X12_isIn hT _ _ rfl) (fun hc12 => ?_) (fun hc12 => ?_)
      · have hc12 : y < 1 := hc12
        refine v_push (0) (hz_X12_isIn hT _ _ rfl) rfl ?_
        refine v_ret (hz_X12_isIn hT _ _ rfl) (Or.inl rfl) ?_
        show vP D T N 321 33 (zset (zset h 121 1 (0, 0)) 121 0 (0, 0)) [some (2, 121), some (0, x), some (0, y), some (0, z), none, none, none, none] [(0, 0)] _
        refine v_if (hz_X12_supper hT _ _ rfl) (fun _ => ?_) (fun hc13 => absurd (show (0 : Int) = 0 from (by omega)) hc13)
        refine v_load (v := (2, 121)) (hz_X12_supper hT _ _ rfl) rfl rfl ?_
        refine v_push (5) (hz_X12_supper hT _ _ rfl) rfl ?_
        refine v_call (w := 2) [some (2, 121), some (0, 5)] hO (hz_X12_supper hT _ _ rfl) rfl rfl ?_
        refine v_load (v := (2, 121)) (hz_X12_refuse hT _ _ rfl) rfl rfl ?_
        refine v_load (v := (0, 5)) (hz_X12_refuse hT _ _ rfl) rfl rfl ?_
        refine v_putf (r := 121) hO (hz_X12_refuse hT _ _ rfl) rfl (fun hf14 => ?_)
        refine v_push (-1) (hz_X12_refuse hT _ _ rfl) rfl ?_
        refine v_ret (hz_X12_refuse hT _ _ rfl) (Or.inl rfl) ?_
        show vP D T N 321 53 (zset (zset (zset h 121 1 (0, 0)) 121 0 (0, 0)) 121 0 (0, 5)) [some (2, 121), some (0, x), some (0, y), some (0, z), none, none, none, none] [(0, -1)] _
        refine v_ret (hz_X12_supper hT _ _ rfl) (Or.inl rfl) ?_
        exact k2 hc5 hc8 hc12
      · have hc12 : 1 ≤ y := Int.not_lt.mp hc12
        refine v_load (v := (1, y)) (hz_X12_isIn hT _ _ rfl) rfl rfl ?_
        refine v_load (v := (1, 2)) (hz_X12_isIn hT _ _ rfl) rfl rfl ?_
        refine v_lif (hz_X12_isIn hT _ _ rfl) (hz_X12_isIn hT _ _ rfl) (fun hc15 => ?_) (fun hc15 => ?_)
        · have hc15 : 2 < y := hc15
          refine v_push (0) (hz_X12_isIn hT _ _ rfl) rfl ?_
          refine v_ret (hz_X12_isIn hT _ _ rfl) (Or.inl rfl) ?_
          show vP D T N 321 33 (zset (zset h 121 1 (0, 0)) 121 0 (0, 0)) [some (2, 121), some (0, x), some (0, y), some (0, z), none, none, none, none] [(0, 0)] _
          refine v_if (hz_X12_supper hT _ _ rfl) (fun _ => ?_) (fun hc16 => absurd (show (0 : Int) = 0 from (by omega)) hc16)
          refine v_load (v := (2, 121)) (hz_X12_supper hT _ _ rfl) rfl rfl ?_
          refine v_push (5) (hz_X12_supper hT _ _ rfl) rfl ?_
          refine v_call (w := 2) [some (2, 121), some (0, 5)] hO (hz_X12_supper hT _ _ rfl) rfl rfl ?_
          refine v_load (v := (2, 121)) (hz_X12_refuse hT _ _ rfl) rfl rfl ?_
          refine v_load (v := (0, 5)) (hz_X12_refuse hT _ _ rfl) rfl rfl ?_
          refine v_putf (r := 121) hO (hz_X12_refuse hT _ _ rfl) rfl (fun hf17 => ?_)
          refine v_push (-1) (hz_X12_refuse hT _ _ rfl) rfl ?_
          refine v_ret (hz_X12_refuse hT _ _ rfl) (Or.inl rfl) ?_
          show vP D T N 321 53 (zset (zset (zset h 121 1 (0, 0)) 121 0 (0, 0)) 121 0 (0, 5)) [some (2, 121), some (0, x), some (0, y), some (0, z), none, none, none, none] [(0, -1)] _
          refine v_ret (hz_X12_supper hT _ _ rfl) (Or.inl rfl) ?_
          exact k3 hc5 hc8 hc12 hc15
        · have hc15 : y ≤ 2 := Int.not_lt.mp hc15
          refine v_push (1) (hz_X12_isIn hT _ _ rfl) rfl ?_
          refine v_goto (hz_X12_isIn hT _ _ rfl) ?_
          refine v_ret (hz_X12_isIn hT _ _ rfl) (Or.inl rfl) ?_
          show vP D T N 321 33 (zset (zset h 121 1 (0, 0)) 121 0 (0, 0)) [some (2, 121), some (0, x), some (0, y), some (0, z), none, none, none, none] [(0, 1)] _
          refine v_if (hz_X12_supper hT _ _ rfl) (fun hc18 => absurd (show (1 : Int) = 0 from hc18) (by omega)) (fun _ => ?_)
          refine v_load (v := (0, z)) (hz_X12_supper hT _ _ rfl) rfl rfl ?_
          refine v_i2l (hz_X12_supper hT _ _ rfl) ?_
          refine v_push (0) (hz_X12_supper hT _ _ rfl) rfl ?_
          refine v_push (3) (hz_X12_supper hT _ _ rfl) rfl ?_
          refine v_call (w := 6) [some (1, z), none, some (1, 0), none, some (1, 3), none] hO (hz_X12_supper hT _ _ rfl) rfl rfl ?_
          refine v_load (v := (1, z)) (hz_X12_isIn hT _ _ rfl) rfl rfl ?_
          refine v_load (v := (1, 0)) (hz_X12_isIn hT _ _ rfl) rfl rfl ?_
          refine v_lif (hz_X12_isIn hT _ _ rfl) (hz_X12_isIn hT _ _ rfl) (fun hc19 => ?_) (fun hc19 => ?_)
          · have hc19 : z < 0 := hc19
            refine v_push (0) (hz_X12_isIn hT _ _ rfl) rfl ?_
            refine v_ret (hz_X12_isIn hT _ _ rfl) (Or.inl rfl) ?_
            show vP D T N 321 45 (zset (zset h 121 1 (0, 0)) 121 0 (0, 0)) [some (2, 121), some (0, x), some (0, y), some (0, z), none, none, none, none] [(0, 0)] _
            refine v_if (hz_X12_supper hT _ _ rfl) (fun _ => ?_) (fun hc20 => absurd (show (0 : Int) = 0 from (by omega)) hc20)
            refine v_load (v := (2, 121)) (hz_X12_supper hT _ _ rfl) rfl rfl ?_
            refine v_push (5) (hz_X12_supper hT _ _ rfl) rfl ?_
            refine v_call (w := 2) [some (2, 121), some (0, 5)] hO (hz_X12_supper hT _ _ rfl) rfl rfl ?_
            refine v_load (v := (2, 121)) (hz_X12_refuse hT _ _ rfl) rfl rfl ?_
            refine v_load (v := (0, 5)) (hz_X12_refuse hT _ _ rfl) rfl rfl ?_
            refine v_putf (r := 121) hO (hz_X12_refuse hT _ _ rfl) rfl (fun hf21 => ?_)
            refine v_push (-1) (hz_X12_refuse hT _ _ rfl) rfl ?_
            refine v_ret (hz_X12_refuse hT _ _ rfl) (Or.inl rfl) ?_
            show vP D T N 321 53 (zset (zset (zset h 121 1 (0, 0)) 121 0 (0, 0)) 121 0 (0, 5)) [some (2, 121), some (0, x), some (0, y), some (0, z), none, none, none, none] [(0, -1)] _
            refine v_ret (hz_X12_supper hT _ _ rfl) (Or.inl rfl) ?_
            exact k4 hc5 hc8 hc12 hc15 hc19
          · have hc19 : 0 ≤ z := Int.not_lt.mp hc19
            refine v_load (v := (1, z)) (hz_X12_isIn hT _ _ rfl) rfl rfl ?_
            refine v_load (v := (1, 3)) (hz_X12_isIn hT _ _ rfl) rfl rfl ?_
            refine v_lif (hz_X12_isIn hT _ _ rfl) (hz_X12_isIn hT _ _ rfl) (fun hc22 => ?_) (fun hc22 => ?_)
            · have hc22 : 3 < z := hc22
              refine v_push (0) (hz_X12_isIn hT _ _ rfl) rfl ?_
              refine v_ret (hz_X12_isIn hT _ _ rfl) (Or.inl rfl) ?_
              show vP D T N 321 45 (zset (zset h 121 1 (0, 0)) 121 0 (0, 0)) [some (2, 121), some (0, x), some (0, y), some (0, z), none, none, none, none] [(0, 0)] _
              refine v_if (hz_X12_supper hT _ _ rfl) (fun _ => ?_) (fun hc23 => absurd (show (0 : Int) = 0 from (by omega)) hc23)
              refine v_load (v := (2, 121)) (hz_X12_supper hT _ _ rfl) rfl rfl ?_
              refine v_push (5) (hz_X12_supper hT _ _ rfl) rfl ?_
              refine v_call (w := 2) [some (2, 121), some (0, 5)] hO (hz_X12_supper hT _ _ rfl) rfl rfl ?_
              refine v_load (v := (2, 121)) (hz_X12_refuse hT _ _ rfl) rfl rfl ?_
              refine v_load (v := (0, 5)) (hz_X12_refuse hT _ _ rfl) rfl rfl ?_
              refine v_putf (r := 121) hO (hz_X12_refuse hT _ _ rfl) rfl (fun hf24 => ?_)
              refine v_push (-1) (hz_X12_refuse hT _ _ rfl) rfl ?_
              refine v_ret (hz_X12_refuse hT _ _ rfl) (Or.inl rfl) ?_
              show vP D T N 321 53 (zset (zset (zset h 121 1 (0, 0)) 121 0 (0, 0)) 121 0 (0, 5)) [some (2, 121), some (0, x), some (0, y), some (0, z), none, none, none, none] [(0, -1)] _
              refine v_ret (hz_X12_supper hT _ _ rfl) (Or.inl rfl) ?_
              exact k5 hc5 hc8 hc12 hc15 hc19 hc22
            · have hc22 : z ≤ 3 := Int.not_lt.mp hc22
              refine v_push (1) (hz_X12_isIn hT _ _ rfl) rfl ?_
              refine v_goto (hz_X12_isIn hT _ _ rfl) ?_
              refine v_ret (hz_X12_isIn hT _ _ rfl) (Or.inl rfl) ?_
              show vP D T N 321 45 (zset (zset h 121 1 (0, 0)) 121 0 (0, 0)) [some (2, 121), some (0, x), some (0, y), some (0, z), none, none, none, none] [(0, 1)] _
              refine v_if (hz_X12_supper hT _ _ rfl) (fun hc25 => absurd (show (1 : Int) = 0 from hc25) (by omega)) (fun _ => ?_)
              exact k6 hc5 hc8 hc12 hc15 hc19 hc22
theorem qs_sup54 {D : zD} {T : zT} (hT : hTab T) (hO : vOK T) {N : Nat} {h : zH} {Q : zR → Prop} {j : Nat} (y z : Int) (hv0 : zHv h)
    (k0 : vP D T N 321 64 (zset h 133 0 (0, -1)) [some (2, 121), some (0, (j : Int)), some (0, y), some (0, z), some (0, 0), none, none, none] [] Q) :
    vP D T N 321 54 h [some (2, 121), some (0, (j : Int)), some (0, y), some (0, z), none, none, none, none] [] Q := by
  refine v_load (v := (2, 121)) (hz_X12_supper hT _ _ rfl) rfl rfl ?_
  refine v_getR (c := 133) (r := 121) (hz_X12_supper hT _ _ rfl) rfl rfl rfl ?_
  refine v_push (0) (hz_X12_supper hT _ _ rfl) rfl ?_
  refine v_push (-1) (hz_X12_supper hT _ _ rfl) rfl ?_
  refine v_ast (r := 133) (hz_X12_supper hT _ _ rfl) rfl rfl (fun ha1 hb2 hf3 => ?_)
  refine v_push (0) (hz_X12_supper hT _ _ rfl) rfl ?_
  refine v_store1 [some (2, 121), some (0, (j : Int)), some (0, y), some (0, z), some (0, 0), none, none, none] (hz_X12_supper hT _ _ rfl) ⟨rfl, Nat.ne_of_beq_eq_false rfl⟩ (Nat.le_of_ble_eq_true rfl) rfl ?_
  exact k0 
theorem qs_sup64 {D : zD} {T : zT} (hT : hTab T) (hO : vOK T) {N : Nat} {h : zH} {Q : zR → Prop} {P : PT} {j q : Nat} (y z : Int) (o5 o6 o7 : Option zV) (hv0 : zHv h) (p0 : h 126 0 = (0, P 0 0)) (p1 : h 126 1 = (0, P 0 1)) (hb : fB P) (gq : gIn P q) (hq : gJ P q < 48) (hj : j < 3) (hlt : ((gJ P q : Nat) : Int) < ((P 0 0) * (P 0 1)))
    (k0 : vP D T N 251 0 h [some (2, 121), some (0, (j : Int)), some (0, ((gJ P q : Nat) : Int))] [] (fun r1 => vP D T N 321 80 r1.1 [some (2, 121), some (0, (j : Int)), some (0, y), some (0, z), some (0, ((gJ P q : Nat) : Int)), o5, o6, o7] (zpush r1.2 []) Q)) :
    vP D T N 321 64 h [some (2, 121), some (0, (j : Int)), some (0, y), some (0, z), some (0, ((gJ P q : Nat) : Int)), o5, o6, o7] [] Q := by
  refine v_load (v := (0, ((gJ P q : Nat) : Int))) (hz_X12_supper hT _ _ rfl) rfl rfl ?_
  refine v_load (v := (2, 121)) (hz_X12_supper hT _ _ rfl) rfl rfl ?_
  refine v_call (w := 1) [some (2, 121)] hO (hz_X12_supper hT _ _ rfl) rfl rfl (rb_cells hT hO p0 p1 hb.1 ?_)
  show vP D T N 321 70 h [some (2, 121), some (0, (j : Int)), some (0, y), some (0, z), some (0, ((gJ P q : Nat) : Int)), o5, o6, o7] [(0, ((P 0 0) * (P 0 1))), (0, ((gJ P q : Nat) : Int))] _
  refine v_ic (hz_X12_supper hT _ _ rfl) (fun _ => ?_) (fun hc1 => absurd (show ((gJ P q : Nat) : Int) < ((P 0 0) * (P 0 1)) from hlt) hc1)
  refine v_load (v := (2, 121)) (hz_X12_supper hT _ _ rfl) rfl rfl ?_
  refine v_load (v := (0, (j : Int))) (hz_X12_supper hT _ _ rfl) rfl rfl ?_
  refine v_load (v := (0, ((gJ P q : Nat) : Int))) (hz_X12_supper hT _ _ rfl) rfl rfl ?_
  refine v_call (w := 3) [some (2, 121), some (0, (j : Int)), some (0, ((gJ P q : Nat) : Int))] hO (hz_X12_supper hT _ _ rfl) rfl rfl ?_
  exact k0 
theorem qs_sup64x {D : zD} {T : zT} (hT : hTab T) (hO : vOK T) {N : Nat} {h : zH} {Q : zR → Prop} {P : PT} {j n : Nat} (y z : Int) (o5 o6 o7 : Option zV) (hv0 : zHv h) (p0 : h 126 0 = (0, P 0 0)) (p1 : h 126 1 = (0, P 0 1)) (hb : fB P) (hge : ((P 0 0) * (P 0 1)) ≤ (n : Int))
    (k0 : vP D T N 321 221 h [some (2, 121), some (0, (j : Int)), some (0, y), some (0, z), some (0, (n : Int)), o5, o6, o7] [] Q) :
    vP D T N 321 64 h [some (2, 121), some (0, (j : Int)), some (0, y), some (0, z), some (0, (n : Int)), o5, o6, o7] [] Q := by
  refine v_load (v := (0, (n : Int))) (hz_X12_supper hT _ _ rfl) rfl rfl ?_
  refine v_load (v := (2, 121)) (hz_X12_supper hT _ _ rfl) rfl rfl ?_
  refine v_call (w := 1) [some (2, 121)] hO (hz_X12_supper hT _ _ rfl) rfl rfl (rb_cells hT hO p0 p1 hb.1 ?_)
  show vP D T N 321 70 h [some (2, 121), some (0, (j : Int)), some (0, y), some (0, z), some (0, (n : Int)), o5, o6, o7] [(0, ((P 0 0) * (P 0 1))), (0, (n : Int))] _
  refine v_ic (hz_X12_supper hT _ _ rfl) (fun hc1 => absurd (show (n : Int) < ((P 0 0) * (P 0 1)) from hc1) (by omega)) (fun _ => ?_)
  exact k0 
theorem qs_sup80n {D : zD} {T : zT} (hT : hTab T) (hO : vOK T) {N : Nat} {h : zH} {Q : zR → Prop} {P : PT} {j q : Nat} (y z : Int) (o5 o6 o7 : Option zV) (hv0 : zHv h) (hq : gJ P q < 48)
    (k0 : vP D T N 321 64 h [some (2, 121), some (0, (j : Int)), some (0, y), some (0, z), some (0, (((gJ P q : Nat) : Int) + 1)), o5, o6, o7] [] Q) :
    vP D T N 321 80 h [some (2, 121), some (0, (j : Int)), some (0, y), some (0, z), some (0, ((gJ P q : Nat) : Int)), o5, o6, o7] [(0, 0)] Q := by
  refine v_if (hz_X12_supper hT _ _ rfl) (fun _ => ?_) (fun hc1 => absurd (show (0 : Int) = 0 from (by omega)) hc1)
  refine v_goto (hz_X12_supper hT _ _ rfl) ?_
  refine v_iinc (x := ((gJ P q : Nat) : Int)) (u := 1) (w := (((gJ P q : Nat) : Int) + 1)) [some (2, 121), some (0, (j : Int)), some (0, y), some (0, z), some (0, (((gJ P q : Nat) : Int) + 1)), o5, o6, o7] (hz_X12_supper hT _ _ rfl) rfl rfl (Nat.le_of_ble_eq_true rfl) (vz_inc (by omega) (by omega)) rfl ?_
  refine v_goto (hz_X12_supper hT _ _ rfl) ?_
  exact k0 
theorem qs_sup80y1 {D : zD} {T : zT} (hT : hTab T) (hO : vOK T) {N : Nat} {h : zH} {Q : zR → Prop} {P : PT} {j q : Nat} (z : Int) (o5 o6 o7 : Option zV) (hv0 : zHv h) (hR : rBk 0 P h) (hb : fB P) (gq : gIn P q) (hq : gJ P q < 48) (hj : j < 3)
    (k0 : (0 ≤ ((101 + (48 * (j : Int))) + ((gJ P q : Nat) : Int))) → (((101 + (48 * (j : Int))) + ((gJ P q : Nat) : Int)) < 2750) → vP D T N 322 0 (zset h 126 ((((101 + (48 * (j : Int))) + ((gJ P q : Nat) : Int))).toNat) (0, 1)) [some (2, 121), some (0, (j : Int)), some (0, ((gJ P q : Nat) : Int)), some (0, -1)] [] (fun r1 => vP D T N 321 120 r1.1 [some (2, 121), some (0, (j : Int)), some (0, 1), some (0, z), some (0, ((gJ P q : Nat) : Int)), some (0, (P 3 (48 * j + q))), o6, o7] (zpush r1.2 []) Q)) :
    vP D T N 321 80 h [some (2, 121), some (0, (j : Int)), some (0, 1), some (0, z), some (0, ((gJ P q : Nat) : Int)), o5, o6, o7] [(0, 1)] Q := by
  refine v_if (hz_X12_supper hT _ _ rfl) (fun hc1 => absurd (show (1 : Int) = 0 from hc1) (by omega)) (fun _ => ?_)
  refine v_load (v := (2, 121)) (hz_X12_supper hT _ _ rfl) rfl rfl ?_
  refine v_load (v := (0, (j : Int))) (hz_X12_supper hT _ _ rfl) rfl rfl ?_
  refine v_load (v := (0, ((gJ P q : Nat) : Int))) (hz_X12_supper hT _ _ rfl) rfl rfl ?_
  refine v_call (w := 3) [some (2, 121), some (0, (j : Int)), some (0, ((gJ P q : Nat) : Int))] hO (hz_X12_supper hT _ _ rfl) rfl rfl (rb_st hT hO ((j : Int)) j q rfl (by omega) gq hR hb ?_)
  show vP D T N 321 93 h [some (2, 121), some (0, (j : Int)), some (0, 1), some (0, z), some (0, ((gJ P q : Nat) : Int)), o5, o6, o7] [(0, (P 3 (48 * j + q)))] _
  refine v_store1 [some (2, 121), some (0, (j : Int)), some (0, 1), some (0, z), some (0, ((gJ P q : Nat) : Int)), some (0, (P 3 (48 * j + q))), o6, o7] (hz_X12_supper hT _ _ rfl) ⟨rfl, Nat.ne_of_beq_eq_false rfl⟩ (Nat.le_of_ble_eq_true rfl) rfl ?_
  refine v_load (v := (2, 121)) (hz_X12_supper hT _ _ rfl) rfl rfl ?_
  refine v_getR (c := 126) (r := 121) (hz_X12_supper hT _ _ rfl) rfl rfl rfl ?_
  refine v_load (v := (0, (j : Int))) (hz_X12_supper hT _ _ rfl) rfl rfl ?_
  refine v_load (v := (0, ((gJ P q : Nat) : Int))) (hz_X12_supper hT _ _ rfl) rfl rfl ?_
  refine v_call (w := 2) [some (0, (j : Int)), some (0, ((gJ P q : Nat) : Int))] hO (hz_X12_supper hT _ _ rfl) rfl rfl ?_
  refine v_push (101) (hz_X12_state hT _ _ rfl) rfl ?_
  refine v_push (48) (hz_X12_state hT _ _ rfl) rfl ?_
  refine v_load (v := (0, (j : Int))) (hz_X12_state hT _ _ rfl) rfl rfl ?_
  refine v_bin (w := (48 * (j : Int))) (hz_X12_state hT _ _ rfl) (hq_mul (by omega) (by omega)) ?_
  refine v_bin (w := (101 + (48 * (j : Int)))) (hz_X12_state hT _ _ rfl) (hq_add (by omega) (by omega)) ?_
  refine v_load (v := (0, ((gJ P q : Nat) : Int))) (hz_X12_state hT _ _ rfl) rfl rfl ?_
  refine v_bin (w := ((101 + (48 * (j : Int))) + ((gJ P q : Nat) : Int))) (hz_X12_state hT _ _ rfl) (hq_add (by omega) (by omega)) ?_
  refine v_ret (hz_X12_state hT _ _ rfl) (Or.inl rfl) ?_
  show vP D T N 321 105 h [some (2, 121), some (0, (j : Int)), some (0, 1), some (0, z), some (0, ((gJ P q : Nat) : Int)), some (0, (P 3 (48 * j + q))), o6, o7] [(0, ((101 + (48 * (j : Int))) + ((gJ P q : Nat) : Int))), (2, 126)] _
  refine v_push (1) (hz_X12_supper hT _ _ rfl) rfl ?_
  refine v_ast (r := 126) (hz_X12_supper hT _ _ rfl) rfl rfl (fun ha2 hb3 hf4 => ?_)
  refine v_load (v := (0, 1)) (hz_X12_supper hT _ _ rfl) rfl rfl ?_
  refine v_push (1) (hz_X12_supper hT _ _ rfl) rfl ?_
  refine v_ic (hz_X12_supper hT _ _ rfl) (fun _ => ?_) (fun hc5 => absurd (show (1 : Int) = 1 from (by omega)) hc5)
  refine v_load (v := (2, 121)) (hz_X12_supper hT _ _ rfl) rfl rfl ?_
  refine v_load (v := (0, (j : Int))) (hz_X12_supper hT _ _ rfl) rfl rfl ?_
  refine v_load (v := (0, ((gJ P q : Nat) : Int))) (hz_X12_supper hT _ _ rfl) rfl rfl ?_
  refine v_push (-1) (hz_X12_supper hT _ _ rfl) rfl ?_
  refine v_call (w := 4) [some (2, 121), some (0, (j : Int)), some (0, ((gJ P q : Nat) : Int)), some (0, -1)] hO (hz_X12_supper hT _ _ rfl) rfl rfl ?_
  exact k0 ha2 hb3
theorem qs_sup120_1 {D : zD} {T : zT} (hT : hTab T) (hO : vOK T) {N : Nat} {h : zH} {Q : zR → Prop} {P : PT} {j q : Nat} (z w : Int) (o6 o7 : Option zV) (hv0 : zHv h) (hq : gJ P q < 48)
    (k0 : vP D T N 321 126 h [some (2, 121), some (0, (j : Int)), some (0, 1), some (0, z), some (0, ((gJ P q : Nat) : Int)), some (0, w), some (0, (((gJ P q : Nat) : Int) + 1)), o7] [] Q) :
    vP D T N 321 120 h [some (2, 121), some (0, (j : Int)), some (0, 1), some (0, z), some (0, ((gJ P q : Nat) : Int)), some (0, w), o6, o7] [] Q := by
  refine v_load (v := (0, ((gJ P q : Nat) : Int))) (hz_X12_supper hT _ _ rfl) rfl rfl ?_
  refine v_push (1) (hz_X12_supper hT _ _ rfl) rfl ?_
  refine v_bin (w := (((gJ P q : Nat) : Int) + 1)) (hz_X12_supper hT _ _ rfl) (hq_add (by omega) (by omega)) ?_
  refine v_store1 [some (2, 121), some (0, (j : Int)), some (0, 1), some (0, z), some (0, ((gJ P q : Nat) : Int)), some (0, w), some (0, (((gJ P q : Nat) : Int) + 1)), o7] (hz_X12_supper hT _ _ rfl) ⟨rfl, Nat.ne_of_beq_eq_false rfl⟩ (Nat.le_of_ble_eq_true rfl) rfl ?_
  exact k0 
theorem qs_sup80y2 {D : zD} {T : zT} (hT : hTab T) (hO : vOK T) {N : Nat} {h : zH} {Q : zR → Prop} {P : PT} {j q : Nat} (z : Int) (o5 o6 o7 : Option zV) (hv0 : zHv h) (hR : rBk 0 P h) (hb : fB P) (gq : gIn P q) (hq : gJ P q < 48) (hj : j < 3)
    (k0 : (0 ≤ ((101 + (48 * (j : Int))) + ((gJ P q : Nat) : Int))) → (((101 + (48 * (j : Int))) + ((gJ P q : Nat) : Int)) < 2750) → vP D T N 321 126 (zset h 126 ((((101 + (48 * (j : Int))) + ((gJ P q : Nat) : Int))).toNat) (0, 1)) [some (2, 121), some (0, (j : Int)), some (0, 2), some (0, z), some (0, ((gJ P q : Nat) : Int)), some (0, (P 3 (48 * j + q))), some (0, (((gJ P q : Nat) : Int) + 1)), o7] [] Q) :
    vP D T N 321 80 h [some (2, 121), some (0, (j : Int)), some (0, 2), some (0, z), some (0, ((gJ P q : Nat) : Int)), o5, o6, o7] [(0, 1)] Q := by
  refine v_if (hz_X12_supper hT _ _ rfl) (fun hc1 => absurd (show (1 : Int) = 0 from hc1) (by omega)) (fun _ => ?_)
  refine v_load (v := (2, 121)) (hz_X12_supper hT _ _ rfl) rfl rfl ?_
  refine v_load (v := (0, (j : Int))) (hz_X12_supper hT _ _ rfl) rfl rfl ?_
  refine v_load (v := (0, ((gJ P q : Nat) : Int))) (hz_X12_supper hT _ _ rfl) rfl rfl ?_
  refine v_call (w := 3) [some (2, 121), some (0, (j : Int)), some (0, ((gJ P q : Nat) : Int))] hO (hz_X12_supper hT _ _ rfl) rfl rfl (rb_st hT hO ((j : Int)) j q rfl (by omega) gq hR hb ?_)
  show vP D T N 321 93 h [some (2, 121), some (0, (j : Int)), some (0, 2), some (0, z), some (0, ((gJ P q : Nat) : Int)), o5, o6, o7] [(0, (P 3 (48 * j + q)))] _
  refine v_store1 [some (2, 121), some (0, (j : Int)), some (0, 2), some (0, z), some (0, ((gJ P q : Nat) : Int)), some (0, (P 3 (48 * j + q))), o6, o7] (hz_X12_supper hT _ _ rfl) ⟨rfl, Nat.ne_of_beq_eq_false rfl⟩ (Nat.le_of_ble_eq_true rfl) rfl ?_
  refine v_load (v := (2, 121)) (hz_X12_supper hT _ _ rfl) rfl rfl ?_
  refine v_getR (c := 126) (r := 121) (hz_X12_supper hT _ _ rfl) rfl rfl rfl ?_
  refine v_load (v := (0, (j : Int))) (hz_X12_supper hT _ _ rfl) rfl rfl ?_
  refine v_load (v := (0, ((gJ P q : Nat) : Int))) (hz_X12_supper hT _ _ rfl) rfl rfl ?_
  refine v_call (w := 2) [some (0, (j : Int)), some (0, ((gJ P q : Nat) : Int))] hO (hz_X12_supper hT _ _ rfl) rfl rfl ?_
  refine v_push (101) (hz_X12_state hT _ _ rfl) rfl ?_
  refine v_push (48) (hz_X12_state hT _ _ rfl) rfl ?_
  refine v_load (v := (0, (j : Int))) (hz_X12_state hT _ _ rfl) rfl rfl ?_
  refine v_bin (w := (48 * (j : Int))) (hz_X12_state hT _ _ rfl) (hq_mul (by omega) (by omega)) ?_
  refine v_bin (w := (101 + (48 * (j : Int)))) (hz_X12_state hT _ _ rfl) (hq_add (by omega) (by omega)) ?_
  refine v_load (v := (0, ((gJ P q : Nat) : Int))) (hz_X12_state hT _ _ rfl) rfl rfl ?_
  refine v_bin (w := ((101 + (48 * (j : Int))) + ((gJ P q : Nat) : Int))) (hz_X12_state hT _ _ rfl) (hq_add (by omega) (by omega)) ?_
  refine v_ret (hz_X12_state hT _ _ rfl) (Or.inl rfl) ?_
  show vP D T N 321 105 h [some (2, 121), some (0, (j : Int)), some (0, 2), some (0, z), some (0, ((gJ P q : Nat) : Int)), some (0, (P 3 (48 * j + q))), o6, o7] [(0, ((101 + (48 * (j : Int))) + ((gJ P q : Nat) : Int))), (2, 126)] _
  refine v_push (1) (hz_X12_supper hT _ _ rfl) rfl ?_
  refine v_ast (r := 126) (hz_X12_supper hT _ _ rfl) rfl rfl (fun ha2 hb3 hf4 => ?_)
  refine v_load (v := (0, 2)) (hz_X12_supper hT _ _ rfl) rfl rfl ?_
  refine v_push (1) (hz_X12_supper hT _ _ rfl) rfl ?_
  refine v_ic (hz_X12_supper hT _ _ rfl) (fun hc5 => absurd (show (2 : Int) = 1 from hc5) (by omega)) (fun _ => ?_)
  refine v_load (v := (0, ((gJ P q : Nat) : Int))) (hz_X12_supper hT _ _ rfl) rfl rfl ?_
  refine v_push (1) (hz_X12_supper hT _ _ rfl) rfl ?_
  refine v_bin (w := (((gJ P q : Nat) : Int) + 1)) (hz_X12_supper hT _ _ rfl) (hq_add (by omega) (by omega)) ?_
  refine v_store1 [some (2, 121), some (0, (j : Int)), some (0, 2), some (0, z), some (0, ((gJ P q : Nat) : Int)), some (0, (P 3 (48 * j + q))), some (0, (((gJ P q : Nat) : Int) + 1)), o7] (hz_X12_supper hT _ _ rfl) ⟨rfl, Nat.ne_of_beq_eq_false rfl⟩ (Nat.le_of_ble_eq_true rfl) rfl ?_
  exact k0 ha2 hb3
theorem qs_sup120_2 {D : zD} {T : zT} (hT : hTab T) (hO : vOK T) {N : Nat} {h : zH} {Q : zR → Prop} {P : PT} {j q : Nat} (z w : Int) (o6 o7 : Option zV) (hv0 : zHv h) (hq : gJ P q < 48)
    (k0 : vP D T N 321 126 h [some (2, 121), some (0, (j : Int)), some (0, 2), some (0, z), some (0, ((gJ P q : Nat) : Int)), some (0, w), some (0, (((gJ P q : Nat) : Int) + 1)), o7] [] Q) :
    vP D T N 321 120 h [some (2, 121), some (0, (j : Int)), some (0, 2), some (0, z), some (0, ((gJ P q : Nat) : Int)), some (0, w), o6, o7] [] Q := by
  refine v_load (v := (0, ((gJ P q : Nat) : Int))) (hz_X12_supper hT _ _ rfl) rfl rfl ?_
  refine v_push (1) (hz_X12_supper hT _ _ rfl) rfl ?_
  refine v_bin (w := (((gJ P q : Nat) : Int) + 1)) (hz_X12_supper hT _ _ rfl) (hq_add (by omega) (by omega)) ?_
  refine v_store1 [some (2, 121), some (0, (j : Int)), some (0, 2), some (0, z), some (0, ((gJ P q : Nat) : Int)), some (0, w), some (0, (((gJ P q : Nat) : Int) + 1)), o7] (hz_X12_supper hT _ _ rfl) ⟨rfl, Nat.ne_of_beq_eq_false rfl⟩ (Nat.le_of_ble_eq_true rfl) rfl ?_
  exact k0 
theorem qs_sup126e {D : zD} {T : zT} (hT : hTab T) (hO : vOK T) {N : Nat} {h : zH} {Q : zR → Prop} {P : PT} {j a n : Nat} (z w : Int) (o7 : Option zV) (hv0 : zHv h) (p0 : h 126 0 = (0, P 0 0)) (p1 : h 126 1 = (0, P 0 1)) (hb : fB P)
    (k0 : ((n : Int) < ((P 0 0) * (P 0 1))) → vP D T N 321 202 h [some (2, 121), some (0, (j : Int)), some (0, 1), some (0, z), some (0, ((gJ P a : Nat) : Int)), some (0, w), some (0, (n : Int)), o7] [] Q)
    (k1 : (((P 0 0) * (P 0 1)) ≤ (n : Int)) → vP D T N 321 202 h [some (2, 121), some (0, (j : Int)), some (0, 1), some (0, z), some (0, ((gJ P a : Nat) : Int)), some (0, w), some (0, (n : Int)), o7] [] Q) :
    vP D T N 321 126 h [some (2, 121), some (0, (j : Int)), some (0, 1), some (0, z), some (0, ((gJ P a : Nat) : Int)), some (0, w), some (0, (n : Int)), o7] [] Q := by
  refine v_load (v := (0, (n : Int))) (hz_X12_supper hT _ _ rfl) rfl rfl ?_
  refine v_load (v := (2, 121)) (hz_X12_supper hT _ _ rfl) rfl rfl ?_
  refine v_call (w := 1) [some (2, 121)] hO (hz_X12_supper hT _ _ rfl) rfl rfl (rb_cells hT hO p0 p1 hb.1 ?_)
  show vP D T N 321 132 h [some (2, 121), some (0, (j : Int)), some (0, 1), some (0, z), some (0, ((gJ P a : Nat) : Int)), some (0, w), some (0, (n : Int)), o7] [(0, ((P 0 0) * (P 0 1))), (0, (n : Int))] _
  refine v_ic (hz_X12_supper hT _ _ rfl) (fun hc1 => ?_) (fun hc1 => ?_)
  · have hc1 : (n : Int) < ((P 0 0) * (P 0 1)) := hc1
    refine v_load (v := (0, 1)) (hz_X12_supper hT _ _ rfl) rfl rfl ?_
    refine v_push (2) (hz_X12_supper hT _ _ rfl) rfl ?_
    refine v_ic (hz_X12_supper hT _ _ rfl) (fun hc2 => absurd (show (1 : Int) = 2 from hc2) (by omega)) (fun _ => ?_)
    exact k0 hc1
  · have hc1 : ((P 0 0) * (P 0 1)) ≤ (n : Int) := Int.not_lt.mp hc1
    exact k1 hc1
theorem qs_sup126 {D : zD} {T : zT} (hT : hTab T) (hO : vOK T) {N : Nat} {h : zH} {Q : zR → Prop} {P : PT} {j a q : Nat} (z w : Int) (o7 : Option zV) (hv0 : zHv h) (p0 : h 126 0 = (0, P 0 0)) (p1 : h 126 1 = (0, P 0 1)) (hb : fB P) (gq : gIn P q) (hq : gJ P q < 48) (hj : j < 3) (hlt : ((gJ P q : Nat) : Int) < ((P 0 0) * (P 0 1)))
    (k0 : vP D T N 251 0 h [some (2, 121), some (0, (j : Int)), some (0, ((gJ P q : Nat) : Int))] [] (fun r1 => vP D T N 321 147 r1.1 [some (2, 121), some (0, (j : Int)), some (0, 2), some (0, z), some (0, ((gJ P a : Nat) : Int)), some (0, w), some (0, ((gJ P q : Nat) : Int)), o7] (zpush r1.2 []) Q)) :
    vP D T N 321 126 h [some (2, 121), some (0, (j : Int)), some (0, 2), some (0, z), some (0, ((gJ P a : Nat) : Int)), some (0, w), some (0, ((gJ P q : Nat) : Int)), o7] [] Q := by
  refine v_load (v := (0, ((gJ P q : Nat) : Int))) (hz_X12_supper hT _ _ rfl) rfl rfl ?_
  refine v_load (v := (2, 121)) (hz_X12_supper hT _ _ rfl) rfl rfl ?_
  refine v_call (w := 1) [some (2, 121)] hO (hz_X12_supper hT _ _ rfl) rfl rfl (rb_cells hT hO p0 p1 hb.1 ?_)
  show vP D T N 321 132 h [some (2, 121), some (0, (j : Int)), some (0, 2), some (0, z), some (0, ((gJ P a : Nat) : Int)), some (0, w), some (0, ((gJ P q : Nat) : Int)), o7] [(0, ((P 0 0) * (P 0 1))), (0, ((gJ P q : Nat) : Int))] _
  refine v_ic (hz_X12_supper hT _ _ rfl) (fun _ => ?_) (fun hc1 => absurd (show ((gJ P q : Nat) : Int) < ((P 0 0) * (P 0 1)) from hlt) hc1)
  refine v_load (v := (0, 2)) (hz_X12_supper hT _ _ rfl) rfl rfl ?_
  refine v_push (2) (hz_X12_supper hT _ _ rfl) rfl ?_
  refine v_ic (hz_X12_supper hT _ _ rfl) (fun _ => ?_) (fun hc2 => absurd (show (2 : Int) = 2 from (by omega)) hc2)
  refine v_load (v := (2, 121)) (hz_X12_supper hT _ _ rfl) rfl rfl ?_
  refine v_load (v := (0, (j : Int))) (hz_X12_supper hT _ _ rfl) rfl rfl ?_
  refine v_load (v := (0, ((gJ P q : Nat) : Int))) (hz_X12_supper hT _ _ rfl) rfl rfl ?_
  refine v_call (w := 3) [some (2, 121), some (0, (j : Int)), some (0, ((gJ P q : Nat) : Int))] hO (hz_X12_supper hT _ _ rfl) rfl rfl ?_
  exact k0 
theorem qs_sup126x {D : zD} {T : zT} (hT : hTab T) (hO : vOK T) {N : Nat} {h : zH} {Q : zR → Prop} {P : PT} {j a n : Nat} (z w : Int) (o7 : Option zV) (hv0 : zHv h) (p0 : h 126 0 = (0, P 0 0)) (p1 : h 126 1 = (0, P 0 1)) (hb : fB P) (hge : ((P 0 0) * (P 0 1)) ≤ (n : Int))
    (k0 : vP D T N 321 202 h [some (2, 121), some (0, (j : Int)), some (0, 2), some (0, z), some (0, ((gJ P a : Nat) : Int)), some (0, w), some (0, (n : Int)), o7] [] Q) :
    vP D T N 321 126 h [some (2, 121), some (0, (j : Int)), some (0, 2), some (0, z), some (0, ((gJ P a : Nat) : Int)), some (0, w), some (0, (n : Int)), o7] [] Q := by
  refine v_load (v := (0, (n : Int))) (hz_X12_supper hT _ _ rfl) rfl rfl ?_
  refine v_load (v := (2, 121)) (hz_X12_supper hT _ _ rfl) rfl rfl ?_
  refine v_call (w := 1) [some (2, 121)] hO (hz_X12_supper hT _ _ rfl) rfl rfl (rb_cells hT hO p0 p1 hb.1 ?_)
  show vP D T N 321 132 h [some (2, 121), some (0, (j : Int)), some (0, 2), some (0, z), some (0, ((gJ P a : Nat) : Int)), some (0, w), some (0, (n : Int)), o7] [(0, ((P 0 0) * (P 0 1))), (0, (n : Int))] _
  refine v_ic (hz_X12_supper hT _ _ rfl) (fun hc1 => absurd (show (n : Int) < ((P 0 0) * (P 0 1)) from hc1) (by omega)) (fun _ => ?_)
  exact k0 
theorem qs_sup147n {D : zD} {T : zT} (hT : hTab T) (hO : vOK T) {N : Nat} {h : zH} {Q : zR → Prop} {P : PT} {j a q : Nat} (z w : Int) (o7 : Option zV) (hv0 : zHv h) (hq : gJ P q < 48)
    (k0 : vP D T N 321 126 h [some (2, 121), some (0, (j : Int)), some (0, 2), some (0, z), some (0, ((gJ P a : Nat) : Int)), some (0, w), some (0, (((gJ P q : Nat) : Int) + 1)), o7] [] Q) :
    vP D T N 321 147 h [some (2, 121), some (0, (j : Int)), some (0, 2), some (0, z), some (0, ((gJ P a : Nat) : Int)), some (0, w), some (0, ((gJ P q : Nat) : Int)), o7] [(0, 0)] Q := by
  refine v_if (hz_X12_supper hT _ _ rfl) (fun _ => ?_) (fun hc1 => absurd (show (0 : Int) = 0 from (by omega)) hc1)
  refine v_goto (hz_X12_supper hT _ _ rfl) ?_
  refine v_iinc (x := ((gJ P q : Nat) : Int)) (u := 1) (w := (((gJ P q : Nat) : Int) + 1)) [some (2, 121), some (0, (j : Int)), some (0, 2), some (0, z), some (0, ((gJ P a : Nat) : Int)), some (0, w), some (0, (((gJ P q : Nat) : Int) + 1)), o7] (hz_X12_supper hT _ _ rfl) rfl rfl (Nat.le_of_ble_eq_true rfl) (vz_inc (by omega) (by omega)) rfl ?_
  refine v_goto (hz_X12_supper hT _ _ rfl) ?_
  exact k0 
theorem qs_sup147y {D : zD} {T : zT} (hT : hTab T) (hO : vOK T) {N : Nat} {h : zH} {Q : zR → Prop} {P : PT} {j a q : Nat} (z w : Int) (o7 : Option zV) (hv0 : zHv h) (hR : rBk 0 P h) (hb : fB P) (gq : gIn P q) (hq : gJ P q < 48) (hj : j < 3)
    (k0 : (0 ≤ ((101 + (48 * (j : Int))) + ((gJ P q : Nat) : Int))) → (((101 + (48 * (j : Int))) + ((gJ P q : Nat) : Int)) < 2750) → vP D T N 322 0 (zset h 126 ((((101 + (48 * (j : Int))) + ((gJ P q : Nat) : Int))).toNat) (0, 1)) [some (2, 121), some (0, (j : Int)), some (0, ((gJ P a : Nat) : Int)), some (0, ((gJ P q : Nat) : Int))] [] (fun r1 => vP D T N 321 183 r1.1 [some (2, 121), some (0, (j : Int)), some (0, 2), some (0, z), some (0, ((gJ P a : Nat) : Int)), some (0, w), some (0, ((gJ P q : Nat) : Int)), some (0, (P 3 (48 * j + q)))] (zpush r1.2 []) Q)) :
    vP D T N 321 147 h [some (2, 121), some (0, (j : Int)), some (0, 2), some (0, z), some (0, ((gJ P a : Nat) : Int)), some (0, w), some (0, ((gJ P q : Nat) : Int)), o7] [(0, 1)] Q := by
  refine v_if (hz_X12_supper hT _ _ rfl) (fun hc1 => absurd (show (1 : Int) = 0 from hc1) (by omega)) (fun _ => ?_)
  refine v_load (v := (2, 121)) (hz_X12_supper hT _ _ rfl) rfl rfl ?_
  refine v_load (v := (0, (j : Int))) (hz_X12_supper hT _ _ rfl) rfl rfl ?_
  refine v_load (v := (0, ((gJ P q : Nat) : Int))) (hz_X12_supper hT _ _ rfl) rfl rfl ?_
  refine v_call (w := 3) [some (2, 121), some (0, (j : Int)), some (0, ((gJ P q : Nat) : Int))] hO (hz_X12_supper hT _ _ rfl) rfl rfl (rb_st hT hO ((j : Int)) j q rfl (by omega) gq hR hb ?_)
  show vP D T N 321 160 h [some (2, 121), some (0, (j : Int)), some (0, 2), some (0, z), some (0, ((gJ P a : Nat) : Int)), some (0, w), some (0, ((gJ P q : Nat) : Int)), o7] [(0, (P 3 (48 * j + q)))] _
  refine v_store1 [some (2, 121), some (0, (j : Int)), some (0, 2), some (0, z), some (0, ((gJ P a : Nat) : Int)), some (0, w), some (0, ((gJ P q : Nat) : Int)), some (0, (P 3 (48 * j + q)))] (hz_X12_supper hT _ _ rfl) ⟨rfl, Nat.ne_of_beq_eq_false rfl⟩ (Nat.le_of_ble_eq_true rfl) rfl ?_
  refine v_load (v := (2, 121)) (hz_X12_supper hT _ _ rfl) rfl rfl ?_
  refine v_getR (c := 126) (r := 121) (hz_X12_supper hT _ _ rfl) rfl rfl rfl ?_
  refine v_load (v := (0, (j : Int))) (hz_X12_supper hT _ _ rfl) rfl rfl ?_
  refine v_load (v := (0, ((gJ P q : Nat) : Int))) (hz_X12_supper hT _ _ rfl) rfl rfl ?_
  refine v_call (w := 2) [some (0, (j : Int)), some (0, ((gJ P q : Nat) : Int))] hO (hz_X12_supper hT _ _ rfl) rfl rfl ?_
  refine v_push (101) (hz_X12_state hT _ _ rfl) rfl ?_
  refine v_push (48) (hz_X12_state hT _ _ rfl) rfl ?_
  refine v_load (v := (0, (j : Int))) (hz_X12_state hT _ _ rfl) rfl rfl ?_
  refine v_bin (w := (48 * (j : Int))) (hz_X12_state hT _ _ rfl) (hq_mul (by omega) (by omega)) ?_
  refine v_bin (w := (101 + (48 * (j : Int)))) (hz_X12_state hT _ _ rfl) (hq_add (by omega) (by omega)) ?_
  refine v_load (v := (0, ((gJ P q : Nat) : Int))) (hz_X12_state hT _ _ rfl) rfl rfl ?_
  refine v_bin (w := ((101 + (48 * (j : Int))) + ((gJ P q : Nat) : Int))) (hz_X12_state hT _ _ rfl) (hq_add (by omega) (by omega)) ?_
  refine v_ret (hz_X12_state hT _ _ rfl) (Or.inl rfl) ?_
  show vP D T N 321 172 h [some (2, 121), some (0, (j : Int)), some (0, 2), some (0, z), some (0, ((gJ P a : Nat) : Int)), some (0, w), some (0, ((gJ P q : Nat) : Int)), some (0, (P 3 (48 * j + q)))] [(0, ((101 + (48 * (j : Int))) + ((gJ P q : Nat) : Int))), (2, 126)] _
  refine v_push (1) (hz_X12_supper hT _ _ rfl) rfl ?_
  refine v_ast (r := 126) (hz_X12_supper hT _ _ rfl) rfl rfl (fun ha2 hb3 hf4 => ?_)
  refine v_load (v := (2, 121)) (hz_X12_supper hT _ _ rfl) rfl rfl ?_
  refine v_load (v := (0, (j : Int))) (hz_X12_supper hT _ _ rfl) rfl rfl ?_
  refine v_load (v := (0, ((gJ P a : Nat) : Int))) (hz_X12_supper hT _ _ rfl) rfl rfl ?_
  refine v_load (v := (0, ((gJ P q : Nat) : Int))) (hz_X12_supper hT _ _ rfl) rfl rfl ?_
  refine v_call (w := 4) [some (2, 121), some (0, (j : Int)), some (0, ((gJ P a : Nat) : Int)), some (0, ((gJ P q : Nat) : Int))] hO (hz_X12_supper hT _ _ rfl) rfl rfl ?_
  exact k0 ha2 hb3
theorem qs_sup183 {D : zD} {T : zT} (hT : hTab T) (hO : vOK T) {N : Nat} {h : zH} {Q : zR → Prop} {P : PT} {j a q : Nat} (z w v : Int) (hv0 : zHv h) (hq : gJ P q < 48) (hj : j < 3)
    (k0 : (0 ≤ ((101 + (48 * (j : Int))) + ((gJ P q : Nat) : Int))) → (((101 + (48 * (j : Int))) + ((gJ P q : Nat) : Int)) < 2750) → vP D T N 321 126 (zset h 126 ((((101 + (48 * (j : Int))) + ((gJ P q : Nat) : Int))).toNat) (0, v)) [some (2, 121), some (0, (j : Int)), some (0, 2), some (0, z), some (0, ((gJ P a : Nat) : Int)), some (0, w), some (0, (((gJ P q : Nat) : Int) + 1)), some (0, v)] [] Q) :
    vP D T N 321 183 h [some (2, 121), some (0, (j : Int)), some (0, 2), some (0, z), some (0, ((gJ P a : Nat) : Int)), some (0, w), some (0, ((gJ P q : Nat) : Int)), some (0, v)] [] Q := by
  refine v_load (v := (2, 121)) (hz_X12_supper hT _ _ rfl) rfl rfl ?_
  refine v_getR (c := 126) (r := 121) (hz_X12_supper hT _ _ rfl) rfl rfl rfl ?_
  refine v_load (v := (0, (j : Int))) (hz_X12_supper hT _ _ rfl) rfl rfl ?_
  refine v_load (v := (0, ((gJ P q : Nat) : Int))) (hz_X12_supper hT _ _ rfl) rfl rfl ?_
  refine v_call (w := 2) [some (0, (j : Int)), some (0, ((gJ P q : Nat) : Int))] hO (hz_X12_supper hT _ _ rfl) rfl rfl ?_
  refine v_push (101) (hz_X12_state hT _ _ rfl) rfl ?_
  refine v_push (48) (hz_X12_state hT _ _ rfl) rfl ?_
  refine v_load (v := (0, (j : Int))) (hz_X12_state hT _ _ rfl) rfl rfl ?_
  refine v_bin (w := (48 * (j : Int))) (hz_X12_state hT _ _ rfl) (hq_mul (by omega) (by omega)) ?_
  refine v_bin (w := (101 + (48 * (j : Int)))) (hz_X12_state hT _ _ rfl) (hq_add (by omega) (by omega)) ?_
  refine v_load (v := (0, ((gJ P q : Nat) : Int))) (hz_X12_state hT _ _ rfl) rfl rfl ?_
  refine v_bin (w := ((101 + (48 * (j : Int))) + ((gJ P q : Nat) : Int))) (hz_X12_state hT _ _ rfl) (hq_add (by omega) (by omega)) ?_
  refine v_ret (hz_X12_state hT _ _ rfl) (Or.inl rfl) ?_
  show vP D T N 321 193 h [some (2, 121), some (0, (j : Int)), some (0, 2), some (0, z), some (0, ((gJ P a : Nat) : Int)), some (0, w), some (0, ((gJ P q : Nat) : Int)), some (0, v)] [(0, ((101 + (48 * (j : Int))) + ((gJ P q : Nat) : Int))), (2, 126)] _
  refine v_load (v := (0, v)) (hz_X12_supper hT _ _ rfl) rfl rfl ?_
  refine v_ast (r := 126) (hz_X12_supper hT _ _ rfl) rfl rfl (fun ha1 hb2 hf3 => ?_)
  refine v_iinc (x := ((gJ P q : Nat) : Int)) (u := 1) (w := (((gJ P q : Nat) : Int) + 1)) [some (2, 121), some (0, (j : Int)), some (0, 2), some (0, z), some (0, ((gJ P a : Nat) : Int)), some (0, w), some (0, (((gJ P q : Nat) : Int) + 1)), some (0, v)] (hz_X12_supper hT _ _ rfl) rfl rfl (Nat.le_of_ble_eq_true rfl) (vz_inc (by omega) (by omega)) rfl ?_
  refine v_goto (hz_X12_supper hT _ _ rfl) ?_
  exact k0 ha1 hb2
theorem qs_sup202 {D : zD} {T : zT} (hT : hTab T) (hO : vOK T) {N : Nat} {h : zH} {Q : zR → Prop} {P : PT} {j q : Nat} (y z w : Int) (o6 o7 : Option zV) (hv0 : zHv h) (hq : gJ P q < 48) (hj : j < 3)
    (k0 : (0 ≤ ((101 + (48 * (j : Int))) + ((gJ P q : Nat) : Int))) → (((101 + (48 * (j : Int))) + ((gJ P q : Nat) : Int)) < 2750) → vP D T N 321 64 (zset h 126 ((((101 + (48 * (j : Int))) + ((gJ P q : Nat) : Int))).toNat) (0, w)) [some (2, 121), some (0, (j : Int)), some (0, y), some (0, z), some (0, (((gJ P q : Nat) : Int) + 1)), some (0, w), o6, o7] [] Q) :
    vP D T N 321 202 h [some (2, 121), some (0, (j : Int)), some (0, y), some (0, z), some (0, ((gJ P q : Nat) : Int)), some (0, w), o6, o7] [] Q := by
  refine v_load (v := (2, 121)) (hz_X12_supper hT _ _ rfl) rfl rfl ?_
  refine v_getR (c := 126) (r := 121) (hz_X12_supper hT _ _ rfl) rfl rfl rfl ?_
  refine v_load (v := (0, (j : Int))) (hz_X12_supper hT _ _ rfl) rfl rfl ?_
  refine v_load (v := (0, ((gJ P q : Nat) : Int))) (hz_X12_supper hT _ _ rfl) rfl rfl ?_
  refine v_call (w := 2) [some (0, (j : Int)), some (0, ((gJ P q : Nat) : Int))] hO (hz_X12_supper hT _ _ rfl) rfl rfl ?_
  refine v_push (101) (hz_X12_state hT _ _ rfl) rfl ?_
  refine v_push (48) (hz_X12_state hT _ _ rfl) rfl ?_
  refine v_load (v := (0, (j : Int))) (hz_X12_state hT _ _ rfl) rfl rfl ?_
  refine v_bin (w := (48 * (j : Int))) (hz_X12_state hT _ _ rfl) (hq_mul (by omega) (by omega)) ?_
  refine v_bin (w := (101 + (48 * (j : Int)))) (hz_X12_state hT _ _ rfl) (hq_add (by omega) (by omega)) ?_
  refine v_load (v := (0, ((gJ P q : Nat) : Int))) (hz_X12_state hT _ _ rfl) rfl rfl ?_
  refine v_bin (w := ((101 + (48 * (j : Int))) + ((gJ P q : Nat) : Int))) (hz_X12_state hT _ _ rfl) (hq_add (by omega) (by omega)) ?_
  refine v_ret (hz_X12_state hT _ _ rfl) (Or.inl rfl) ?_
  show vP D T N 321 212 h [some (2, 121), some (0, (j : Int)), some (0, y), some (0, z), some (0, ((gJ P q : Nat) : Int)), some (0, w), o6, o7] [(0, ((101 + (48 * (j : Int))) + ((gJ P q : Nat) : Int))), (2, 126)] _
  refine v_load (v := (0, w)) (hz_X12_supper hT _ _ rfl) rfl rfl ?_
  refine v_ast (r := 126) (hz_X12_supper hT _ _ rfl) rfl rfl (fun ha1 hb2 hf3 => ?_)
  refine v_iinc (x := ((gJ P q : Nat) : Int)) (u := 1) (w := (((gJ P q : Nat) : Int) + 1)) [some (2, 121), some (0, (j : Int)), some (0, y), some (0, z), some (0, (((gJ P q : Nat) : Int) + 1)), some (0, w), o6, o7] (hz_X12_supper hT _ _ rfl) rfl rfl (Nat.le_of_ble_eq_true rfl) (vz_inc (by omega) (by omega)) rfl ?_
  refine v_goto (hz_X12_supper hT _ _ rfl) ?_
  exact k0 ha1 hb2
theorem qs_sup221_1 {D : zD} {T : zT} (hT : hTab T) (hO : vOK T) {N : Nat} {h : zH} {Q : zR → Prop} {j n : Nat} (z t0 : Int) (o5 o6 o7 : Option zV) (hv0 : zHv h) (u0 : h 133 0 = (0, t0)) (bz : 0 ≤ z ∧ z ≤ 3)
    (k0 : (t0 < 0) → Q (zset h 121 0 (0, 9), some (0, -1)))
    (k1 : (0 ≤ t0) → (z = 3) → Q (zset h 121 0 (0, 8), some (0, -1)))
    (k2 : (0 ≤ t0) → (z ≠ 3) → (0 ≤ z) → (z < 4) → Q (h, some (0, (h 133 z.toNat).2))) :
    vP D T N 321 221 h [some (2, 121), some (0, (j : Int)), some (0, 1), some (0, z), some (0, (n : Int)), o5, o6, o7] [] Q := by
  refine v_load (v := (2, 121)) (hz_X12_supper hT _ _ rfl) rfl rfl ?_
  refine v_getR (c := 133) (r := 121) (hz_X12_supper hT _ _ rfl) rfl rfl rfl ?_
  refine v_push (0) (hz_X12_supper hT _ _ rfl) rfl ?_
  refine v_aldV (v := (0, t0)) (r := 133) (hz_X12_supper hT _ _ rfl) rfl rfl (fun _ _ _ => u0) (fun ha1 hb2 => ?_)
  refine v_if (hz_X12_supper hT _ _ rfl) (fun hc3 => ?_) (fun hc3 => ?_)
  · have hc3 : t0 < 0 := hc3
    refine v_load (v := (2, 121)) (hz_X12_supper hT _ _ rfl) rfl rfl ?_
    refine v_push (9) (hz_X12_supper hT _ _ rfl) rfl ?_
    refine v_call (w := 2) [some (2, 121), some (0, 9)] hO (hz_X12_supper hT _ _ rfl) rfl rfl ?_
    refine v_load (v := (2, 121)) (hz_X12_refuse hT _ _ rfl) rfl rfl ?_
    refine v_load (v := (0, 9)) (hz_X12_refuse hT _ _ rfl) rfl rfl ?_
    refine v_putf (r := 121) hO (hz_X12_refuse hT _ _ rfl) rfl (fun hf4 => ?_)
    refine v_push (-1) (hz_X12_refuse hT _ _ rfl) rfl ?_
    refine v_ret (hz_X12_refuse hT _ _ rfl) (Or.inl rfl) ?_
    show vP D T N 321 236 (zset h 121 0 (0, 9)) [some (2, 121), some (0, (j : Int)), some (0, 1), some (0, z), some (0, (n : Int)), o5, o6, o7] [(0, -1)] _
    refine v_ret (hz_X12_supper hT _ _ rfl) (Or.inl rfl) ?_
    exact k0 hc3
  · have hc3 : 0 ≤ t0 := Int.not_lt.mp hc3
    refine v_load (v := (0, z)) (hz_X12_supper hT _ _ rfl) rfl rfl ?_
    refine v_push (3) (hz_X12_supper hT _ _ rfl) rfl ?_
    refine v_ic (hz_X12_supper hT _ _ rfl) (fun hc5 => ?_) (fun hc5 => ?_)
    · have hc5 : z = 3 := hc5
      refine v_load (v := (0, 1)) (hz_X12_supper hT _ _ rfl) rfl rfl ?_
      refine v_push (1) (hz_X12_supper hT _ _ rfl) rfl ?_
      refine v_ic (hz_X12_supper hT _ _ rfl) (fun _ => ?_) (fun hc6 => absurd (show (1 : Int) = 1 from (by omega)) hc6)
      refine v_load (v := (2, 121)) (hz_X12_supper hT _ _ rfl) rfl rfl ?_
      refine v_push (8) (hz_X12_supper hT _ _ rfl) rfl ?_
      refine v_call (w := 2) [some (2, 121), some (0, 8)] hO (hz_X12_supper hT _ _ rfl) rfl rfl ?_
      refine v_load (v := (2, 121)) (hz_X12_refuse hT _ _ rfl) rfl rfl ?_
      refine v_load (v := (0, 8)) (hz_X12_refuse hT _ _ rfl) rfl rfl ?_
      refine v_putf (r := 121) hO (hz_X12_refuse hT _ _ rfl) rfl (fun hf7 => ?_)
      refine v_push (-1) (hz_X12_refuse hT _ _ rfl) rfl ?_
      refine v_ret (hz_X12_refuse hT _ _ rfl) (Or.inl rfl) ?_
      show vP D T N 321 253 (zset h 121 0 (0, 8)) [some (2, 121), some (0, (j : Int)), some (0, 1), some (0, z), some (0, (n : Int)), o5, o6, o7] [(0, -1)] _
      refine v_goto (hz_X12_supper hT _ _ rfl) ?_
      refine v_ret (hz_X12_supper hT _ _ rfl) (Or.inl rfl) ?_
      exact k1 hc3 hc5
    · have hc5 : z ≠ 3 := hc5
      refine v_load (v := (2, 121)) (hz_X12_supper hT _ _ rfl) rfl rfl ?_
      refine v_getR (c := 133) (r := 121) (hz_X12_supper hT _ _ rfl) rfl rfl rfl ?_
      refine v_load (v := (0, z)) (hz_X12_supper hT _ _ rfl) rfl rfl ?_
      refine v_ald (t := 0) (r := 133) (hz_X12_supper hT _ _ rfl) rfl rfl rfl (fun ha8 hb9 => ?_)
      refine v_ret (hz_X12_supper hT _ _ rfl) (Or.inl rfl) ?_
      exact k2 hc3 hc5 ha8 hb9
theorem qs_sup221_2 {D : zD} {T : zT} (hT : hTab T) (hO : vOK T) {N : Nat} {h : zH} {Q : zR → Prop} {j n : Nat} (z t0 : Int) (o5 o6 o7 : Option zV) (hv0 : zHv h) (u0 : h 133 0 = (0, t0)) (bz : 0 ≤ z ∧ z ≤ 3)
    (k0 : (t0 < 0) → Q (zset h 121 0 (0, 9), some (0, -1)))
    (k1 : (0 ≤ t0) → (z = 3) → (0 ≤ z) → (z < 4) → Q (h, some (0, (h 133 z.toNat).2)))
    (k2 : (0 ≤ t0) → (z ≠ 3) → (0 ≤ z) → (z < 4) → Q (h, some (0, (h 133 z.toNat).2))) :
    vP D T N 321 221 h [some (2, 121), some (0, (j : Int)), some (0, 2), some (0, z), some (0, (n : Int)), o5, o6, o7] [] Q := by
  refine v_load (v := (2, 121)) (hz_X12_supper hT _ _ rfl) rfl rfl ?_
  refine v_getR (c := 133) (r := 121) (hz_X12_supper hT _ _ rfl) rfl rfl rfl ?_
  refine v_push (0) (hz_X12_supper hT _ _ rfl) rfl ?_
  refine v_aldV (v := (0, t0)) (r := 133) (hz_X12_supper hT _ _ rfl) rfl rfl (fun _ _ _ => u0) (fun ha1 hb2 => ?_)
  refine v_if (hz_X12_supper hT _ _ rfl) (fun hc3 => ?_) (fun hc3 => ?_)
  · have hc3 : t0 < 0 := hc3
    refine v_load (v := (2, 121)) (hz_X12_supper hT _ _ rfl) rfl rfl ?_
    refine v_push (9) (hz_X12_supper hT _ _ rfl) rfl ?_
    refine v_call (w := 2) [some (2, 121), some (0, 9)] hO (hz_X12_supper hT _ _ rfl) rfl rfl ?_
    refine v_load (v := (2, 121)) (hz_X12_refuse hT _ _ rfl) rfl rfl ?_
    refine v_load (v := (0, 9)) (hz_X12_refuse hT _ _ rfl) rfl rfl ?_
    refine v_putf (r := 121) hO (hz_X12_refuse hT _ _ rfl) rfl (fun hf4 => ?_)
    refine v_push (-1) (hz_X12_refuse hT _ _ rfl) rfl ?_
    refine v_ret (hz_X12_refuse hT _ _ rfl) (Or.inl rfl) ?_
    show vP D T N 321 236 (zset h 121 0 (0, 9)) [some (2, 121), some (0, (j : Int)), some (0, 2), some (0, z), some (0, (n : Int)), o5, o6, o7] [(0, -1)] _
    refine v_ret (hz_X12_supper hT _ _ rfl) (Or.inl rfl) ?_
    exact k0 hc3
  · have hc3 : 0 ≤ t0 := Int.not_lt.mp hc3
    refine v_load (v := (0, z)) (hz_X12_supper hT _ _ rfl) rfl rfl ?_
    refine v_push (3) (hz_X12_supper hT _ _ rfl) rfl ?_
    refine v_ic (hz_X12_supper hT _ _ rfl) (fun hc5 => ?_) (fun hc5 => ?_)
    · have hc5 : z = 3 := hc5
      refine v_load (v := (0, 2)) (hz_X12_supper hT _ _ rfl) rfl rfl ?_
      refine v_push (1) (hz_X12_supper hT _ _ rfl) rfl ?_
      refine v_ic (hz_X12_supper hT _ _ rfl) (fun hc6 => absurd (show (2 : Int) = 1 from hc6) (by omega)) (fun _ => ?_)
      refine v_load (v := (2, 121)) (hz_X12_supper hT _ _ rfl) rfl rfl ?_
      refine v_getR (c := 133) (r := 121) (hz_X12_supper hT _ _ rfl) rfl rfl rfl ?_
      refine v_load (v := (0, z)) (hz_X12_supper hT _ _ rfl) rfl rfl ?_
      refine v_ald (t := 0) (r := 133) (hz_X12_supper hT _ _ rfl) rfl rfl rfl (fun ha7 hb8 => ?_)
      refine v_ret (hz_X12_supper hT _ _ rfl) (Or.inl rfl) ?_
      exact k1 hc3 hc5 ha7 hb8
    · have hc5 : z ≠ 3 := hc5
      refine v_load (v := (2, 121)) (hz_X12_supper hT _ _ rfl) rfl rfl ?_
      refine v_getR (c := 133) (r := 121) (hz_X12_supper hT _ _ rfl) rfl rfl rfl ?_
      refine v_load (v := (0, z)) (hz_X12_supper hT _ _ rfl) rfl rfl ?_
      refine v_ald (t := 0) (r := 133) (hz_X12_supper hT _ _ rfl) rfl rfl rfl (fun ha9 hb10 => ?_)
      refine v_ret (hz_X12_supper hT _ _ rfl) (Or.inl rfl) ?_
      exact k2 hc3 hc5 ha9 hb10
/-! supper: the reference -/
theorem mC_b {P : PT} {m : Nat} (hb : fB P) (hm : (m : Int) < P 0 3) : mC P m = -1 ∨ (0 ≤ mC P m ∧ mC P m < 1000000) := by
  obtain ⟨_, ⟨_, g6⟩, _⟩ := hb.2.2.2 m hm
  have bd := (dW_ok (P := P) (co := gCo P (P 8 m).toNat) (to := (P 7 m).toNat)).2.1.1 _ g6
  have w6 : wFar = 1000000 := rfl
  unfold mC yCost
  split
  · exact Or.inr (by omega)
  · exact Or.inl rfl
noncomputable def suR (P : PT) (j : Nat) : Nat → Nat
  | 0 => 0
  | n + 1 => suR P j n + (if P 8 n = (j : Int) ∧ mC P n ≠ -1 then 1 else 0)
noncomputable def suC (P : PT) (j : Nat) : Nat → Int
  | 0 => 0
  | n + 1 => suC P j n + (if P 8 n = (j : Int) ∧ mC P n ≠ -1 then mC P n else 0)
def suF (h g : zH) : Prop := ∀ a b, ¬ (a = 130 ∨ (a = 121 ∧ (b = 34 ∨ b = 35))) → g a b = h a b
theorem rx_suL {D : zD} {T : zT} (hT : hTab T) (hO : vOK T) {N : Nat} {Q : zR → Prop} {P : PT} {j : Nat} (hb : fB P) : ∀ (r m : Nat) (h : zH) (o : Option zV), (m : Int) + (r : Int) = P 0 3 → rBk 0 P h → h 121 34 = (0, (suR P j m : Int)) → h 121 35 = (0, suC P j m) → (suR P j m ≤ m ∧ 0 ≤ suC P j m ∧ suC P j m ≤ 1000000 * (m : Int)) → (∀ g : zH, g 121 34 = (0, (suR P j (P 0 3).toNat : Int)) → g 121 35 = (0, suC P j (P 0 3).toNat) → suF h g → Q (g, none)) → vP D T N 320 12 h [some (2, 121), some (0, (j : Int)), some (0, (m : Int)), o] [] Q
  | 0, m, h, o, hm, hR, e34, e35, bd, k => by
    have e : (P 0 3).toNat = m := by omega
    rw [e] at k
    exact vP_dn (vP_hv (fun hv => qr_su9 hT hO o hv hR.m (by omega) (k h e34 e35 (fun _ _ _ => rfl))))
  | r + 1, m, h, o, hm, hR, e34, e35, bd, k => by
    have lb := hb.1
    have h3 : (m : Int) < P 0 3 := by omega
    have m6 : m < 6 := by have := lb.2.2.2.2; omega
    obtain ⟨b1, b2, b3⟩ := bd
    refine vP_dn (vP_hv (fun hv => qr_su12 hT hO o hv hR.m (hR.by h3) h3 m6 (fun _ _ c => ?_) (fun _ _ c => ?_)))
    · refine rx_cw hT hO m hR hb h3 (fun g u => ?_)
      have hR1 : rBk 0 P g := hR.eq lb (fun b _ _ => u 126 b (by decide))
      rcases mC_b hb h3 with q | ⟨q1, q2⟩
      · have e : cwC P m = 1000000 := if_pos q
        have s1 : suR P j (m + 1) = suR P j m := by
          show suR P j m + (if P 8 m = (j : Int) ∧ mC P m ≠ -1 then 1 else 0) = _
          rw [if_neg (fun d => d.2 q), Nat.add_zero]
        have s2 : suC P j (m + 1) = suC P j m := by
          show suC P j m + (if P 8 m = (j : Int) ∧ mC P m ≠ -1 then mC P m else 0) = _
          rw [if_neg (fun d => d.2 q), Int.add_zero]
        rw [e]
        show vP D T N 320 44 g [some (2, 121), some (0, (j : Int)), some (0, (m : Int)), o] [(0, 1000000)] Q
        refine vP_hv (fun hv => qr_su44f hT hO o hv m6 ?_)
        exact rx_suL hT hO hb r (m + 1) g _ (by omega) hR1 (by rw [s1]; exact (u 121 34 (by decide)).trans e34) (by rw [s2]; exact (u 121 35 (by decide)).trans e35) (by rw [s1, s2]; omega) (fun g2 x1 x2 x3 => k g2 x1 x2 (fun a b hn => (x3 a b hn).trans (u a b (fun e => hn (Or.inl e)))))
      · have q0 : mC P m ≠ -1 := by omega
        have e : cwC P m = mC P m := if_neg q0
        have s1 : suR P j (m + 1) = suR P j m + 1 := by
          show suR P j m + (if P 8 m = (j : Int) ∧ mC P m ≠ -1 then 1 else 0) = _
          rw [if_pos ⟨c, q0⟩]
        have s2 : suC P j (m + 1) = suC P j m + mC P m := by
          show suC P j m + (if P 8 m = (j : Int) ∧ mC P m ≠ -1 then mC P m else 0) = _
          rw [if_pos ⟨c, q0⟩]
        rw [e]
        show vP D T N 320 44 g [some (2, 121), some (0, (j : Int)), some (0, (m : Int)), o] [(0, mC P m)] Q
        refine vP_hv (fun hv => qr_su44 hT hO (mC P m) (suC P j m) o hv m6 (by omega) ⟨q1, q2⟩ ((u 121 34 (by decide)).trans e34) ((u 121 35 (by decide)).trans e35) (by omega) ⟨b2, by omega⟩ ?_)
        have F : suF h (zset (zset g 121 34 (0, (suR P j m : Int) + 1)) 121 35 (0, suC P j m + mC P m)) := fun a b hn => (zset_ne (fun e => hn (by omega))).trans ((zset_ne (fun e => hn (by omega))).trans (u a b (fun e => hn (Or.inl e))))
        exact rx_suL hT hO hb r (m + 1) (zset (zset g 121 34 (0, (suR P j m : Int) + 1)) 121 35 (0, suC P j m + mC P m)) _ (by omega) ((hR1.z1 lb).z1 lb) (by rw [s1]; exact (zset_ne (by decide)).trans zset_same) (by rw [s2]; exact zset_same) (by rw [s1, s2]; omega) (fun g2 x1 x2 x3 => k g2 x1 x2 (fun a b hn => (x3 a b hn).trans (F a b hn)))
    · have s1 : suR P j (m + 1) = suR P j m := by
        show suR P j m + (if P 8 m = (j : Int) ∧ mC P m ≠ -1 then 1 else 0) = _
        rw [if_neg (fun d => c d.1), Nat.add_zero]
      have s2 : suC P j (m + 1) = suC P j m := by
        show suC P j m + (if P 8 m = (j : Int) ∧ mC P m ≠ -1 then mC P m else 0) = _
        rw [if_neg (fun d => c d.1), Int.add_zero]
      exact rx_suL hT hO hb r (m + 1) h o (by omega) hR (by rw [s1]; exact e34) (by rw [s2]; exact e35) (by rw [s1, s2]; omega) k
abbrev TT4 := Int × Int × Int × Int
def tsU (T : TT4) (r c f s : Int) : TT4 := if T.1 > r ∨ (T.1 = r ∧ T.2.1 ≤ c) then T else (r, c, f, s)
def tdH (T : TT4) (h : zH) : Prop := h 133 0 = (0, T.1) ∧ h 133 1 = (0, T.2.1) ∧ h 133 2 = (0, T.2.2.1) ∧ h 133 3 = (0, T.2.2.2)
def taF (h g : zH) : Prop := ∀ a b, ¬ (a = 130 ∨ a = 133 ∨ (a = 121 ∧ (b = 34 ∨ b = 35))) → g a b = h a b
noncomputable def tsP (P : PT) (j : Nat) (T : TT4) (f s : Int) : TT4 := tsU T (suR P j (P 0 3).toNat : Int) (suC P j (P 0 3).toNat) f s
theorem rx_ta {D : zD} {T : zT} (hT : hTab T) (hO : vOK T) {N : Nat} {h : zH} {Q : zR → Prop} {P : PT} {j : Nat} {K : TT4} (f s : Int) (hR : rBk 0 P h) (hb : fB P) (hK : tdH K h) (k : ∀ g : zH, tdH (tsP P j K f s) g → taF h g → Q (g, none)) : vP D T N 322 0 h [some (2, 121), some (0, (j : Int)), some (0, f), some (0, s)] [] Q := by
  have lb := hb.1
  have l0 := lb.2.2.2.1
  obtain ⟨t0, t1, t2, t3⟩ := hK
  refine vP_hv (fun hv => qr_ta0 hT hO f s hv ?_)
  refine vP_hv (fun hv => qr_su0 hT hO hv ?_)
  refine rx_suL hT hO hb (P 0 3).toNat 0 _ none (by omega) ((hR.z1 lb).z1 lb) ((zset_ne (by decide)).trans zset_same) zset_same ⟨Nat.le_refl _, Int.le_refl _, by show (0 : Int) ≤ 1000000 * ((0 : Nat) : Int); omega⟩ (fun g e34 e35 u => ?_)
  have F : ∀ a b, ¬ (a = 130 ∨ (a = 121 ∧ (b = 34 ∨ b = 35))) → g a b = h a b := fun a b hn => (u a b hn).trans ((zset_ne (fun e => hn (by omega))).trans (zset_ne (fun e => hn (by omega))))
  have v0 := (F 133 0 (by decide)).trans t0
  have v1 := (F 133 1 (by decide)).trans t1
  have v2 := (F 133 2 (by decide)).trans t2
  have v3 := (F 133 3 (by decide)).trans t3
  have same : (K.1 > (suR P j (P 0 3).toNat : Int) ∨ (K.1 = (suR P j (P 0 3).toNat : Int) ∧ K.2.1 ≤ suC P j (P 0 3).toNat)) → Q (g, none) := fun c => by
    have e : tsP P j K f s = K := if_pos c
    exact k g (by rw [e]; exact ⟨v0, v1, v2, v3⟩) (fun a b hn => F a b (fun e => hn (by omega)))
  have new : ¬ (K.1 > (suR P j (P 0 3).toNat : Int) ∨ (K.1 = (suR P j (P 0 3).toNat : Int) ∧ K.2.1 ≤ suC P j (P 0 3).toNat)) → Q (zset (zset (zset (zset g 133 0 (0, (suR P j (P 0 3).toNat : Int))) 133 1 (0, suC P j (P 0 3).toNat)) 133 2 (0, f)) 133 3 (0, s), none) := fun c => by
    have e : tsP P j K f s = ((suR P j (P 0 3).toNat : Int), suC P j (P 0 3).toNat, f, s) := if_neg c
    refine k _ ?_ (fun a b hn => (zset_ne (fun e => hn (by omega))).trans ((zset_ne (fun e => hn (by omega))).trans ((zset_ne (fun e => hn (by omega))).trans ((zset_ne (fun e => hn (by omega))).trans (F a b (fun e => hn (by omega)))))))
    rw [e]
    exact ⟨(zset_ne (by decide)).trans ((zset_ne (by decide)).trans ((zset_ne (by decide)).trans zset_same)), (zset_ne (by decide)).trans ((zset_ne (by decide)).trans zset_same), (zset_ne (by decide)).trans zset_same, zset_same⟩
  show vP D T N 322 5 g [some (2, 121), some (0, (j : Int)), some (0, f), some (0, s)] [] Q
  exact vP_hv (fun hv => qr_ta5 hT hO f s _ _ _ _ hv e34 e35 v0 v1 (fun c => same (Or.inl c)) (fun _ c1 c2 => new (by omega)) (fun _ c1 c2 => same (Or.inr ⟨c1, c2⟩)) (fun c1 c2 => new (by omega)))
theorem pSt_back {P : PT} {j q : Nat} {v : Int} : pSt (pSt P j q v) j q (P 3 (48 * j + q)) = P := by
  funext a b
  show (if a = 3 ∧ b = 48 * j + q then P 3 (48 * j + q) else (if a = 3 ∧ b = 48 * j + q then v else P a b)) = P a b
  by_cases c : a = 3 ∧ b = 48 * j + q
  · rw [if_pos c, c.1, c.2]
  · rw [if_neg c, if_neg c]
