section
theorem qs_many0 {D : zD} {T : zT} (hT : hTab T) (hO : vOK T) {N : Nat} {h : zH} {Q : zR → Prop} {P : PT} (x : Int) (hv0 : zHv h) (p0 : h 126 0 = (0, P 0 0)) (p1 : h 126 1 = (0, P 0 1)) (p2 : h 126 2 = (0, P 0 2)) (p3 : h 126 3 = (0, P 0 3)) (p4 : h 126 4 = (0, P 0 4))
    (k0 : (x = 0) → Q (zset (zset h 121 1 (0, 0)) 121 0 (0, 0), some (0, (P 0 0))))
    (k1 : (x ≠ 0) → (x = 1) → Q (zset (zset h 121 1 (0, 0)) 121 0 (0, 0), some (0, (P 0 1))))
    (k2 : (x ≠ 0) → (x ≠ 1) → (x = 2) → Q (zset (zset h 121 1 (0, 0)) 121 0 (0, 0), some (0, (P 0 2))))
    (k3 : (x ≠ 0) → (x ≠ 1) → (x ≠ 2) → (x = 3) → Q (zset (zset h 121 1 (0, 0)) 121 0 (0, 0), some (0, (P 0 3))))
    (k4 : (x ≠ 0) → (x ≠ 1) → (x ≠ 2) → (x ≠ 3) → (x = 4) → Q (zset (zset h 121 1 (0, 0)) 121 0 (0, 0), some (0, (P 0 4))))
    (k5 : (x ≠ 0) → (x ≠ 1) → (x ≠ 2) → (x ≠ 3) → (x ≠ 4) → (x = 5) → vP D T N 270 0 (zset (zset h 121 1 (0, 0)) 121 0 (0, 0)) [some (2, 121), none, none, none] [] (fun r1 => vP D T N 273 87 r1.1 [some (2, 121), some (0, x)] (zpush r1.2 []) Q))
    (k6 : (x ≠ 0) → (x ≠ 1) → (x ≠ 2) → (x ≠ 3) → (x ≠ 4) → (x ≠ 5) → Q (zset (zset (zset h 121 1 (0, 0)) 121 0 (0, 0)) 121 0 (0, 5), some (0, -1))) :
    vP D T N 273 0 h [some (2, 121), some (0, x)] [] Q := by
  refine v_load (v := (2, 121)) (hz_X12_many hT _ _ rfl) rfl rfl ?_
  refine v_push (0) (hz_X12_many hT _ _ rfl) rfl ?_
  refine v_putf (r := 121) hO (hz_X12_many hT _ _ rfl) rfl (fun hf1 => ?_)
  refine v_load (v := (2, 121)) (hz_X12_many hT _ _ rfl) rfl rfl ?_
  refine v_push (0) (hz_X12_many hT _ _ rfl) rfl ?_
  refine v_putf (r := 121) hO (hz_X12_many hT _ _ rfl) rfl (fun hf2 => ?_)
  refine v_load (v := (0, x)) (hz_X12_many hT _ _ rfl) rfl rfl ?_
  refine v_sw (hz_X12_many hT _ _ rfl) ?_
  refine ⟨fun hc3 => ?_, fun hc3 => ?_⟩
  · have hc3 : x = 0 := hc3
    refine v_load (v := (2, 121)) (hz_X12_many hT _ _ rfl) rfl rfl ?_
    refine v_getR (c := 126) (r := 121) (hz_X12_many hT _ _ rfl) rfl rfl rfl ?_
    refine v_push (0) (hz_X12_many hT _ _ rfl) rfl ?_
    refine v_aldV (v := (0, (P 0 0))) (r := 126) (hz_X12_many hT _ _ rfl) rfl rfl (fun _ _ _ => (Eq.trans (Eq.trans (zset_ne (fun c => absurd c.1 (by decide))) (zset_ne (fun c => absurd c.1 (by decide)))) (p0))) (fun ha4 hb5 => ?_)
    refine v_ret (hz_X12_many hT _ _ rfl) (Or.inl rfl) ?_
    exact k0 hc3
  refine ⟨fun hc6 => ?_, fun hc6 => ?_⟩
  · have hc6 : x = 1 := hc6
    refine v_load (v := (2, 121)) (hz_X12_many hT _ _ rfl) rfl rfl ?_
    refine v_getR (c := 126) (r := 121) (hz_X12_many hT _ _ rfl) rfl rfl rfl ?_
    refine v_push (1) (hz_X12_many hT _ _ rfl) rfl ?_
    refine v_aldV (v := (0, (P 0 1))) (r := 126) (hz_X12_many hT _ _ rfl) rfl rfl (fun _ _ _ => (Eq.trans (Eq.trans (zset_ne (fun c => absurd c.1 (by decide))) (zset_ne (fun c => absurd c.1 (by decide)))) (p1))) (fun ha7 hb8 => ?_)
    refine v_ret (hz_X12_many hT _ _ rfl) (Or.inl rfl) ?_
    exact k1 hc3 hc6
  refine ⟨fun hc9 => ?_, fun hc9 => ?_⟩
  · have hc9 : x = 2 := hc9
    refine v_load (v := (2, 121)) (hz_X12_many hT _ _ rfl) rfl rfl ?_
    refine v_getR (c := 126) (r := 121) (hz_X12_many hT _ _ rfl) rfl rfl rfl ?_
    refine v_push (2) (hz_X12_many hT _ _ rfl) rfl ?_
    refine v_aldV (v := (0, (P 0 2))) (r := 126) (hz_X12_many hT _ _ rfl) rfl rfl (fun _ _ _ => (Eq.trans (Eq.trans (zset_ne (fun c => absurd c.1 (by decide))) (zset_ne (fun c => absurd c.1 (by decide)))) (p2))) (fun ha10 hb11 => ?_)
    refine v_ret (hz_X12_many hT _ _ rfl) (Or.inl rfl) ?_
    exact k2 hc3 hc6 hc9
  refine ⟨fun hc12 => ?_, fun hc12 => ?_⟩
  · have hc12 : x = 3 := hc12
    refine v_load (v := (2, 121)) (hz_X12_many hT _ _ rfl) rfl rfl ?_
    refine v_getR (c := 126) (r := 121) (hz_X12_many hT _ _ rfl) rfl rfl rfl ?_
    refine v_push (3) (hz_X12_many hT _ _ rfl) rfl ?_
    refine v_aldV (v := (0, (P 0 3))) (r := 126) (hz_X12_many hT _ _ rfl) rfl rfl (fun _ _ _ => (Eq.trans (Eq.trans (zset_ne (fun c => absurd c.1 (by decide))) (zset_ne (fun c => absurd c.1 (by decide)))) (p3))) (fun ha13 hb14 => ?_)
    refine v_ret (hz_X12_many hT _ _ rfl) (Or.inl rfl) ?_
    exact k3 hc3 hc6 hc9 hc12
  refine ⟨fun hc15 => ?_, fun hc15 => ?_⟩
  · have hc15 : x = 4 := hc15
    refine v_load (v := (2, 121)) (hz_X12_many hT _ _ rfl) rfl rfl ?_
    refine v_getR (c := 126) (r := 121) (hz_X12_many hT _ _ rfl) rfl rfl rfl ?_
    refine v_push (4) (hz_X12_many hT _ _ rfl) rfl ?_
    refine v_aldV (v := (0, (P 0 4))) (r := 126) (hz_X12_many hT _ _ rfl) rfl rfl (fun _ _ _ => (Eq.trans (Eq.trans (zset_ne (fun c => absurd c.1 (by decide))) (zset_ne (fun c => absurd c.1 (by decide)))) (p4))) (fun ha16 hb17 => ?_)
    refine v_ret (hz_X12_many hT _ _ rfl) (Or.inl rfl) ?_
    exact k4 hc3 hc6 hc9 hc12 hc15
  refine ⟨fun hc18 => ?_, fun hc18 => ?_⟩
  · have hc18 : x = 5 := hc18
    refine v_load (v := (2, 121)) (hz_X12_many hT _ _ rfl) rfl rfl ?_
    refine v_call (w := 4) [some (2, 121), none, none, none] hO (hz_X12_many hT _ _ rfl) rfl rfl ?_
    exact k5 hc3 hc6 hc9 hc12 hc15 hc18
  show vP _ _ _ _ _ _ _ _ _
  refine v_load (v := (2, 121)) (hz_X12_many hT _ _ rfl) rfl rfl ?_
  refine v_push (5) (hz_X12_many hT _ _ rfl) rfl ?_
  refine v_call (w := 2) [some (2, 121), some (0, 5)] hO (hz_X12_many hT _ _ rfl) rfl rfl ?_
  refine v_load (v := (2, 121)) (hi_X12_refuse_0 hT) rfl rfl ?_
  refine v_load (v := (0, 5)) (hi_X12_refuse_1 hT) rfl rfl ?_
  refine v_putf (r := 121) hO (hi_X12_refuse_2 hT) rfl (fun hf19 => ?_)
  refine v_push (-1) (hi_X12_refuse_5 hT) rfl ?_
  refine v_ret (hi_X12_refuse_6 hT) (Or.inl rfl) ?_
  show vP D T N 273 93 (zset (zset (zset h 121 1 (0, 0)) 121 0 (0, 0)) 121 0 (0, 5)) [some (2, 121), some (0, x)] [(0, -1)] _
  refine v_ret (hz_X12_many hT _ _ rfl) (Or.inl rfl) ?_
  exact k6 hc3 hc6 hc9 hc12 hc15 hc18
theorem qs_many87 {D : zD} {T : zT} (hT : hTab T) (hO : vOK T) {N : Nat} {h : zH} {Q : zR → Prop} (x w : Int) (hv0 : zHv h)
    (k0 : Q (h, some (0, w))) :
    vP D T N 273 87 h [some (2, 121), some (0, x)] [(0, w)] Q := by
  refine v_ret (hz_X12_many hT _ _ rfl) (Or.inl rfl) ?_
  exact k0 
theorem qr_lf0 {D : zD} {T : zT} (hT : hTab T) (hO : vOK T) {N : Nat} {h : zH} {Q : zR → Prop}  (hv0 : zHv h)
    (k0 : vP D T N 270 4 h [some (2, 121), some (0, 0), some (0, 0), none] [] Q) :
    vP D T N 270 0 h [some (2, 121), none, none, none] [] Q := by
  refine v_push (0) (hz_X12_left hT _ _ rfl) rfl ?_
  refine v_store1 [some (2, 121), some (0, 0), none, none] (hz_X12_left hT _ _ rfl) ⟨rfl, Nat.ne_of_beq_eq_false rfl⟩ (Nat.le_of_ble_eq_true rfl) rfl ?_
  refine v_push (0) (hz_X12_left hT _ _ rfl) rfl ?_
  refine v_store1 [some (2, 121), some (0, 0), some (0, 0), none] (hz_X12_left hT _ _ rfl) ⟨rfl, Nat.ne_of_beq_eq_false rfl⟩ (Nat.le_of_ble_eq_true rfl) rfl ?_
  exact k0 
theorem qr_lf4 {D : zD} {T : zT} (hT : hTab T) (hO : vOK T) {N : Nat} {h : zH} {Q : zR → Prop} {P : PT} {j : Nat} (w : Int) (o : Option zV) (hv0 : zHv h) (c2 : h 126 2 = (0, P 0 2))
    (k0 : ((j : Int) < (P 0 2)) → vP D T N 270 16 h [some (2, 121), some (0, w), some (0, (j : Int)), some (0, 0)] [] Q)
    (k1 : ((P 0 2) ≤ (j : Int)) → Q (h, some (0, w))) :
    vP D T N 270 4 h [some (2, 121), some (0, w), some (0, (j : Int)), o] [] Q := by
  refine v_load (v := (0, (j : Int))) (hz_X12_left hT _ _ rfl) rfl rfl ?_
  refine v_load (v := (2, 121)) (hz_X12_left hT _ _ rfl) rfl rfl ?_
  refine v_getR (c := 126) (r := 121) (hz_X12_left hT _ _ rfl) rfl rfl rfl ?_
  refine v_push (2) (hz_X12_left hT _ _ rfl) rfl ?_
  refine v_aldV (v := (0, (P 0 2))) (r := 126) (hz_X12_left hT _ _ rfl) rfl rfl (fun _ _ _ => c2) (fun ha1 hb2 => ?_)
  refine v_ic (hz_X12_left hT _ _ rfl) (fun hc3 => ?_) (fun hc3 => ?_)
  · have hc3 : (j : Int) < (P 0 2) := hc3
    refine v_push (0) (hz_X12_left hT _ _ rfl) rfl ?_
    refine v_store1 [some (2, 121), some (0, w), some (0, (j : Int)), some (0, 0)] (hz_X12_left hT _ _ rfl) ⟨rfl, Nat.ne_of_beq_eq_false rfl⟩ (Nat.le_of_ble_eq_true rfl) rfl ?_
    exact k0 hc3
  · have hc3 : (P 0 2) ≤ (j : Int) := Int.not_lt.mp hc3
    refine v_load (v := (0, w)) (hz_X12_left hT _ _ rfl) rfl rfl ?_
    refine v_ret (hz_X12_left hT _ _ rfl) (Or.inl rfl) ?_
    exact k1 hc3
theorem qr_lf16 {D : zD} {T : zT} (hT : hTab T) (hO : vOK T) {N : Nat} {h : zH} {Q : zR → Prop} {P : PT} {j q : Nat} (w : Int) (hv0 : zHv h) (hR : rBk 0 P h) (hb : fB P) (gq : gIn P q) (hq : gJ P q < 48) (hj : j < 3) (bw : 0 ≤ w ∧ w ≤ 100000) (hc : 1 ≤ gCr P q ∧ gCr P q ≤ 14) (hlt : ((gJ P q : Nat) : Int) < ((P 0 0) * (P 0 1)))
    (k0 : ((P 3 (48 * j + q)) = 1) → vP D T N 270 16 h [some (2, 121), some (0, (w + 0)), some (0, (j : Int)), some (0, (((gJ P q : Nat) : Int) + 1))] [] Q)
    (k1 : ((P 3 (48 * j + q)) ≠ 1) → vP D T N 270 16 h [some (2, 121), some (0, (w + (gCr P q))), some (0, (j : Int)), some (0, (((gJ P q : Nat) : Int) + 1))] [] Q) :
    vP D T (N + 1) 270 16 h [some (2, 121), some (0, w), some (0, (j : Int)), some (0, ((gJ P q : Nat) : Int))] [] Q := by
  refine v_loadS (v := (0, ((gJ P q : Nat) : Int))) (hz_X12_left hT _ _ rfl) rfl rfl ?_
  refine v_load (v := (2, 121)) (hz_X12_left hT _ _ rfl) rfl rfl ?_
  refine v_call (w := 1) [some (2, 121)] hO (hz_X12_left hT _ _ rfl) rfl rfl (rb_cells hT hO hR.w hR.r hb.1 ?_)
  show vP D T N 270 21 h [some (2, 121), some (0, w), some (0, (j : Int)), some (0, ((gJ P q : Nat) : Int))] [(0, ((P 0 0) * (P 0 1))), (0, ((gJ P q : Nat) : Int))] _
  refine v_ic (hz_X12_left hT _ _ rfl) (fun _ => ?_) (fun hc1 => absurd (show ((gJ P q : Nat) : Int) < ((P 0 0) * (P 0 1)) from hlt) hc1)
  refine v_load (v := (0, w)) (hz_X12_left hT _ _ rfl) rfl rfl ?_
  refine v_load (v := (2, 121)) (hz_X12_left hT _ _ rfl) rfl rfl ?_
  refine v_load (v := (0, (j : Int))) (hz_X12_left hT _ _ rfl) rfl rfl ?_
  refine v_load (v := (0, ((gJ P q : Nat) : Int))) (hz_X12_left hT _ _ rfl) rfl rfl ?_
  refine v_call (w := 3) [some (2, 121), some (0, (j : Int)), some (0, ((gJ P q : Nat) : Int))] hO (hz_X12_left hT _ _ rfl) rfl rfl (rb_st hT hO ((j : Int)) j q rfl (by omega) gq hR hb ?_)
  show vP D T N 270 31 h [some (2, 121), some (0, w), some (0, (j : Int)), some (0, ((gJ P q : Nat) : Int))] [(0, (P 3 (48 * j + q))), (0, w)] _
  refine v_push (1) (hz_X12_left hT _ _ rfl) rfl ?_
  refine v_ic (hz_X12_left hT _ _ rfl) (fun hc2 => ?_) (fun hc2 => ?_)
  · have hc2 : (P 3 (48 * j + q)) = 1 := hc2
    refine v_push (0) (hz_X12_left hT _ _ rfl) rfl ?_
    refine v_goto (hz_X12_left hT _ _ rfl) ?_
    refine v_bin (w := (w + 0)) (hz_X12_left hT _ _ rfl) (hq_add (by omega) (by omega)) ?_
    refine v_store1 [some (2, 121), some (0, (w + 0)), some (0, (j : Int)), some (0, ((gJ P q : Nat) : Int))] (hz_X12_left hT _ _ rfl) ⟨rfl, Nat.ne_of_beq_eq_false rfl⟩ (Nat.le_of_ble_eq_true rfl) rfl ?_
    refine v_iinc (x := ((gJ P q : Nat) : Int)) (u := 1) (w := (((gJ P q : Nat) : Int) + 1)) [some (2, 121), some (0, (w + 0)), some (0, (j : Int)), some (0, (((gJ P q : Nat) : Int) + 1))] (hz_X12_left hT _ _ rfl) rfl rfl (Nat.le_of_ble_eq_true rfl) (vz_inc (by omega) (by omega)) rfl ?_
    refine v_goto (hz_X12_left hT _ _ rfl) ?_
    exact k0 hc2
  · have hc2 : (P 3 (48 * j + q)) ≠ 1 := hc2
    refine v_load (v := (2, 121)) (hz_X12_left hT _ _ rfl) rfl rfl ?_
    refine v_load (v := (0, ((gJ P q : Nat) : Int))) (hz_X12_left hT _ _ rfl) rfl rfl ?_
    refine v_call (w := 2) [some (2, 121), some (0, ((gJ P q : Nat) : Int))] hO (hz_X12_left hT _ _ rfl) rfl rfl (rb_cr hT hO q gq hR hb ?_)
    show vP D T N 270 44 h [some (2, 121), some (0, w), some (0, (j : Int)), some (0, ((gJ P q : Nat) : Int))] [(0, (gCr P q)), (0, w)] _
    refine v_bin (w := (w + (gCr P q))) (hz_X12_left hT _ _ rfl) (hq_add (by omega) (by omega)) ?_
    refine v_store1 [some (2, 121), some (0, (w + (gCr P q))), some (0, (j : Int)), some (0, ((gJ P q : Nat) : Int))] (hz_X12_left hT _ _ rfl) ⟨rfl, Nat.ne_of_beq_eq_false rfl⟩ (Nat.le_of_ble_eq_true rfl) rfl ?_
    refine v_iinc (x := ((gJ P q : Nat) : Int)) (u := 1) (w := (((gJ P q : Nat) : Int) + 1)) [some (2, 121), some (0, (w + (gCr P q))), some (0, (j : Int)), some (0, (((gJ P q : Nat) : Int) + 1))] (hz_X12_left hT _ _ rfl) rfl rfl (Nat.le_of_ble_eq_true rfl) (vz_inc (by omega) (by omega)) rfl ?_
    refine v_goto (hz_X12_left hT _ _ rfl) ?_
    exact k1 hc2
theorem qr_lf16e {D : zD} {T : zT} (hT : hTab T) (hO : vOK T) {N : Nat} {h : zH} {Q : zR → Prop} {P : PT} {j n : Nat} (w : Int) (hv0 : zHv h) (hR : rBk 0 P h) (hb : fB P) (hj : j < 3) (hge : ((P 0 0) * (P 0 1)) ≤ (n : Int))
    (k0 : vP D T N 270 4 h [some (2, 121), some (0, w), some (0, ((j : Int) + 1)), some (0, (n : Int))] [] Q) :
    vP D T (N + 1) 270 16 h [some (2, 121), some (0, w), some (0, (j : Int)), some (0, (n : Int))] [] Q := by
  refine v_loadS (v := (0, (n : Int))) (hz_X12_left hT _ _ rfl) rfl rfl ?_
  refine v_load (v := (2, 121)) (hz_X12_left hT _ _ rfl) rfl rfl ?_
  refine v_call (w := 1) [some (2, 121)] hO (hz_X12_left hT _ _ rfl) rfl rfl (rb_cells hT hO hR.w hR.r hb.1 ?_)
  show vP D T N 270 21 h [some (2, 121), some (0, w), some (0, (j : Int)), some (0, (n : Int))] [(0, ((P 0 0) * (P 0 1))), (0, (n : Int))] _
  refine v_ic (hz_X12_left hT _ _ rfl) (fun hc1 => absurd (show (n : Int) < ((P 0 0) * (P 0 1)) from hc1) (by omega)) (fun _ => ?_)
  refine v_iinc (x := (j : Int)) (u := 1) (w := ((j : Int) + 1)) [some (2, 121), some (0, w), some (0, ((j : Int) + 1)), some (0, (n : Int))] (hz_X12_left hT _ _ rfl) rfl rfl (Nat.le_of_ble_eq_true rfl) (vz_inc (by omega) (by omega)) rfl ?_
  refine v_goto (hz_X12_left hT _ _ rfl) ?_
  exact k0 
section RA
variable {D : zD} {T : zT} {N : Nat} {h : zH} {P : PT}
theorem mF_sR (lb : lB P) (j : Nat) : sC P (mF P j) 48 = sR P (mF P j) ((P 0 0).toNat * (P 0 1).toNat) := sC_sR lb _
theorem sR_le14 (hb : fB P) (j : Nat) : ∀ n, n ≤ (P 0 0).toNat * (P 0 1).toNat → sR P (mF P j) n ≤ 14 * n
  | 0, _ => Nat.le_refl _
  | n + 1, hn => by
    have ih := sR_le14 hb j n (by omega)
    have c := gCr_b hb (gQ_ok hb.1 (n := n) (by omega)).1.1
    have m : mF P j (gQ P n) ≤ 14 := by
      unfold mF
      split
      · omega
      · omega
    show sR P (mF P j) n + mF P j (gQ P n) ≤ 14 * (n + 1)
    omega
theorem rx_lfI (hT : hTab T) (hO : vOK T) {Q : zR → Prop} (hR : rBk 0 P h) (hb : fB P) {j m : Nat} (hj : j < 3) (hm : m ≤ 672 * j) (k : ∀ o : Option zV, vP D T N 270 4 h [some (2, 121), some (0, ((m + sR P (mF P j) ((P 0 0).toNat * (P 0 1).toNat) : Nat) : Int)), some (0, ((j + 1 : Nat) : Int)), o] [] Q) : ∀ (r n : Nat), n + r = (P 0 0).toNat * (P 0 1).toNat → vP D T N 270 16 h [some (2, 121), some (0, ((m + sR P (mF P j) n : Nat) : Int)), some (0, (j : Int)), some (0, (n : Int))] [] Q
  | 0, n, hn => by
    have e := wr_i hb.1
    have hn : n = (P 0 0).toNat * (P 0 1).toNat := hn
    refine vP_dn (vP_hv (fun hv => qr_lf16e hT hO _ hv hR hb hj (by rw [← e, hn]; exact Int.le_refl _) ?_))
    rw [show ((j : Int) + 1) = ((j + 1 : Nat) : Int) from by omega]
    have k := k (some (0, (n : Int)))
    rw [← hn] at k
    exact k
  | r + 1, n, hn => by
    have e := wr_i hb.1
    have w := wr_48 hb.1
    obtain ⟨gq, ej⟩ := gQ_ok hb.1 (n := n) (by omega)
    have b := sR_le14 hb j n (by omega)
    have cr := gCr_b hb gq.1
    have ih := rx_lfI hT hO hR hb hj hm k r (n + 1) (by omega)
    have es : sR P (mF P j) (n + 1) = sR P (mF P j) n + mF P j (gQ P n) := rfl
    have go : vP D T N 270 16 h [some (2, 121), some (0, ((m + sR P (mF P j) n : Nat) : Int)), some (0, (j : Int)), some (0, ((gJ P (gQ P n) : Nat) : Int))] [] Q := by
      refine vP_dn (vP_hv (fun hv => qr_lf16 (q := gQ P n) hT hO _ hv hR hb gq (by omega) hj ⟨by omega, by omega⟩ cr (by rw [ej, ← e]; omega) (fun c => ?_) (fun c => ?_)))
      · rw [es, show mF P j (gQ P n) = 0 from if_pos c] at ih
        rw [ej, Int.add_zero]
        exact ih
      · rw [es, show mF P j (gQ P n) = (gCr P (gQ P n)).toNat from if_neg c] at ih
        rw [ej, show ((m + sR P (mF P j) n : Nat) : Int) + gCr P (gQ P n) = ((m + (sR P (mF P j) n + (gCr P (gQ P n)).toNat) : Nat) : Int) from by omega]
        exact ih
    rw [ej] at go
    exact go
theorem rx_lf (hT : hTab T) (hO : vOK T) {Q : zR → Prop} (hR : rBk 0 P h) (hb : fB P) (k : Q (h, some (0, ((mT P (P 0 2).toNat : Nat) : Int)))) : ∀ (r j : Nat) (o : Option zV), j + r = (P 0 2).toNat → vP D T N 270 4 h [some (2, 121), some (0, ((mT P j : Nat) : Int)), some (0, (j : Int)), o] [] Q
  | 0, j, o, hj => by
    have hj : j = (P 0 2).toNat := hj
    subst hj
    refine vP_hv (fun hv => qr_lf4 (P := P) hT hO _ o hv hR.c (fun c => ?_) (fun _ => k))
    omega
  | r + 1, j, o, hj => by
    have l3 := hb.1.2.2.1
    refine vP_hv (fun hv => qr_lf4 (P := P) hT hO _ o hv hR.c (fun c => ?_) (fun c => ?_))
    · refine rx_lfI hT hO hR hb (by omega) (mT_le hb j) (fun o2 => ?_) ((P 0 0).toNat * (P 0 1).toNat) 0 (Nat.zero_add _)
      rw [← mF_sR hb.1 j]
      exact rx_lf hT hO hR hb k r (j + 1) o2 (by omega)
    · omega
theorem rq_many (hT : hTab T) (hO : vOK T) (hR : rBk 0 P h) (hb : fB P) (x : Int) : vP D T N 273 0 h [some (2, 121), some (0, x)] [] (fun r => r.2 = some (0, mnV P x)) := by
  have lb := hb.1
  have hR2 : rBk 0 P (zset (zset h 121 1 (0, 0)) 121 0 (0, 0)) := (hR.z1 lb).z1 lb
  have Y : ∀ v : Int, mnV P x = v → some ((0, v) : zV) = some (0, mnV P x) := fun v e => by rw [e]
  refine vP_hv (fun hv => qs_many0 (P := P) hT hO x hv hR.w hR.r hR.c hR.m hR.e ?_ ?_ ?_ ?_ ?_ ?_ ?_)
  · intro d; exact Y _ (if_pos d)
  · intro d0 d; exact Y _ ((if_neg d0).trans (if_pos d))
  · intro d0 d1 d; exact Y _ ((if_neg d0).trans ((if_neg d1).trans (if_pos d)))
  · intro d0 d1 d2 d; exact Y _ ((if_neg d0).trans ((if_neg d1).trans ((if_neg d2).trans (if_pos d))))
  · intro d0 d1 d2 d3 d; exact Y _ ((if_neg d0).trans ((if_neg d1).trans ((if_neg d2).trans ((if_neg d3).trans (if_pos d)))))
  · intro d0 d1 d2 d3 d4 d
    refine vP_hv (fun hv => qr_lf0 hT hO hv ?_)
    refine rx_lf hT hO hR2 hb ?_ (P 0 2).toNat 0 none (by omega)
    exact vP_hv (fun hv => qs_many87 hT hO x _ hv (Y _ ((if_neg d0).trans ((if_neg d1).trans ((if_neg d2).trans ((if_neg d3).trans ((if_neg d4).trans (if_pos d))))))))
  · intro d0 d1 d2 d3 d4 d; exact Y _ ((if_neg d0).trans ((if_neg d1).trans ((if_neg d2).trans ((if_neg d3).trans ((if_neg d4).trans (if_neg d))))))
end RA
end
section
theorem fRa_many {D : zD} (_ : ∀ i, -2147483648 ≤ D.2 i ∧ D.2 i ≤ 2147483647) {h h1 h2 : zH} {x v1 v2 : Int} (hZ : lZ D h) (hZ1 : lZ D h1) (hR : fR h) (z1 : zRun D TLw 614 163 0 (h, zargs 0 [(2, 0), (0, x)], []) (h1, some (0, v1))) (f1 : aFr lM_163 h h1) (z2 : zRun D TLw 614 273 0 (h1, zargs 0 [(2, 121), (0, x)], []) (h2, some (0, v2))) (f2 : aFr lM_273 h1 h2) : fR h2 ∧ v1 = v2 := by
  refine ⟨fR_S.fr (M := lM_273) (by decide +kernel) f2 (fR_S.fr (M := lM_163) (by decide +kernel) f1 hR), ?_⟩
  obtain ⟨hL, hM, r, c, s1, s2, s3, P, p1, p2, p3, p4, o⟩ := hR
  have a1 : v1 = mnV P x := by
    rcases s1 with ⟨rfl, rfl⟩ | ⟨rfl, rfl⟩
    · have q3 := hZ.run 2 z1 (Q := fun r => r.2 = some (0, mnV P x)) (fun N => cq_many_39 TLw_T vOK_T p1 p3 s2 x)
      cases (q3 : some ((0, v1) : zV) = some (0, mnV P x)); rfl
    · have q3 := hZ.run 2 z1 (Q := fun r => r.2 = some (0, mnV P x)) (fun N => cq_many_24 TLw_T vOK_T p1 p3 s2 x)
      cases (q3 : some ((0, v1) : zV) = some (0, mnV P x)); rfl
  have hR1 : rBk 0 P h1 := p2.eq p3.1 (fun b _ hb => f1.keep (S := [(126, 0, 274)]) (by decide +kernel) ⟨(126, 0, 274), List.mem_cons_self, rfl, Nat.zero_le _, show b ≤ 274 by omega⟩)
  have r3 := hZ1.run 2 z2 (Q := fun r => r.2 = some (0, mnV P x)) (fun N => rq_many TLw_T vOK_T hR1 p3 x)
  have r3 : v2 = mnV P x := by cases (r3 : some ((0, v2) : zV) = some (0, mnV P x)); rfl
  exact a1.trans r3.symm
end
