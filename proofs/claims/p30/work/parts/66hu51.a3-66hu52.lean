section
theorem qs_truly0 {D : zD} {T : zT} (hT : hTab T) (hO : vOK T) {N : Nat} {h : zH} {Q : zR → Prop} {P : PT} (x : Int) (hv0 : zHv h) (p0 : h 126 0 = (0, P 0 0)) (p1 : h 126 1 = (0, P 0 1)) (p2 : h 126 2 = (0, P 0 2)) (p3 : h 126 3 = (0, P 0 3)) (lb : (0 ≤ P 0 0 ∧ P 0 0 ≤ 8) ∧ (0 ≤ P 0 1 ∧ P 0 1 ≤ 6) ∧ (0 ≤ P 0 2 ∧ P 0 2 ≤ 3) ∧ (0 ≤ P 0 3 ∧ P 0 3 ≤ 6))
    (k0 : (x < 0) → Q (zset (zset (zset h 121 1 (0, 0)) 121 0 (0, 0)) 121 0 (0, 2), some (0, -1)))
    (k1 : (0 ≤ x) → (((P 0 3) - 1) < x) → Q (zset (zset (zset h 121 1 (0, 0)) 121 0 (0, 0)) 121 0 (0, 2), some (0, -1)))
    (k2 : (0 ≤ x) → (x ≤ ((P 0 3) - 1)) → vP D T N 331 24 (zset (zset h 121 1 (0, 0)) 121 0 (0, 0)) [some (2, 121), some (0, x), none, none] [] Q) :
    vP D T N 331 0 h [some (2, 121), some (0, x), none, none] [] Q := by
  refine v_load (v := (2, 121)) (hz_X12_truly hT _ _ rfl) rfl rfl ?_
  refine v_push (0) (hz_X12_truly hT _ _ rfl) rfl ?_
  refine v_putf (r := 121) hO (hz_X12_truly hT _ _ rfl) rfl (fun hf1 => ?_)
  refine v_load (v := (2, 121)) (hz_X12_truly hT _ _ rfl) rfl rfl ?_
  refine v_push (0) (hz_X12_truly hT _ _ rfl) rfl ?_
  refine v_putf (r := 121) hO (hz_X12_truly hT _ _ rfl) rfl (fun hf2 => ?_)
  refine v_load (v := (2, 121)) (hz_X12_truly hT _ _ rfl) rfl rfl ?_
  refine v_load (v := (0, x)) (hz_X12_truly hT _ _ rfl) rfl rfl ?_
  refine v_call (w := 2) [some (2, 121), some (0, x)] hO (hz_X12_truly hT _ _ rfl) rfl rfl ?_
  refine v_load (v := (0, x)) (hi_X12_isCompanyAt_0 hT) rfl rfl ?_
  refine v_i2l (hi_X12_isCompanyAt_1 hT) ?_
  refine v_push (0) (hi_X12_isCompanyAt_2 hT) rfl ?_
  refine v_load (v := (2, 121)) (hi_X12_isCompanyAt_3 hT) rfl rfl ?_
  refine v_getR (c := 126) (r := 121) (hi_X12_isCompanyAt_4 hT) rfl rfl rfl ?_
  refine v_push (3) (hi_X12_isCompanyAt_7 hT) rfl ?_
  refine v_aldV (v := (0, (P 0 3))) (r := 126) (hi_X12_isCompanyAt_8 hT) rfl rfl (fun _ _ _ => (Eq.trans (Eq.trans (zset_ne (fun c => absurd c.1 (by decide))) (zset_ne (fun c => absurd c.1 (by decide)))) (p3))) (fun ha3 hb4 => ?_)
  refine v_push (1) (hi_X12_isCompanyAt_9 hT) rfl ?_
  refine v_bin (w := ((P 0 3) - 1)) (hi_X12_isCompanyAt_10 hT) (hq_sub (by omega) (by omega)) ?_
  refine v_i2l (hi_X12_isCompanyAt_11 hT) ?_
  refine v_call (w := 6) [some (1, x), none, some (1, 0), none, some (1, ((P 0 3) - 1)), none] hO (hi_X12_isCompanyAt_12 hT) rfl rfl ?_
  refine v_load (v := (1, x)) (hi_X12_isIn_0 hT) rfl rfl ?_
  refine v_load (v := (1, 0)) (hi_X12_isIn_1 hT) rfl rfl ?_
  refine v_lif (hi_X12_isIn_2 hT) (hi_X12_isIn_3 hT) (fun hc5 => ?_) (fun hc5 => ?_)
  · have hc5 : x < 0 := hc5
    refine v_push (0) (hi_X12_isIn_17 hT) rfl ?_
    refine v_ret (hi_X12_isIn_18 hT) (Or.inl rfl) ?_
    show vP D T N 246 15 (zset (zset h 121 1 (0, 0)) 121 0 (0, 0)) [some (2, 121), some (0, x)] [(0, 0)] _
    refine v_ret (hi_X12_isCompanyAt_15 hT) (Or.inl rfl) ?_
    show vP D T N 331 15 (zset (zset h 121 1 (0, 0)) 121 0 (0, 0)) [some (2, 121), some (0, x), none, none] [(0, 0)] _
    refine v_if (hz_X12_truly hT _ _ rfl) (fun _ => ?_) (fun hc6 => absurd (show (0 : Int) = 0 from (by decide)) hc6)
    refine v_load (v := (2, 121)) (hz_X12_truly hT _ _ rfl) rfl rfl ?_
    refine v_push (2) (hz_X12_truly hT _ _ rfl) rfl ?_
    refine v_call (w := 2) [some (2, 121), some (0, 2)] hO (hz_X12_truly hT _ _ rfl) rfl rfl ?_
    refine v_load (v := (2, 121)) (hi_X12_refuse_0 hT) rfl rfl ?_
    refine v_load (v := (0, 2)) (hi_X12_refuse_1 hT) rfl rfl ?_
    refine v_putf (r := 121) hO (hi_X12_refuse_2 hT) rfl (fun hf7 => ?_)
    refine v_push (-1) (hi_X12_refuse_5 hT) rfl ?_
    refine v_ret (hi_X12_refuse_6 hT) (Or.inl rfl) ?_
    show vP D T N 331 23 (zset (zset (zset h 121 1 (0, 0)) 121 0 (0, 0)) 121 0 (0, 2)) [some (2, 121), some (0, x), none, none] [(0, -1)] _
    refine v_ret (hz_X12_truly hT _ _ rfl) (Or.inl rfl) ?_
    exact k0 hc5
  · have hc5 : 0 ≤ x := Int.not_lt.mp hc5
    refine v_load (v := (1, x)) (hi_X12_isIn_6 hT) rfl rfl ?_
    refine v_load (v := (1, ((P 0 3) - 1))) (hi_X12_isIn_7 hT) rfl rfl ?_
    refine v_lif (hi_X12_isIn_9 hT) (hi_X12_isIn_10 hT) (fun hc8 => ?_) (fun hc8 => ?_)
    · have hc8 : ((P 0 3) - 1) < x := hc8
      refine v_push (0) (hi_X12_isIn_17 hT) rfl ?_
      refine v_ret (hi_X12_isIn_18 hT) (Or.inl rfl) ?_
      show vP D T N 246 15 (zset (zset h 121 1 (0, 0)) 121 0 (0, 0)) [some (2, 121), some (0, x)] [(0, 0)] _
      refine v_ret (hi_X12_isCompanyAt_15 hT) (Or.inl rfl) ?_
      show vP D T N 331 15 (zset (zset h 121 1 (0, 0)) 121 0 (0, 0)) [some (2, 121), some (0, x), none, none] [(0, 0)] _
      refine v_if (hz_X12_truly hT _ _ rfl) (fun _ => ?_) (fun hc9 => absurd (show (0 : Int) = 0 from (by decide)) hc9)
      refine v_load (v := (2, 121)) (hz_X12_truly hT _ _ rfl) rfl rfl ?_
      refine v_push (2) (hz_X12_truly hT _ _ rfl) rfl ?_
      refine v_call (w := 2) [some (2, 121), some (0, 2)] hO (hz_X12_truly hT _ _ rfl) rfl rfl ?_
      refine v_load (v := (2, 121)) (hi_X12_refuse_0 hT) rfl rfl ?_
      refine v_load (v := (0, 2)) (hi_X12_refuse_1 hT) rfl rfl ?_
      refine v_putf (r := 121) hO (hi_X12_refuse_2 hT) rfl (fun hf10 => ?_)
      refine v_push (-1) (hi_X12_refuse_5 hT) rfl ?_
      refine v_ret (hi_X12_refuse_6 hT) (Or.inl rfl) ?_
      show vP D T N 331 23 (zset (zset (zset h 121 1 (0, 0)) 121 0 (0, 0)) 121 0 (0, 2)) [some (2, 121), some (0, x), none, none] [(0, -1)] _
      refine v_ret (hz_X12_truly hT _ _ rfl) (Or.inl rfl) ?_
      exact k1 hc5 hc8
    · have hc8 : x ≤ ((P 0 3) - 1) := Int.not_lt.mp hc8
      refine v_push (1) (hi_X12_isIn_13 hT) rfl ?_
      refine v_goto (hi_X12_isIn_14 hT) ?_
      refine v_ret (hi_X12_isIn_18 hT) (Or.inl rfl) ?_
      show vP D T N 246 15 (zset (zset h 121 1 (0, 0)) 121 0 (0, 0)) [some (2, 121), some (0, x)] [(0, 1)] _
      refine v_ret (hi_X12_isCompanyAt_15 hT) (Or.inl rfl) ?_
      show vP D T N 331 15 (zset (zset h 121 1 (0, 0)) 121 0 (0, 0)) [some (2, 121), some (0, x), none, none] [(0, 1)] _
      refine v_if (hz_X12_truly hT _ _ rfl) (fun hc11 => absurd (show (1 : Int) = 0 from hc11) (by decide)) (fun _ => ?_)
      exact k2 hc5 hc8
theorem qs_truly24 {D : zD} {T : zT} (hT : hTab T) (hO : vOK T) {N : Nat} {h : zH} {Q : zR → Prop} {a : Nat} (hv0 : zHv h)
    (k0 : vP D T N 323 0 h [some (2, 121), some (0, (a : Int))] [] (fun r1 => vP D T N 331 29 r1.1 [some (2, 121), some (0, (a : Int)), none, none] (zpush r1.2 []) Q)) :
    vP D T N 331 24 h [some (2, 121), some (0, (a : Int)), none, none] [] Q := by
  refine v_load (v := (2, 121)) (hz_X12_truly hT _ _ rfl) rfl rfl ?_
  refine v_load (v := (0, (a : Int))) (hz_X12_truly hT _ _ rfl) rfl rfl ?_
  refine v_call (w := 2) [some (2, 121), some (0, (a : Int))] hO (hz_X12_truly hT _ _ rfl) rfl rfl ?_
  exact k0 
theorem qs_truly29n {D : zD} {T : zT} (hT : hTab T) (hO : vOK T) {N : Nat} {h : zH} {Q : zR → Prop} {a : Nat} (hv0 : zHv h)
    (k0 : Q (zset h 121 0 (0, 9), some (0, -1))) :
    vP D T N 331 29 h [some (2, 121), some (0, (a : Int)), none, none] [(0, 1000000)] Q := by
  refine v_push (1000000) (hz_X12_truly hT _ _ rfl) rfl ?_
  refine v_ic (hz_X12_truly hT _ _ rfl) (fun _ => ?_) (fun hc1 => absurd (show (1000000 : Int) = 1000000 from (by decide)) hc1)
  refine v_load (v := (2, 121)) (hz_X12_truly hT _ _ rfl) rfl rfl ?_
  refine v_push (9) (hz_X12_truly hT _ _ rfl) rfl ?_
  refine v_call (w := 2) [some (2, 121), some (0, 9)] hO (hz_X12_truly hT _ _ rfl) rfl rfl ?_
  refine v_load (v := (2, 121)) (hi_X12_refuse_0 hT) rfl rfl ?_
  refine v_load (v := (0, 9)) (hi_X12_refuse_1 hT) rfl rfl ?_
  refine v_putf (r := 121) hO (hi_X12_refuse_2 hT) rfl (fun hf2 => ?_)
  refine v_push (-1) (hi_X12_refuse_5 hT) rfl ?_
  refine v_ret (hi_X12_refuse_6 hT) (Or.inl rfl) ?_
  show vP D T N 331 41 (zset h 121 0 (0, 9)) [some (2, 121), some (0, (a : Int)), none, none] [(0, -1)] _
  refine v_ret (hz_X12_truly hT _ _ rfl) (Or.inl rfl) ?_
  exact k0 
theorem qs_truly29 {D : zD} {T : zT} (hT : hTab T) (hO : vOK T) {N : Nat} {h : zH} {Q : zR → Prop} {a : Nat} (w : Int) (hv0 : zHv h) (hw : w ≠ 1000000)
    (k0 : vP D T N 331 46 h [some (2, 121), some (0, (a : Int)), some (0, 0), some (0, 1)] [] Q) :
    vP D T N 331 29 h [some (2, 121), some (0, (a : Int)), none, none] [(0, w)] Q := by
  refine v_push (1000000) (hz_X12_truly hT _ _ rfl) rfl ?_
  refine v_ic (hz_X12_truly hT _ _ rfl) (fun hc1 => absurd (show w = 1000000 from hc1) hw) (fun _ => ?_)
  refine v_push (0) (hz_X12_truly hT _ _ rfl) rfl ?_
  refine v_store1 [some (2, 121), some (0, (a : Int)), some (0, 0), none] (hz_X12_truly hT _ _ rfl) ⟨rfl, Nat.ne_of_beq_eq_false rfl⟩ (Nat.le_of_ble_eq_true rfl) rfl ?_
  refine v_push (1) (hz_X12_truly hT _ _ rfl) rfl ?_
  refine v_store1 [some (2, 121), some (0, (a : Int)), some (0, 0), some (0, 1)] (hz_X12_truly hT _ _ rfl) ⟨rfl, Nat.ne_of_beq_eq_false rfl⟩ (Nat.le_of_ble_eq_true rfl) rfl ?_
  exact k0 
theorem qs_truly46 {D : zD} {T : zT} (hT : hTab T) (hO : vOK T) {N : Nat} {h : zH} {Q : zR → Prop} {P : PT} {a i n b : Nat} (w : Int) (hv0 : zHv h) (hR : rBk 0 P h) (hb : fB P) (e31 : h 121 31 = (0, (n : Int))) (eb : h 132 i = (0, ((gJ P b : Nat) : Int))) (hi : i < 49) (hin : (i : Int) < (n : Int)) (gb : gIn P b) (bj : gJ P b < 48) (bw : 0 ≤ w ∧ w ≤ 1000) (hc : 1 ≤ gCr P b ∧ gCr P b ≤ 14)
    (k0 : (0 ≤ (i : Int)) → ((i : Int) < 49) → (0 ≤ (5 + ((gJ P b : Nat) : Int))) → ((5 + ((gJ P b : Nat) : Int)) < 2750) → ((P 1 b) = 3) → Q (zset h 121 0 (0, 9), some (0, -1)))
    (k1 : (0 ≤ (i : Int)) → ((i : Int) < 49) → (0 ≤ (5 + ((gJ P b : Nat) : Int))) → ((5 + ((gJ P b : Nat) : Int)) < 2750) → ((P 1 b) ≠ 3) → vP D T N 331 46 h [some (2, 121), some (0, (a : Int)), some (0, (w + (gCr P b))), some (0, ((i : Int) + 1))] [] Q) :
    vP D T (N + 1) 331 46 h [some (2, 121), some (0, (a : Int)), some (0, w), some (0, (i : Int))] [] Q := by
  refine v_loadS (v := (0, (i : Int))) (hz_X12_truly hT _ _ rfl) rfl rfl ?_
  refine v_load (v := (2, 121)) (hz_X12_truly hT _ _ rfl) rfl rfl ?_
  refine v_getf (v := (0, (n : Int))) (r := 121) (hz_X12_truly hT _ _ rfl) rfl rfl (fun _ => e31) ?_
  refine v_ic (hz_X12_truly hT _ _ rfl) (fun _ => ?_) (fun hc1 => absurd (show (i : Int) < (n : Int) from hin) hc1)
  refine v_load (v := (2, 121)) (hz_X12_truly hT _ _ rfl) rfl rfl ?_
  refine v_getR (c := 126) (r := 121) (hz_X12_truly hT _ _ rfl) rfl rfl rfl ?_
  refine v_push (5) (hz_X12_truly hT _ _ rfl) rfl ?_
  refine v_load (v := (2, 121)) (hz_X12_truly hT _ _ rfl) rfl rfl ?_
  refine v_getR (c := 132) (r := 121) (hz_X12_truly hT _ _ rfl) rfl rfl rfl ?_
  refine v_load (v := (0, (i : Int))) (hz_X12_truly hT _ _ rfl) rfl rfl ?_
  refine v_aldB (t := 0) (r := 132) (w := ((gJ P b : Nat) : Int)) (hz_X12_truly hT _ _ rfl) rfl rfl rfl (fun _ _ => (congrArg Prod.snd eb)) (fun ha2 hb3 => ?_)
  refine v_bin (w := (5 + ((gJ P b : Nat) : Int))) (hz_X12_truly hT _ _ rfl) (hq_add (by omega) (by omega)) ?_
  refine v_aldB (t := 0) (r := 126) (w := (P 1 b)) (hz_X12_truly hT _ _ rfl) rfl rfl rfl (fun _ _ => (congrArg Prod.snd (hR.l gb))) (fun ha4 hb5 => ?_)
  refine v_push (3) (hz_X12_truly hT _ _ rfl) rfl ?_
  refine v_ic (hz_X12_truly hT _ _ rfl) (fun hc6 => ?_) (fun hc6 => ?_)
  · have hc6 : (P 1 b) = 3 := hc6
    refine v_load (v := (2, 121)) (hz_X12_truly hT _ _ rfl) rfl rfl ?_
    refine v_push (9) (hz_X12_truly hT _ _ rfl) rfl ?_
    refine v_call (w := 2) [some (2, 121), some (0, 9)] hO (hz_X12_truly hT _ _ rfl) rfl rfl ?_
    refine v_load (v := (2, 121)) (hi_X12_refuse_0 hT) rfl rfl ?_
    refine v_load (v := (0, 9)) (hi_X12_refuse_1 hT) rfl rfl ?_
    refine v_putf (r := 121) hO (hi_X12_refuse_2 hT) rfl (fun hf7 => ?_)
    refine v_push (-1) (hi_X12_refuse_5 hT) rfl ?_
    refine v_ret (hi_X12_refuse_6 hT) (Or.inl rfl) ?_
    show vP D T N 331 77 (zset h 121 0 (0, 9)) [some (2, 121), some (0, (a : Int)), some (0, w), some (0, (i : Int))] [(0, -1)] _
    refine v_ret (hz_X12_truly hT _ _ rfl) (Or.inl rfl) ?_
    exact k0 ha2 hb3 ha4 hb5 hc6
  · have hc6 : (P 1 b) ≠ 3 := hc6
    refine v_load (v := (0, w)) (hz_X12_truly hT _ _ rfl) rfl rfl ?_
    refine v_load (v := (2, 121)) (hz_X12_truly hT _ _ rfl) rfl rfl ?_
    refine v_load (v := (2, 121)) (hz_X12_truly hT _ _ rfl) rfl rfl ?_
    refine v_getR (c := 132) (r := 121) (hz_X12_truly hT _ _ rfl) rfl rfl rfl ?_
    refine v_load (v := (0, (i : Int))) (hz_X12_truly hT _ _ rfl) rfl rfl ?_
    refine v_aldB (t := 0) (r := 132) (w := ((gJ P b : Nat) : Int)) (hz_X12_truly hT _ _ rfl) rfl rfl rfl (fun _ _ => (congrArg Prod.snd eb)) (fun ha8 hb9 => ?_)
    refine v_call (w := 2) [some (2, 121), some (0, ((gJ P b : Nat) : Int))] hO (hz_X12_truly hT _ _ rfl) rfl rfl (rb_cr hT hO b gb hR hb ?_)
    show vP D T N 331 89 h [some (2, 121), some (0, (a : Int)), some (0, w), some (0, (i : Int))] [(0, (gCr P b)), (0, w)] _
    refine v_bin (w := (w + (gCr P b))) (hz_X12_truly hT _ _ rfl) (hq_add (by omega) (by omega)) ?_
    refine v_store1 [some (2, 121), some (0, (a : Int)), some (0, (w + (gCr P b))), some (0, (i : Int))] (hz_X12_truly hT _ _ rfl) ⟨rfl, Nat.ne_of_beq_eq_false rfl⟩ (Nat.le_of_ble_eq_true rfl) rfl ?_
    refine v_iinc (x := (i : Int)) (u := 1) (w := ((i : Int) + 1)) [some (2, 121), some (0, (a : Int)), some (0, (w + (gCr P b))), some (0, ((i : Int) + 1))] (hz_X12_truly hT _ _ rfl) rfl rfl (Nat.le_of_ble_eq_true rfl) (vz_inc (by omega) (by omega)) rfl ?_
    refine v_goto (hz_X12_truly hT _ _ rfl) ?_
    exact k1 ha2 hb3 ha4 hb5 hc6
theorem qs_truly46e {D : zD} {T : zT} (hT : hTab T) (hO : vOK T) {N : Nat} {h : zH} {Q : zR → Prop} {a n : Nat} (w : Int) (hv0 : zHv h) (e31 : h 121 31 = (0, (n : Int)))
    (k0 : Q (h, some (0, w))) :
    vP D T (N + 1) 331 46 h [some (2, 121), some (0, (a : Int)), some (0, w), some (0, (n : Int))] [] Q := by
  refine v_loadS (v := (0, (n : Int))) (hz_X12_truly hT _ _ rfl) rfl rfl ?_
  refine v_load (v := (2, 121)) (hz_X12_truly hT _ _ rfl) rfl rfl ?_
  refine v_getf (v := (0, (n : Int))) (r := 121) (hz_X12_truly hT _ _ rfl) rfl rfl (fun _ => e31) ?_
  refine v_ic (hz_X12_truly hT _ _ rfl) (fun hc1 => absurd (show (n : Int) < (n : Int) from hc1) (by omega)) (fun _ => ?_)
  refine v_load (v := (0, w)) (hz_X12_truly hT _ _ rfl) rfl rfl ?_
  refine v_ret (hz_X12_truly hT _ _ rfl) (Or.inl rfl) ?_
  exact k0 
section RA
variable {D : zD} {T : zT} {N : Nat} {h : zH} {P : PT}
theorem rx_tuL (hT : hTab T) (hO : vOK T) {Q : zR → Prop} {p : Nat → Nat} {n a : Nat} (hR : rBk 0 P h) (hb : fB P) (hn : n ≤ 47) (hp : rHp P p n h) (hg : ∀ i, i ≤ n → gIn P (p i)) : ∀ (f s : Nat) (w : Int), s + f = n + 1 → 0 ≤ w → w + 14 * f ≤ 1000 → (∀ g : zH, Q (g, some (0, tCg P p f s w))) → vP D T N 331 46 h [some (2, 121), some (0, (a : Int)), some (0, w), some (0, (s : Int))] [] Q
  | 0, s, w, hs, h0, h1, k => by
    have : s = n + 1 := hs
    subst this
    exact vP_dn (vP_hv (fun hv => qs_truly46e hT hO w hv hp.2 (k h)))
  | f + 1, s, w, hs, h0, h1, k => by
    have g := hg s (by omega)
    have cr := gCr_b hb g.1
    have k : ∀ g : zH, Q (g, some (0, if P 1 (p s) = 3 then -1 else tCg P p f (s + 1) (w + gCr P (p s)))) := k
    refine vP_dn (vP_hv (fun hv => qs_truly46 (b := p s) hT hO w hv hR hb hp.2 (hp.1 s (by omega)) (by omega) (by omega) g (gJ_lt hb.1 g) ⟨h0, by omega⟩ cr ?_ ?_))
    · intro _ _ _ _ c
      have k := k (zset h 121 0 (0, 9))
      rw [if_pos c] at k
      exact k
    · intro _ _ _ _ c
      exact rx_tuL hT hO hR hb hn hp hg f (s + 1) _ (by omega) (by omega) (by omega) (fun g => by
        have k := k g
        rw [if_neg c] at k
        exact k)
theorem rq_truly (hT : hTab T) (hO : vOK T) (hR : rBk 0 P h) (hb : fB P) (x : Int) : vP D T N 331 0 h [some (2, 121), some (0, x), none, none] [] (fun r => r.2 = some (0, trV P x)) := by
  have lb := hb.1
  have l6 := lb.2.2.2.2
  have hR2 : rBk 0 P (zset (zset h 121 1 (0, 0)) 121 0 (0, 0)) := (hR.z1 lb).z1 lb
  have no : ¬ (okM P x ∧ mC P x.toNat ≠ -1) → (some ((0, -1) : zV)) = some (0, trV P x) := fun c => by
    unfold trV
    rw [if_neg c]
  refine vP_hv (fun hv => qs_truly0 (P := P) hT hO x hv hR.w hR.r hR.c hR.m lb ?k0 ?k1 ?k2)
  case k2 =>
    intro c1 c2
    obtain ⟨a, rfl⟩ : ∃ a : Nat, x = (a : Int) := ⟨x.toNat, by omega⟩
    have c2 : (a : Int) < P 0 3 := by omega
    refine vP_hv (fun hv => qs_truly24 hT hO hv ?_)
    refine rx_tc hT hO _ a rfl hR2 hb c2 (fun g u c => ?_) (fun g u d0 d1 d2 => ?_)
    · exact vP_hv (fun hv => qs_truly29n hT hO hv (no (fun d => d.2 c)))
    · have d0 : 0 ≤ mC P a := d0
      obtain ⟨n47, hg⟩ := mP_ok hb c2 d0
      have d1 : mC P a < 1000000 := d1
      have e2 : trV P (a : Int) = tCg P (mP P a) (mN P a) 1 0 := if_pos ⟨⟨c1, c2⟩, (show mC P a ≠ -1 from by omega)⟩
      rw [e2]
      show vP D T N 331 29 g [some (2, 121), some (0, (a : Int)), none, none] [(0, mC P a)] _
      refine vP_hv (fun hv => qs_truly29 hT hO (mC P a) hv (by omega) ?_)
      have hR3 : rBk 0 P g := hR2.eq lb (fun b _ _ => u 126 b (by omega))
      refine rx_tuL hT hO hR3 hb n47 d2 hg (mN P a) 1 0 (by omega) (by omega) ?_ (fun _ => rfl)
      have : mN P a ≤ 47 := n47
      omega
  all_goals
    intros
    exact no (by rintro ⟨⟨o1, o2⟩, _⟩; omega)
end RA
end
section
theorem fRa_truly {D : zD} (_ : ∀ i, -2147483648 ≤ D.2 i ∧ D.2 i ≤ 2147483647) {h h1 h2 : zH} {x v1 v2 : Int} (hZ : lZ D h) (hZ1 : lZ D h1) (hR : fR h) (z1 : zRun D TLw 614 189 0 (h, zargs 0 [(2, 0), (0, x)], []) (h1, some (0, v1))) (f1 : aFr lM_189 h h1) (z2 : zRun D TLw 614 331 0 (h1, zargs 0 [(2, 121), (0, x)], []) (h2, some (0, v2))) (f2 : aFr lM_331 h1 h2) : fR h2 ∧ v1 = v2 := by
  refine ⟨fR_S.fr (M := lM_331) (by decide +kernel) f2 (fR_S.fr (M := lM_189) (by decide +kernel) f1 hR), ?_⟩
  obtain ⟨hL, hM, r, c, s1, s2, s3, P, p1, p2, p3, p4, o⟩ := hR
  have a1 : v1 = trV P x := by
    rcases s1 with ⟨rfl, rfl⟩ | ⟨rfl, rfl⟩
    · have q3 := hZ.run 3 z1 (Q := fun r => r.2 = some (0, trV P x)) (fun N => cq_truly_39 TLw_T vOK_T p1 p3 s2 x)
      cases (q3 : some ((0, v1) : zV) = some (0, trV P x)); rfl
    · have q3 := hZ.run 3 z1 (Q := fun r => r.2 = some (0, trV P x)) (fun N => cq_truly_24 TLw_T vOK_T p1 p3 s2 x)
      cases (q3 : some ((0, v1) : zV) = some (0, trV P x)); rfl
  have hR1 : rBk 0 P h1 := p2.eq p3.1 (fun b _ hb => f1.keep (S := [(126, 0, 274)]) (by decide +kernel) ⟨(126, 0, 274), List.mem_cons_self, rfl, Nat.zero_le _, show b ≤ 274 by omega⟩)
  have r3 := hZ1.run 4 z2 (Q := fun r => r.2 = some (0, trV P x)) (fun N => rq_truly TLw_T vOK_T hR1 p3 x)
  have r3 : v2 = trV P x := by cases (r3 : some ((0, v2) : zV) = some (0, trV P x)); rfl
  exact a1.trans r3.symm
end
