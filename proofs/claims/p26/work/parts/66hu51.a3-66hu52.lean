section
theorem qs_way0 {D : zD} {T : zT} (hT : hTab T) (hO : vOK T) {N : Nat} {h : zH} {Q : zR → Prop} {P : PT} (x : Int) (hv0 : zHv h) (p0 : h 126 0 = (0, P 0 0)) (p1 : h 126 1 = (0, P 0 1)) (p2 : h 126 2 = (0, P 0 2)) (p3 : h 126 3 = (0, P 0 3)) (lb : (0 ≤ P 0 0 ∧ P 0 0 ≤ 8) ∧ (0 ≤ P 0 1 ∧ P 0 1 ≤ 6) ∧ (0 ≤ P 0 2 ∧ P 0 2 ≤ 3) ∧ (0 ≤ P 0 3 ∧ P 0 3 ≤ 6))
    (k0 : (x < 0) → Q (zset (zset (zset h 121 1 (0, 0)) 121 0 (0, 0)) 121 0 (0, 2), some (0, -1)))
    (k1 : (0 ≤ x) → (((P 0 3) - 1) < x) → Q (zset (zset (zset h 121 1 (0, 0)) 121 0 (0, 0)) 121 0 (0, 2), some (0, -1)))
    (k2 : (0 ≤ x) → (x ≤ ((P 0 3) - 1)) → vP D T N 334 24 (zset (zset h 121 1 (0, 0)) 121 0 (0, 0)) [some (2, 121), some (0, x), none, none] [] Q) :
    vP D T N 334 0 h [some (2, 121), some (0, x), none, none] [] Q := by
  refine v_load (v := (2, 121)) (hz_X12_way hT _ _ rfl) rfl rfl ?_
  refine v_push (0) (hz_X12_way hT _ _ rfl) rfl ?_
  refine v_putf (r := 121) hO (hz_X12_way hT _ _ rfl) rfl (fun hf1 => ?_)
  refine v_load (v := (2, 121)) (hz_X12_way hT _ _ rfl) rfl rfl ?_
  refine v_push (0) (hz_X12_way hT _ _ rfl) rfl ?_
  refine v_putf (r := 121) hO (hz_X12_way hT _ _ rfl) rfl (fun hf2 => ?_)
  refine v_load (v := (2, 121)) (hz_X12_way hT _ _ rfl) rfl rfl ?_
  refine v_load (v := (0, x)) (hz_X12_way hT _ _ rfl) rfl rfl ?_
  refine v_call (w := 2) [some (2, 121), some (0, x)] hO (hz_X12_way hT _ _ rfl) rfl rfl ?_
  refine v_load (v := (0, x)) (hi_X12_isCompanyAt_0 hT) rfl rfl ?_
  refine v_i2l (hi_X12_isCompanyAt_1 hT) ?_
  refine v_push (0) (hi_X12_isCompanyAt_2 hT) rfl ?_
  refine v_load (v := (2, 121)) (hi_X12_isCompanyAt_3 hT) rfl rfl ?_
  refine v_getR (c := 126) (r := 121) (hi_X12_isCompanyAt_4 hT) rfl rfl rfl ?_
  refine v_push (3) (hi_X12_isCompanyAt_7 hT) rfl ?_
  refine v_aldV (v := (0, (P 0 3))) (r := 126) (hi_X12_isCompanyAt_8 hT) rfl rfl (fun _ _ _ => (Eq.trans (Eq.trans (zset_ne (fun c => absurd c.1 (by decide))) (zset_ne (fun c => absurd c.1 (by decide)))) (p3))) (fun ha3 hb4 => ?_)
  refine v_push (1) (hi_X12_isCompanyAt_9 hT) rfl ?_
  refine v_bin (w := ((P 0 3) - 1)) (hi_X12_isCompanyAt_10 hT) (hq_sub (by omega) (by omega)) ?_
  refine v_i2l (hi_X12_isCompanyAt_11 hT) ?_
  refine v_call (w := 6) [some (1, x), none, some (1, 0), none, some (1, ((P 0 3) - 1)), none] hO (hi_X12_isCompanyAt_12 hT) rfl rfl ?_
  refine v_load (v := (1, x)) (hi_X12_isIn_0 hT) rfl rfl ?_
  refine v_load (v := (1, 0)) (hi_X12_isIn_1 hT) rfl rfl ?_
  refine v_lif (hi_X12_isIn_2 hT) (hi_X12_isIn_3 hT) (fun hc5 => ?_) (fun hc5 => ?_)
  · have hc5 : x < 0 := hc5
    refine v_push (0) (hi_X12_isIn_17 hT) rfl ?_
    refine v_ret (hi_X12_isIn_18 hT) (Or.inl rfl) ?_
    show vP D T N 246 15 (zset (zset h 121 1 (0, 0)) 121 0 (0, 0)) [some (2, 121), some (0, x)] [(0, 0)] _
    refine v_ret (hi_X12_isCompanyAt_15 hT) (Or.inl rfl) ?_
    show vP D T N 334 15 (zset (zset h 121 1 (0, 0)) 121 0 (0, 0)) [some (2, 121), some (0, x), none, none] [(0, 0)] _
    refine v_if (hz_X12_way hT _ _ rfl) (fun _ => ?_) (fun hc6 => absurd (show (0 : Int) = 0 from (by decide)) hc6)
    refine v_load (v := (2, 121)) (hz_X12_way hT _ _ rfl) rfl rfl ?_
    refine v_push (2) (hz_X12_way hT _ _ rfl) rfl ?_
    refine v_call (w := 2) [some (2, 121), some (0, 2)] hO (hz_X12_way hT _ _ rfl) rfl rfl ?_
    refine v_load (v := (2, 121)) (hi_X12_refuse_0 hT) rfl rfl ?_
    refine v_load (v := (0, 2)) (hi_X12_refuse_1 hT) rfl rfl ?_
    refine v_putf (r := 121) hO (hi_X12_refuse_2 hT) rfl (fun hf7 => ?_)
    refine v_push (-1) (hi_X12_refuse_5 hT) rfl ?_
    refine v_ret (hi_X12_refuse_6 hT) (Or.inl rfl) ?_
    show vP D T N 334 23 (zset (zset (zset h 121 1 (0, 0)) 121 0 (0, 0)) 121 0 (0, 2)) [some (2, 121), some (0, x), none, none] [(0, -1)] _
    refine v_ret (hz_X12_way hT _ _ rfl) (Or.inl rfl) ?_
    exact k0 hc5
  · have hc5 : 0 ≤ x := Int.not_lt.mp hc5
    refine v_load (v := (1, x)) (hi_X12_isIn_6 hT) rfl rfl ?_
    refine v_load (v := (1, ((P 0 3) - 1))) (hi_X12_isIn_7 hT) rfl rfl ?_
    refine v_lif (hi_X12_isIn_9 hT) (hi_X12_isIn_10 hT) (fun hc8 => ?_) (fun hc8 => ?_)
    · have hc8 : ((P 0 3) - 1) < x := hc8
      refine v_push (0) (hi_X12_isIn_17 hT) rfl ?_
      refine v_ret (hi_X12_isIn_18 hT) (Or.inl rfl) ?_
      show vP D T N 246 15 (zset (zset h 121 1 (0, 0)) 121 0 (0, 0)) [some (2, 121), some (0, x)] [(0, 0)] _
      refine v_ret (hi_X12_isCompanyAt_15 hT) (Or.inl rfl) ?_
      show vP D T N 334 15 (zset (zset h 121 1 (0, 0)) 121 0 (0, 0)) [some (2, 121), some (0, x), none, none] [(0, 0)] _
      refine v_if (hz_X12_way hT _ _ rfl) (fun _ => ?_) (fun hc9 => absurd (show (0 : Int) = 0 from (by decide)) hc9)
      refine v_load (v := (2, 121)) (hz_X12_way hT _ _ rfl) rfl rfl ?_
      refine v_push (2) (hz_X12_way hT _ _ rfl) rfl ?_
      refine v_call (w := 2) [some (2, 121), some (0, 2)] hO (hz_X12_way hT _ _ rfl) rfl rfl ?_
      refine v_load (v := (2, 121)) (hi_X12_refuse_0 hT) rfl rfl ?_
      refine v_load (v := (0, 2)) (hi_X12_refuse_1 hT) rfl rfl ?_
      refine v_putf (r := 121) hO (hi_X12_refuse_2 hT) rfl (fun hf10 => ?_)
      refine v_push (-1) (hi_X12_refuse_5 hT) rfl ?_
      refine v_ret (hi_X12_refuse_6 hT) (Or.inl rfl) ?_
      show vP D T N 334 23 (zset (zset (zset h 121 1 (0, 0)) 121 0 (0, 0)) 121 0 (0, 2)) [some (2, 121), some (0, x), none, none] [(0, -1)] _
      refine v_ret (hz_X12_way hT _ _ rfl) (Or.inl rfl) ?_
      exact k1 hc5 hc8
    · have hc8 : x ≤ ((P 0 3) - 1) := Int.not_lt.mp hc8
      refine v_push (1) (hi_X12_isIn_13 hT) rfl ?_
      refine v_goto (hi_X12_isIn_14 hT) ?_
      refine v_ret (hi_X12_isIn_18 hT) (Or.inl rfl) ?_
      show vP D T N 246 15 (zset (zset h 121 1 (0, 0)) 121 0 (0, 0)) [some (2, 121), some (0, x)] [(0, 1)] _
      refine v_ret (hi_X12_isCompanyAt_15 hT) (Or.inl rfl) ?_
      show vP D T N 334 15 (zset (zset h 121 1 (0, 0)) 121 0 (0, 0)) [some (2, 121), some (0, x), none, none] [(0, 1)] _
      refine v_if (hz_X12_way hT _ _ rfl) (fun hc11 => absurd (show (1 : Int) = 0 from hc11) (by decide)) (fun _ => ?_)
      exact k2 hc5 hc8
theorem qs_way24 {D : zD} {T : zT} (hT : hTab T) (hO : vOK T) {N : Nat} {h : zH} {Q : zR → Prop} {a : Nat} (hv0 : zHv h)
    (k0 : vP D T N 323 0 h [some (2, 121), some (0, (a : Int))] [] (fun r1 => vP D T N 334 29 r1.1 [some (2, 121), some (0, (a : Int)), none, none] (zpush r1.2 []) Q)) :
    vP D T N 334 24 h [some (2, 121), some (0, (a : Int)), none, none] [] Q := by
  refine v_load (v := (2, 121)) (hz_X12_way hT _ _ rfl) rfl rfl ?_
  refine v_load (v := (0, (a : Int))) (hz_X12_way hT _ _ rfl) rfl rfl ?_
  refine v_call (w := 2) [some (2, 121), some (0, (a : Int))] hO (hz_X12_way hT _ _ rfl) rfl rfl ?_
  exact k0 
theorem qs_way29n {D : zD} {T : zT} (hT : hTab T) (hO : vOK T) {N : Nat} {h : zH} {Q : zR → Prop} {a : Nat} (hv0 : zHv h)
    (k0 : Q (zset h 121 0 (0, 9), some (0, -1))) :
    vP D T N 334 29 h [some (2, 121), some (0, (a : Int)), none, none] [(0, 1000000)] Q := by
  refine v_store1 [some (2, 121), some (0, (a : Int)), some (0, 1000000), none] (hz_X12_way hT _ _ rfl) ⟨rfl, Nat.ne_of_beq_eq_false rfl⟩ (Nat.le_of_ble_eq_true rfl) rfl ?_
  refine v_load (v := (0, 1000000)) (hz_X12_way hT _ _ rfl) rfl rfl ?_
  refine v_push (1000000) (hz_X12_way hT _ _ rfl) rfl ?_
  refine v_ic (hz_X12_way hT _ _ rfl) (fun _ => ?_) (fun hc1 => absurd (show (1000000 : Int) = 1000000 from (by decide)) hc1)
  refine v_load (v := (2, 121)) (hz_X12_way hT _ _ rfl) rfl rfl ?_
  refine v_push (9) (hz_X12_way hT _ _ rfl) rfl ?_
  refine v_call (w := 2) [some (2, 121), some (0, 9)] hO (hz_X12_way hT _ _ rfl) rfl rfl ?_
  refine v_load (v := (2, 121)) (hi_X12_refuse_0 hT) rfl rfl ?_
  refine v_load (v := (0, 9)) (hi_X12_refuse_1 hT) rfl rfl ?_
  refine v_putf (r := 121) hO (hi_X12_refuse_2 hT) rfl (fun hf2 => ?_)
  refine v_push (-1) (hi_X12_refuse_5 hT) rfl ?_
  refine v_ret (hi_X12_refuse_6 hT) (Or.inl rfl) ?_
  show vP D T N 334 43 (zset h 121 0 (0, 9)) [some (2, 121), some (0, (a : Int)), some (0, 1000000), none] [(0, -1)] _
  refine v_ret (hz_X12_way hT _ _ rfl) (Or.inl rfl) ?_
  exact k0 
theorem qs_way29 {D : zD} {T : zT} (hT : hTab T) (hO : vOK T) {N : Nat} {h : zH} {Q : zR → Prop} {a n : Nat} (w : Int) (hv0 : zHv h) (hw : w ≠ 1000000) (e31 : h 121 31 = (0, (n : Int)))
    (k0 : vP D T N 334 54 (zset h 121 29 (0, (n : Int))) [some (2, 121), some (0, (a : Int)), some (0, w), some (0, 0)] [] Q) :
    vP D T N 334 29 h [some (2, 121), some (0, (a : Int)), none, none] [(0, w)] Q := by
  refine v_store1 [some (2, 121), some (0, (a : Int)), some (0, w), none] (hz_X12_way hT _ _ rfl) ⟨rfl, Nat.ne_of_beq_eq_false rfl⟩ (Nat.le_of_ble_eq_true rfl) rfl ?_
  refine v_load (v := (0, w)) (hz_X12_way hT _ _ rfl) rfl rfl ?_
  refine v_push (1000000) (hz_X12_way hT _ _ rfl) rfl ?_
  refine v_ic (hz_X12_way hT _ _ rfl) (fun hc1 => absurd (show w = 1000000 from hc1) hw) (fun _ => ?_)
  refine v_load (v := (2, 121)) (hz_X12_way hT _ _ rfl) rfl rfl ?_
  refine v_load (v := (2, 121)) (hz_X12_way hT _ _ rfl) rfl rfl ?_
  refine v_getf (v := (0, (n : Int))) (r := 121) (hz_X12_way hT _ _ rfl) rfl rfl (fun _ => e31) ?_
  refine v_putf (r := 121) hO (hz_X12_way hT _ _ rfl) rfl (fun hf2 => ?_)
  refine v_push (0) (hz_X12_way hT _ _ rfl) rfl ?_
  refine v_store1 [some (2, 121), some (0, (a : Int)), some (0, w), some (0, 0)] (hz_X12_way hT _ _ rfl) ⟨rfl, Nat.ne_of_beq_eq_false rfl⟩ (Nat.le_of_ble_eq_true rfl) rfl ?_
  exact k0 
theorem qs_way54 {D : zD} {T : zT} (hT : hTab T) (hO : vOK T) {N : Nat} {h : zH} {Q : zR → Prop} {P : PT} {a i n b : Nat} (w : Int) (hv0 : zHv h) (p0 : h 126 0 = (0, P 0 0)) (e31 : h 121 31 = (0, (n : Int))) (eb : h 132 i = (0, ((gJ P b : Nat) : Int))) (hi : i < 49) (hin : (i : Int) < (n : Int)) (bw : 0 < P 0 0 ∧ P 0 0 ≤ 8) (b48 : b < 48) (bj : gJ P b < 48) (m6 : ((gJ P b : Nat) : Int) % P 0 0 = ((b % 8 : Nat) : Int)) (d6 : ((gJ P b : Nat) : Int) / P 0 0 = ((b / 8 : Nat) : Int))
    (k0 : (0 ≤ (i : Int)) → ((i : Int) < 49) → ((P 0 0) ≠ 0) → ((P 0 0) ≠ 0) → vP D T N 334 54 (zset h 131 (((i : Int)).toNat) (0, ((8 * ((b / 8 : Nat) : Int)) + ((b % 8 : Nat) : Int)))) [some (2, 121), some (0, (a : Int)), some (0, w), some (0, ((i : Int) + 1))] [] Q) :
    vP D T (N + 1) 334 54 h [some (2, 121), some (0, (a : Int)), some (0, w), some (0, (i : Int))] [] Q := by
  refine v_loadS (v := (0, (i : Int))) (hz_X12_way hT _ _ rfl) rfl rfl ?_
  refine v_load (v := (2, 121)) (hz_X12_way hT _ _ rfl) rfl rfl ?_
  refine v_getf (v := (0, (n : Int))) (r := 121) (hz_X12_way hT _ _ rfl) rfl rfl (fun _ => e31) ?_
  refine v_ic (hz_X12_way hT _ _ rfl) (fun _ => ?_) (fun hc1 => absurd (show (i : Int) < (n : Int) from hin) hc1)
  refine v_load (v := (2, 121)) (hz_X12_way hT _ _ rfl) rfl rfl ?_
  refine v_getR (c := 131) (r := 121) (hz_X12_way hT _ _ rfl) rfl rfl rfl ?_
  refine v_load (v := (0, (i : Int))) (hz_X12_way hT _ _ rfl) rfl rfl ?_
  refine v_push (8) (hz_X12_way hT _ _ rfl) rfl ?_
  refine v_load (v := (2, 121)) (hz_X12_way hT _ _ rfl) rfl rfl ?_
  refine v_getR (c := 132) (r := 121) (hz_X12_way hT _ _ rfl) rfl rfl rfl ?_
  refine v_load (v := (0, (i : Int))) (hz_X12_way hT _ _ rfl) rfl rfl ?_
  refine v_aldB (t := 0) (r := 132) (w := ((gJ P b : Nat) : Int)) (hz_X12_way hT _ _ rfl) rfl rfl rfl (fun _ _ => (congrArg Prod.snd eb)) (fun ha2 hb3 => ?_)
  refine v_load (v := (2, 121)) (hz_X12_way hT _ _ rfl) rfl rfl ?_
  refine v_getR (c := 126) (r := 121) (hz_X12_way hT _ _ rfl) rfl rfl rfl ?_
  refine v_push (0) (hz_X12_way hT _ _ rfl) rfl ?_
  refine v_aldV (v := (0, (P 0 0))) (r := 126) (hz_X12_way hT _ _ rfl) rfl rfl (fun _ _ _ => p0) (fun ha4 hb5 => ?_)
  refine v_div (w := ((b / 8 : Nat) : Int)) (hz_X12_way hT _ _ rfl) (fun _ => (hq_quo (by omega) (by omega) (by omega) (by omega)).trans d6) (fun hc6 => ?_)
  refine v_bin (w := (8 * ((b / 8 : Nat) : Int))) (hz_X12_way hT _ _ rfl) (hq_mul (by omega) (by omega)) ?_
  refine v_load (v := (2, 121)) (hz_X12_way hT _ _ rfl) rfl rfl ?_
  refine v_getR (c := 132) (r := 121) (hz_X12_way hT _ _ rfl) rfl rfl rfl ?_
  refine v_load (v := (0, (i : Int))) (hz_X12_way hT _ _ rfl) rfl rfl ?_
  refine v_aldB (t := 0) (r := 132) (w := ((gJ P b : Nat) : Int)) (hz_X12_way hT _ _ rfl) rfl rfl rfl (fun _ _ => (congrArg Prod.snd eb)) (fun ha7 hb8 => ?_)
  refine v_load (v := (2, 121)) (hz_X12_way hT _ _ rfl) rfl rfl ?_
  refine v_getR (c := 126) (r := 121) (hz_X12_way hT _ _ rfl) rfl rfl rfl ?_
  refine v_push (0) (hz_X12_way hT _ _ rfl) rfl ?_
  refine v_aldV (v := (0, (P 0 0))) (r := 126) (hz_X12_way hT _ _ rfl) rfl rfl (fun _ _ _ => p0) (fun ha9 hb10 => ?_)
  refine v_div (w := ((b % 8 : Nat) : Int)) (hz_X12_way hT _ _ rfl) (fun _ => (hq_rem (by omega) (by omega) (by omega) (by omega)).trans m6) (fun hc11 => ?_)
  refine v_bin (w := ((8 * ((b / 8 : Nat) : Int)) + ((b % 8 : Nat) : Int))) (hz_X12_way hT _ _ rfl) (hq_add (by omega) (by omega)) ?_
  refine v_ast (r := 131) (hz_X12_way hT _ _ rfl) rfl rfl (fun ha12 hb13 hf14 => ?_)
  refine v_iinc (x := (i : Int)) (u := 1) (w := ((i : Int) + 1)) [some (2, 121), some (0, (a : Int)), some (0, w), some (0, ((i : Int) + 1))] (hz_X12_way hT _ _ rfl) rfl rfl (Nat.le_of_ble_eq_true rfl) (vz_inc (by omega) (by omega)) rfl ?_
  refine v_goto (hz_X12_way hT _ _ rfl) ?_
  exact k0 ha2 hb3 hc6 hc11
theorem qs_way54e {D : zD} {T : zT} (hT : hTab T) (hO : vOK T) {N : Nat} {h : zH} {Q : zR → Prop} {a n : Nat} (w : Int) (hv0 : zHv h) (e31 : h 121 31 = (0, (n : Int)))
    (k0 : Q (h, some (0, w))) :
    vP D T (N + 1) 334 54 h [some (2, 121), some (0, (a : Int)), some (0, w), some (0, (n : Int))] [] Q := by
  refine v_loadS (v := (0, (n : Int))) (hz_X12_way hT _ _ rfl) rfl rfl ?_
  refine v_load (v := (2, 121)) (hz_X12_way hT _ _ rfl) rfl rfl ?_
  refine v_getf (v := (0, (n : Int))) (r := 121) (hz_X12_way hT _ _ rfl) rfl rfl (fun _ => e31) ?_
  refine v_ic (hz_X12_way hT _ _ rfl) (fun hc1 => absurd (show (n : Int) < (n : Int) from hc1) (by omega)) (fun _ => ?_)
  refine v_load (v := (0, w)) (hz_X12_way hT _ _ rfl) rfl rfl ?_
  refine v_ret (hz_X12_way hT _ _ rfl) (Or.inl rfl) ?_
  exact k0 
section RA
variable {D : zD} {T : zT} {N : Nat} {h : zH} {P : PT}
/-- what the reference told of a way: the cells by the class's numbers -/
def wtHp (p : Nat → Nat) (n : Nat) (h : zH) : Prop := ∀ i, i ≤ n → h 131 i = (0, ((p i : Nat) : Int))
theorem rq_wtL (hT : hTab T) (hO : vOK T) {Q : zR → Prop} {p : Nat → Nat} {n a : Nat} {w : Int} (p0 : h 126 0 = (0, P 0 0)) (lb : lB P) (hn : n ≤ 47) (hp : rHp P p n h) (hg : ∀ i, i ≤ n → gIn P (p i)) (k : ∀ g : zH, (∀ x y, x ≠ 131 → g x y = h x y) → wtHp p n g → Q (g, some (0, w))) : ∀ (r i : Nat) (g : zH), i + r = n + 1 → (∀ x y, x ≠ 131 → g x y = h x y) → (∀ m, m < i → g 131 m = (0, ((p m : Nat) : Int))) → vP D T N 334 54 g [some (2, 121), some (0, (a : Int)), some (0, w), some (0, (i : Int))] [] Q
  | 0, i, g, hi, hf, hm => by
    have hi : i = n + 1 := hi
    subst hi
    exact vP_dn (vP_hv (fun hv => qs_way54e hT hO w hv ((hf 121 31 (by decide)).trans hp.2) (k g hf (fun m h1 => hm m (by omega)))))
  | r + 1, i, g, hi, hf, hm => by
    have gq := hg i (by omega)
    obtain ⟨m6, d6⟩ := gJ_m lb gq
    have w1 := gq.2.1
    have b48 := gq.1
    refine vP_dn (vP_hv (fun hv => qs_way54 (P := P) (b := p i) hT hO w hv ((hf 126 0 (by decide)).trans p0) ((hf 121 31 (by decide)).trans hp.2) ((hf 132 i (by decide)).trans (hp.1 i (by omega))) (by omega) (by omega) ⟨by omega, lb.1.2⟩ b48 (gJ_lt lb gq) m6 d6 (fun _ _ _ _ => ?_)))
    refine rq_wtL hT hO p0 lb hn hp hg k r (i + 1) _ (by omega) (fun x y hx => (zset_ne (fun c => hx c.1)).trans (hf x y hx)) (fun m h1 => ?_)
    by_cases c : m = i
    · subst c
      rw [zset_e (by omega)]
      exact congrArg (Prod.mk 0) (by omega)
    · rw [zset_ne (fun e => by omega)]
      exact hm m (by omega)
theorem rq_wayW (hT : hTab T) (hO : vOK T) (hR : rBk 0 P h) (hb : fB P) (x : Int) : vP D T N 334 0 h [some (2, 121), some (0, x), none, none] [] (fun r => r.2 = some (0, wyV P x) ∧ ((wyV P x = -1 ∧ (∀ i, r.1 131 i = h 131 i) ∧ r.1 121 29 = h 121 29) ∨ (wyV P x ≠ -1 ∧ wtHp (mP P x.toNat) (mN P x.toNat) r.1 ∧ r.1 121 29 = (0, ((mN P x.toNat + 1 : Nat) : Int))))) := by
  have lb := hb.1
  have l6 := lb.2.2.2.2
  have hR2 : rBk 0 P (zset (zset h 121 1 (0, 0)) 121 0 (0, 0)) := (hR.z1 lb).z1 lb
  have no : ¬ okM P x → ∀ g : zH, (∀ a b, a ≠ 121 → g a b = h a b) → g 121 29 = h 121 29 → (some ((0, -1) : zV)) = some (0, wyV P x) ∧ ((wyV P x = -1 ∧ (∀ i, g 131 i = h 131 i) ∧ g 121 29 = h 121 29) ∨ (wyV P x ≠ -1 ∧ wtHp (mP P x.toNat) (mN P x.toNat) g ∧ g 121 29 = (0, ((mN P x.toNat + 1 : Nat) : Int)))) := fun c g f f2 => by
    have e : wyV P x = -1 := if_neg c
    exact ⟨by rw [e], Or.inl ⟨e, fun i => f 131 i (by decide), f2⟩⟩
  refine vP_hv (fun hv => qs_way0 (P := P) hT hO x hv hR.w hR.r hR.c hR.m lb ?k0 ?k1 ?k2)
  case k2 =>
    intro c1 c2
    obtain ⟨a, rfl⟩ : ∃ a : Nat, x = (a : Int) := ⟨x.toNat, by omega⟩
    have c2 : (a : Int) < P 0 3 := by omega
    have e2 : wyV P (a : Int) = mC P a := if_pos ⟨c1, c2⟩
    rw [e2]
    refine vP_hv (fun hv => qs_way24 hT hO hv ?_)
    refine rx_tc hT hO _ a rfl hR2 hb c2 (fun g u c => ?_) (fun g u d0 d1 d2 => ?_)
    · have c' : mC P a = -1 := c
      rw [c']
      refine vP_hv (fun hv => qs_way29n hT hO hv ⟨rfl, Or.inl ⟨rfl, fun i => ?_, ?_⟩⟩)
      · show zset g 121 0 (0, 9) 131 i = h 131 i
        exact (zset_ne (by omega)).trans ((u 131 i (by omega)).trans ((zset_ne (by omega)).trans (zset_ne (by omega))))
      · show zset g 121 0 (0, 9) 121 29 = h 121 29
        exact (zset_ne (by omega)).trans ((u 121 29 (by omega)).trans ((zset_ne (by omega)).trans (zset_ne (by omega))))
    · have d0 : 0 ≤ mC P a := d0
      obtain ⟨n47, hg⟩ := mP_ok hb c2 d0
      have d1 : mC P a < 1000000 := d1
      show vP D T N 334 29 g [some (2, 121), some (0, (a : Int)), none, none] [(0, mC P a)] _
      refine vP_hv (fun hv => qs_way29 hT hO (mC P a) hv (by omega) d2.2 ?_)
      have p0 : zset g 121 29 (0, ((mN P a + 1 : Nat) : Int)) 126 0 = (0, P 0 0) := (zset_ne (by decide)).trans ((u 126 0 (by omega)).trans hR2.w)
      have hp2 : rHp P (mP P a) (mN P a) (zset g 121 29 (0, ((mN P a + 1 : Nat) : Int))) := ⟨fun i hi => (zset_ne (by omega)).trans (d2.1 i hi), (zset_ne (by omega)).trans d2.2⟩
      refine rq_wtL hT hO p0 lb n47 hp2 hg (fun g2 f2 f3 => ?_) (mN P a + 1) 0 _ (by omega) (fun _ _ _ => rfl) (fun m h1 => absurd h1 (Nat.not_lt_zero _))
      exact ⟨rfl, Or.inr ⟨by omega, f3, (f2 121 29 (by decide)).trans zset_same⟩⟩
  all_goals
    intros
    exact no (by rintro ⟨o1, o2⟩; omega) _ (fun a b hn => by dsimp only; rw [zset_ne (fun e => hn e.1), zset_ne (fun e => hn e.1), zset_ne (fun e => hn e.1)]) (by dsimp only; rw [zset_ne (by decide), zset_ne (by decide), zset_ne (by decide)])
theorem rq_way (hT : hTab T) (hO : vOK T) (hR : rBk 0 P h) (hb : fB P) (x : Int) : vP D T N 334 0 h [some (2, 121), some (0, x), none, none] [] (fun r => r.2 = some (0, wyV P x)) := vP_Q (fun _ hr => hr.1) (rq_wayW hT hO hR hb x)
end RA
end
section
theorem fRa_way {D : zD} (_ : ∀ i, -2147483648 ≤ D.2 i ∧ D.2 i ≤ 2147483647) {h h1 h2 : zH} {x v1 v2 : Int} (hZ : lZ D h) (hZ1 : lZ D h1) (hR : fR h) (z1 : zRun D TLw 614 191 0 (h, zargs 0 [(2, 0), (0, x)], []) (h1, some (0, v1))) (f1 : aFr lM_191 h h1) (z2 : zRun D TLw 614 334 0 (h1, zargs 0 [(2, 121), (0, x)], []) (h2, some (0, v2))) (f2 : aFr lM_334 h1 h2) : fR h2 ∧ v1 = v2 := by
  refine ⟨fR_S.fr (M := lM_334) (by decide +kernel) f2 (fR_S.fr (M := lM_191) (by decide +kernel) f1 hR), ?_⟩
  obtain ⟨hL, hM, r, c, s1, s2, s3, P, p1, p2, p3, p4, o⟩ := hR
  have a1 : v1 = wyV P x := by
    rcases s1 with ⟨rfl, rfl⟩ | ⟨rfl, rfl⟩
    · have q3 := hZ.run 3 z1 (Q := fun r => r.2 = some (0, wyV P x)) (fun N => cq_way_39 TLw_T vOK_T p1 p3 s2 x)
      cases (q3 : some ((0, v1) : zV) = some (0, wyV P x)); rfl
    · have q3 := hZ.run 3 z1 (Q := fun r => r.2 = some (0, wyV P x)) (fun N => cq_way_24 TLw_T vOK_T p1 p3 s2 x)
      cases (q3 : some ((0, v1) : zV) = some (0, wyV P x)); rfl
  have hR1 : rBk 0 P h1 := p2.eq p3.1 (fun b _ hb => f1.keep (S := [(126, 0, 274)]) (by decide +kernel) ⟨(126, 0, 274), List.mem_cons_self, rfl, Nat.zero_le _, show b ≤ 274 by omega⟩)
  have r3 := hZ1.run 4 z2 (Q := fun r => r.2 = some (0, wyV P x)) (fun N => rq_way TLw_T vOK_T hR1 p3 x)
  have r3 : v2 = wyV P x := by cases (r3 : some ((0, v2) : zV) = some (0, wyV P x)); rfl
  exact a1.trans r3.symm
end
