/-! printed by wip/l/gent2.py: runs of the class on tokens -/
theorem q_res0 {D : zD} {T : zT} (hT : hTab T) (hO : vOK T) {N : Nat} {h : zH} {Q : zR → Prop} (s e : Int) (hv0 : zHv h)
    (k0 : vP D T N 117 11 h [some (2, 10), some (0, s), some (0, e), some (0, 0), some (0, s), some (0, 1), some (0, 0), none] [] Q) :
    vP D T N 117 0 h [some (2, 10), some (0, s), some (0, e), none, none, none, none, none] [] Q := by
  refine v_push (0) (hz_X8_reservedIndex hT _ _ rfl) rfl ?_
  refine v_store1 [some (2, 10), some (0, s), some (0, e), some (0, 0), none, none, none, none] (hz_X8_reservedIndex hT _ _ rfl) ⟨rfl, Nat.ne_of_beq_eq_false rfl⟩ (Nat.le_of_ble_eq_true rfl) rfl ?_
  refine v_load (v := (0, s)) (hz_X8_reservedIndex hT _ _ rfl) rfl rfl ?_
  refine v_store1 [some (2, 10), some (0, s), some (0, e), some (0, 0), some (0, s), none, none, none] (hz_X8_reservedIndex hT _ _ rfl) ⟨rfl, Nat.ne_of_beq_eq_false rfl⟩ (Nat.le_of_ble_eq_true rfl) rfl ?_
  refine v_push (1) (hz_X8_reservedIndex hT _ _ rfl) rfl ?_
  refine v_store1 [some (2, 10), some (0, s), some (0, e), some (0, 0), some (0, s), some (0, 1), none, none] (hz_X8_reservedIndex hT _ _ rfl) ⟨rfl, Nat.ne_of_beq_eq_false rfl⟩ (Nat.le_of_ble_eq_true rfl) rfl ?_
  refine v_push (0) (hz_X8_reservedIndex hT _ _ rfl) rfl ?_
  refine v_store1 [some (2, 10), some (0, s), some (0, e), some (0, 0), some (0, s), some (0, 1), some (0, 0), none] (hz_X8_reservedIndex hT _ _ rfl) ⟨rfl, Nat.ne_of_beq_eq_false rfl⟩ (Nat.le_of_ble_eq_true rfl) rfl ?_
  exact k0 
theorem q_res11 {D : zD} {T : zT} (hT : hTab T) (hO : vOK T) {N : Nat} {h : zH} {Q : zR → Prop} (s e x m a i : Int) (o : Option zV) (hv0 : zHv h) (bx : 0 ≤ x ∧ x ≤ 900) (bm : 0 ≤ m ∧ m ≤ 900) (bi : 0 ≤ i ∧ i ≤ 900)
    (k0 : (i < (zlen D 3 : Int)) → (0 ≤ i) → (i < (zlen D 3 : Int)) → ((zat D 3 i.toNat) = 32) → (a = 0) → vP D T N 117 11 h [some (2, 10), some (0, s), some (0, e), some (0, (x + 1)), some (0, s), some (0, 1), some (0, (i + 1)), some (0, (zat D 3 i.toNat))] [] Q)
    (k1 : (i < (zlen D 3 : Int)) → (0 ≤ i) → (i < (zlen D 3 : Int)) → ((zat D 3 i.toNat) = 32) → (a ≠ 0) → (m = e) → Q (h, some (0, x)))
    (k2 : (i < (zlen D 3 : Int)) → (0 ≤ i) → (i < (zlen D 3 : Int)) → ((zat D 3 i.toNat) = 32) → (a ≠ 0) → (m ≠ e) → vP D T N 117 11 h [some (2, 10), some (0, s), some (0, e), some (0, (x + 1)), some (0, s), some (0, 1), some (0, (i + 1)), some (0, (zat D 3 i.toNat))] [] Q)
    (k3 : (i < (zlen D 3 : Int)) → (0 ≤ i) → (i < (zlen D 3 : Int)) → ((zat D 3 i.toNat) ≠ 32) → (a = 0) → vP D T N 117 11 h [some (2, 10), some (0, s), some (0, e), some (0, x), some (0, m), some (0, 0), some (0, (i + 1)), some (0, (zat D 3 i.toNat))] [] Q)
    (k4 : (i < (zlen D 3 : Int)) → (0 ≤ i) → (i < (zlen D 3 : Int)) → ((zat D 3 i.toNat) ≠ 32) → (a ≠ 0) → (m < e) → (0 ≤ m) → (m < 900) → ((h 11 m.toNat).2 = (zat D 3 i.toNat)) → vP D T N 117 11 h [some (2, 10), some (0, s), some (0, e), some (0, x), some (0, (m + 1)), some (0, a), some (0, (i + 1)), some (0, (zat D 3 i.toNat))] [] Q)
    (k5 : (i < (zlen D 3 : Int)) → (0 ≤ i) → (i < (zlen D 3 : Int)) → ((zat D 3 i.toNat) ≠ 32) → (a ≠ 0) → (m < e) → (0 ≤ m) → (m < 900) → ((h 11 m.toNat).2 ≠ (zat D 3 i.toNat)) → vP D T N 117 11 h [some (2, 10), some (0, s), some (0, e), some (0, x), some (0, m), some (0, 0), some (0, (i + 1)), some (0, (zat D 3 i.toNat))] [] Q)
    (k6 : (i < (zlen D 3 : Int)) → (0 ≤ i) → (i < (zlen D 3 : Int)) → ((zat D 3 i.toNat) ≠ 32) → (a ≠ 0) → (e ≤ m) → vP D T N 117 11 h [some (2, 10), some (0, s), some (0, e), some (0, x), some (0, m), some (0, 0), some (0, (i + 1)), some (0, (zat D 3 i.toNat))] [] Q)
    (k7 : ((zlen D 3 : Int) ≤ i) → Q (h, some (0, -1))) :
    vP D T (N + 1) 117 11 h [some (2, 10), some (0, s), some (0, e), some (0, x), some (0, m), some (0, a), some (0, i), o] [] Q := by
  refine v_loadS (v := (0, i)) (hz_X8_reservedIndex hT _ _ rfl) rfl rfl ?_
  refine v_push (3) (hz_X8_reservedIndex hT _ _ rfl) rfl ?_
  refine v_slen (j := 3) (hz_X8_reservedIndex hT _ _ rfl) rfl ?_
  refine v_ic (hz_X8_reservedIndex hT _ _ rfl) (fun hc1 => ?_) (fun hc1 => ?_)
  · have hc1 : i < (zlen D 3 : Int) := hc1
    refine v_push (3) (hz_X8_reservedIndex hT _ _ rfl) rfl ?_
    refine v_load (v := (0, i)) (hz_X8_reservedIndex hT _ _ rfl) rfl rfl ?_
    refine v_char (j := 3) (hz_X8_reservedIndex hT _ _ rfl) rfl (fun ha2 hb3 => ?_)
    refine v_store1 [some (2, 10), some (0, s), some (0, e), some (0, x), some (0, m), some (0, a), some (0, i), some (0, (zat D 3 i.toNat))] (hz_X8_reservedIndex hT _ _ rfl) ⟨rfl, Nat.ne_of_beq_eq_false rfl⟩ (Nat.le_of_ble_eq_true rfl) rfl ?_
    refine v_load (v := (0, (zat D 3 i.toNat))) (hz_X8_reservedIndex hT _ _ rfl) rfl rfl ?_
    refine v_push (32) (hz_X8_reservedIndex hT _ _ rfl) rfl ?_
    refine v_ic (hz_X8_reservedIndex hT _ _ rfl) (fun hc4 => ?_) (fun hc4 => ?_)
    · have hc4 : (zat D 3 i.toNat) = 32 := hc4
      refine v_load (v := (0, a)) (hz_X8_reservedIndex hT _ _ rfl) rfl rfl ?_
      refine v_if (hz_X8_reservedIndex hT _ _ rfl) (fun hc5 => ?_) (fun hc5 => ?_)
      · have hc5 : a = 0 := hc5
        refine v_iinc (x := x) (u := 1) (w := (x + 1)) [some (2, 10), some (0, s), some (0, e), some (0, (x + 1)), some (0, m), some (0, a), some (0, i), some (0, (zat D 3 i.toNat))] (hz_X8_reservedIndex hT _ _ rfl) rfl rfl (Nat.le_of_ble_eq_true rfl) (vz_inc (by omega) (by omega)) rfl ?_
        refine v_load (v := (0, s)) (hz_X8_reservedIndex hT _ _ rfl) rfl rfl ?_
        refine v_store1 [some (2, 10), some (0, s), some (0, e), some (0, (x + 1)), some (0, s), some (0, a), some (0, i), some (0, (zat D 3 i.toNat))] (hz_X8_reservedIndex hT _ _ rfl) ⟨rfl, Nat.ne_of_beq_eq_false rfl⟩ (Nat.le_of_ble_eq_true rfl) rfl ?_
        refine v_push (1) (hz_X8_reservedIndex hT _ _ rfl) rfl ?_
        refine v_store1 [some (2, 10), some (0, s), some (0, e), some (0, (x + 1)), some (0, s), some (0, 1), some (0, i), some (0, (zat D 3 i.toNat))] (hz_X8_reservedIndex hT _ _ rfl) ⟨rfl, Nat.ne_of_beq_eq_false rfl⟩ (Nat.le_of_ble_eq_true rfl) rfl ?_
        refine v_goto (hz_X8_reservedIndex hT _ _ rfl) ?_
        refine v_iinc (x := i) (u := 1) (w := (i + 1)) [some (2, 10), some (0, s), some (0, e), some (0, (x + 1)), some (0, s), some (0, 1), some (0, (i + 1)), some (0, (zat D 3 i.toNat))] (hz_X8_reservedIndex hT _ _ rfl) rfl rfl (Nat.le_of_ble_eq_true rfl) (vz_inc (by omega) (by omega)) rfl ?_
        refine v_goto (hz_X8_reservedIndex hT _ _ rfl) ?_
        exact k0 hc1 ha2 hb3 hc4 hc5
      · have hc5 : a ≠ 0 := hc5
        refine v_load (v := (0, m)) (hz_X8_reservedIndex hT _ _ rfl) rfl rfl ?_
        refine v_load (v := (0, e)) (hz_X8_reservedIndex hT _ _ rfl) rfl rfl ?_
        refine v_ic (hz_X8_reservedIndex hT _ _ rfl) (fun hc6 => ?_) (fun hc6 => ?_)
        · have hc6 : m = e := hc6
          refine v_load (v := (0, x)) (hz_X8_reservedIndex hT _ _ rfl) rfl rfl ?_
          refine v_ret (hz_X8_reservedIndex hT _ _ rfl) (Or.inl rfl) ?_
          exact k1 hc1 ha2 hb3 hc4 hc5 hc6
        · have hc6 : m ≠ e := hc6
          refine v_iinc (x := x) (u := 1) (w := (x + 1)) [some (2, 10), some (0, s), some (0, e), some (0, (x + 1)), some (0, m), some (0, a), some (0, i), some (0, (zat D 3 i.toNat))] (hz_X8_reservedIndex hT _ _ rfl) rfl rfl (Nat.le_of_ble_eq_true rfl) (vz_inc (by omega) (by omega)) rfl ?_
          refine v_load (v := (0, s)) (hz_X8_reservedIndex hT _ _ rfl) rfl rfl ?_
          refine v_store1 [some (2, 10), some (0, s), some (0, e), some (0, (x + 1)), some (0, s), some (0, a), some (0, i), some (0, (zat D 3 i.toNat))] (hz_X8_reservedIndex hT _ _ rfl) ⟨rfl, Nat.ne_of_beq_eq_false rfl⟩ (Nat.le_of_ble_eq_true rfl) rfl ?_
          refine v_push (1) (hz_X8_reservedIndex hT _ _ rfl) rfl ?_
          refine v_store1 [some (2, 10), some (0, s), some (0, e), some (0, (x + 1)), some (0, s), some (0, 1), some (0, i), some (0, (zat D 3 i.toNat))] (hz_X8_reservedIndex hT _ _ rfl) ⟨rfl, Nat.ne_of_beq_eq_false rfl⟩ (Nat.le_of_ble_eq_true rfl) rfl ?_
          refine v_goto (hz_X8_reservedIndex hT _ _ rfl) ?_
          refine v_iinc (x := i) (u := 1) (w := (i + 1)) [some (2, 10), some (0, s), some (0, e), some (0, (x + 1)), some (0, s), some (0, 1), some (0, (i + 1)), some (0, (zat D 3 i.toNat))] (hz_X8_reservedIndex hT _ _ rfl) rfl rfl (Nat.le_of_ble_eq_true rfl) (vz_inc (by omega) (by omega)) rfl ?_
          refine v_goto (hz_X8_reservedIndex hT _ _ rfl) ?_
          exact k2 hc1 ha2 hb3 hc4 hc5 hc6
    · have hc4 : (zat D 3 i.toNat) ≠ 32 := hc4
      refine v_load (v := (0, a)) (hz_X8_reservedIndex hT _ _ rfl) rfl rfl ?_
      refine v_if (hz_X8_reservedIndex hT _ _ rfl) (fun hc7 => ?_) (fun hc7 => ?_)
      · have hc7 : a = 0 := hc7
        refine v_push (0) (hz_X8_reservedIndex hT _ _ rfl) rfl ?_
        refine v_store1 [some (2, 10), some (0, s), some (0, e), some (0, x), some (0, m), some (0, 0), some (0, i), some (0, (zat D 3 i.toNat))] (hz_X8_reservedIndex hT _ _ rfl) ⟨rfl, Nat.ne_of_beq_eq_false rfl⟩ (Nat.le_of_ble_eq_true rfl) rfl ?_
        refine v_iinc (x := i) (u := 1) (w := (i + 1)) [some (2, 10), some (0, s), some (0, e), some (0, x), some (0, m), some (0, 0), some (0, (i + 1)), some (0, (zat D 3 i.toNat))] (hz_X8_reservedIndex hT _ _ rfl) rfl rfl (Nat.le_of_ble_eq_true rfl) (vz_inc (by omega) (by omega)) rfl ?_
        refine v_goto (hz_X8_reservedIndex hT _ _ rfl) ?_
        exact k3 hc1 ha2 hb3 hc4 hc7
      · have hc7 : a ≠ 0 := hc7
        refine v_load (v := (0, m)) (hz_X8_reservedIndex hT _ _ rfl) rfl rfl ?_
        refine v_load (v := (0, e)) (hz_X8_reservedIndex hT _ _ rfl) rfl rfl ?_
        refine v_ic (hz_X8_reservedIndex hT _ _ rfl) (fun hc8 => ?_) (fun hc8 => ?_)
        · have hc8 : m < e := hc8
          refine v_load (v := (2, 10)) (hz_X8_reservedIndex hT _ _ rfl) rfl rfl ?_
          refine v_getR (c := 11) (r := 10) (hz_X8_reservedIndex hT _ _ rfl) rfl rfl rfl ?_
          refine v_load (v := (0, m)) (hz_X8_reservedIndex hT _ _ rfl) rfl rfl ?_
          refine v_ald (t := 0) (r := 11) (hz_X8_reservedIndex hT _ _ rfl) rfl rfl rfl (fun ha9 hb10 => ?_)
          refine v_load (v := (0, (zat D 3 i.toNat))) (hz_X8_reservedIndex hT _ _ rfl) rfl rfl ?_
          refine v_ic (hz_X8_reservedIndex hT _ _ rfl) (fun hc11 => ?_) (fun hc11 => ?_)
          · have hc11 : (h 11 m.toNat).2 = (zat D 3 i.toNat) := hc11
            refine v_iinc (x := m) (u := 1) (w := (m + 1)) [some (2, 10), some (0, s), some (0, e), some (0, x), some (0, (m + 1)), some (0, a), some (0, i), some (0, (zat D 3 i.toNat))] (hz_X8_reservedIndex hT _ _ rfl) rfl rfl (Nat.le_of_ble_eq_true rfl) (vz_inc (by omega) (by omega)) rfl ?_
            refine v_goto (hz_X8_reservedIndex hT _ _ rfl) ?_
            refine v_iinc (x := i) (u := 1) (w := (i + 1)) [some (2, 10), some (0, s), some (0, e), some (0, x), some (0, (m + 1)), some (0, a), some (0, (i + 1)), some (0, (zat D 3 i.toNat))] (hz_X8_reservedIndex hT _ _ rfl) rfl rfl (Nat.le_of_ble_eq_true rfl) (vz_inc (by omega) (by omega)) rfl ?_
            refine v_goto (hz_X8_reservedIndex hT _ _ rfl) ?_
            exact k4 hc1 ha2 hb3 hc4 hc7 hc8 ha9 hb10 hc11
          · have hc11 : (h 11 m.toNat).2 ≠ (zat D 3 i.toNat) := hc11
            refine v_push (0) (hz_X8_reservedIndex hT _ _ rfl) rfl ?_
            refine v_store1 [some (2, 10), some (0, s), some (0, e), some (0, x), some (0, m), some (0, 0), some (0, i), some (0, (zat D 3 i.toNat))] (hz_X8_reservedIndex hT _ _ rfl) ⟨rfl, Nat.ne_of_beq_eq_false rfl⟩ (Nat.le_of_ble_eq_true rfl) rfl ?_
            refine v_iinc (x := i) (u := 1) (w := (i + 1)) [some (2, 10), some (0, s), some (0, e), some (0, x), some (0, m), some (0, 0), some (0, (i + 1)), some (0, (zat D 3 i.toNat))] (hz_X8_reservedIndex hT _ _ rfl) rfl rfl (Nat.le_of_ble_eq_true rfl) (vz_inc (by omega) (by omega)) rfl ?_
            refine v_goto (hz_X8_reservedIndex hT _ _ rfl) ?_
            exact k5 hc1 ha2 hb3 hc4 hc7 hc8 ha9 hb10 hc11
        · have hc8 : e ≤ m := Int.not_lt.mp hc8
          refine v_push (0) (hz_X8_reservedIndex hT _ _ rfl) rfl ?_
          refine v_store1 [some (2, 10), some (0, s), some (0, e), some (0, x), some (0, m), some (0, 0), some (0, i), some (0, (zat D 3 i.toNat))] (hz_X8_reservedIndex hT _ _ rfl) ⟨rfl, Nat.ne_of_beq_eq_false rfl⟩ (Nat.le_of_ble_eq_true rfl) rfl ?_
          refine v_iinc (x := i) (u := 1) (w := (i + 1)) [some (2, 10), some (0, s), some (0, e), some (0, x), some (0, m), some (0, 0), some (0, (i + 1)), some (0, (zat D 3 i.toNat))] (hz_X8_reservedIndex hT _ _ rfl) rfl rfl (Nat.le_of_ble_eq_true rfl) (vz_inc (by omega) (by omega)) rfl ?_
          refine v_goto (hz_X8_reservedIndex hT _ _ rfl) ?_
          exact k6 hc1 ha2 hb3 hc4 hc7 hc8
  · have hc1 : (zlen D 3 : Int) ≤ i := Int.not_lt.mp hc1
    refine v_push (-1) (hz_X8_reservedIndex hT _ _ rfl) rfl ?_
    refine v_ret (hz_X8_reservedIndex hT _ _ rfl) (Or.inl rfl) ?_
    exact k7 hc1
theorem q_num0 {D : zD} {T : zT} (hT : hTab T) (hO : vOK T) {N : Nat} {h : zH} {Q : zR → Prop} (t n : Int) (hv0 : zHv h)
    (k0 : (0 ≤ t) → (t < 901) → vP D T N 118 10 h [some (2, 10), some (0, t), some (0, n), some (0, (h 13 t.toNat).2), some (0, 0)] [] Q) :
    vP D T N 118 0 h [some (2, 10), some (0, t), some (0, n), none, none] [] Q := by
  refine v_load (v := (2, 10)) (hz_X8_scanNumber hT _ _ rfl) rfl rfl ?_
  refine v_getR (c := 13) (r := 10) (hz_X8_scanNumber hT _ _ rfl) rfl rfl rfl ?_
  refine v_load (v := (0, t)) (hz_X8_scanNumber hT _ _ rfl) rfl rfl ?_
  refine v_ald (t := 0) (r := 13) (hz_X8_scanNumber hT _ _ rfl) rfl rfl rfl (fun ha1 hb2 => ?_)
  refine v_store1 [some (2, 10), some (0, t), some (0, n), some (0, (h 13 t.toNat).2), none] (hz_X8_scanNumber hT _ _ rfl) ⟨rfl, Nat.ne_of_beq_eq_false rfl⟩ (Nat.le_of_ble_eq_true rfl) rfl ?_
  refine v_push (0) (hz_X8_scanNumber hT _ _ rfl) rfl ?_
  refine v_store1 [some (2, 10), some (0, t), some (0, n), some (0, (h 13 t.toNat).2), some (0, 0)] (hz_X8_scanNumber hT _ _ rfl) ⟨rfl, Nat.ne_of_beq_eq_false rfl⟩ (Nat.le_of_ble_eq_true rfl) rfl ?_
  exact k0 ha1 hb2
theorem q_num10 {D : zD} {T : zT} (hT : hTab T) (hO : vOK T) {N : Nat} {h : zH} {Q : zR → Prop} (t n e v : Int) (hv0 : zHv h) (b13 : 0 ≤ (h 13 t.toNat).2 ∧ (h 13 t.toNat).2 ≤ 900) (be : 0 ≤ e ∧ e ≤ 900)
    (k0 : (e < n) → (0 ≤ e) → (e < 900) → ((iD ((h 11 e.toNat).2)) = 0) → (0 ≤ t) → (t < 901) → (4 < (e - (h 13 t.toNat).2)) → Q (zset (zset (zset h 12 t.toNat (0, 4)) 14 t.toNat (0, e)) 15 t.toNat (0, v), none))
    (k1 : (e < n) → (0 ≤ e) → (e < 900) → ((iD ((h 11 e.toNat).2)) = 0) → (0 ≤ t) → (t < 901) → ((e - (h 13 t.toNat).2) ≤ 4) → Q (zset (zset (zset h 12 t.toNat (0, 2)) 14 t.toNat (0, e)) 15 t.toNat (0, v), none))
    (k2 : (e < n) → (0 ≤ e) → (e < 900) → ((iD ((h 11 e.toNat).2)) ≠ 0) → vP D T N 118 10 h [some (2, 10), some (0, t), some (0, n), some (0, (e + 1)), some (0, (v32 0 ((v32 2 v 10)) ((v32 1 ((h 11 e.toNat).2) 48))))] [] Q)
    (k3 : (n ≤ e) → (0 ≤ t) → (t < 901) → (4 < (e - (h 13 t.toNat).2)) → Q (zset (zset (zset h 12 t.toNat (0, 4)) 14 t.toNat (0, e)) 15 t.toNat (0, v), none))
    (k4 : (n ≤ e) → (0 ≤ t) → (t < 901) → ((e - (h 13 t.toNat).2) ≤ 4) → Q (zset (zset (zset h 12 t.toNat (0, 2)) 14 t.toNat (0, e)) 15 t.toNat (0, v), none)) :
    vP D T (N + 1) 118 10 h [some (2, 10), some (0, t), some (0, n), some (0, e), some (0, v)] [] Q := by
  refine v_loadS (v := (0, e)) (hz_X8_scanNumber hT _ _ rfl) rfl rfl ?_
  refine v_load (v := (0, n)) (hz_X8_scanNumber hT _ _ rfl) rfl rfl ?_
  refine v_ic (hz_X8_scanNumber hT _ _ rfl) (fun hc1 => ?_) (fun hc1 => ?_)
  · have hc1 : e < n := hc1
    refine v_load (v := (2, 10)) (hz_X8_scanNumber hT _ _ rfl) rfl rfl ?_
    refine v_getR (c := 11) (r := 10) (hz_X8_scanNumber hT _ _ rfl) rfl rfl rfl ?_
    refine v_load (v := (0, e)) (hz_X8_scanNumber hT _ _ rfl) rfl rfl ?_
    refine v_ald (t := 0) (r := 11) (hz_X8_scanNumber hT _ _ rfl) rfl rfl rfl (fun ha2 hb3 => ?_)
    refine v_call (w := 1) [some (0, (h 11 e.toNat).2)] hO (hz_X8_scanNumber hT _ _ rfl) rfl rfl (b_digit hT hO ((h 11 e.toNat).2) ?_)
    show vP D T N 118 24 h [some (2, 10), some (0, t), some (0, n), some (0, e), some (0, v)] [(0, (iD ((h 11 e.toNat).2)))] _
    refine v_if (hz_X8_scanNumber hT _ _ rfl) (fun hc4 => ?_) (fun hc4 => ?_)
    · have hc4 : (iD ((h 11 e.toNat).2)) = 0 := hc4
      refine v_load (v := (2, 10)) (hz_X8_scanNumber hT _ _ rfl) rfl rfl ?_
      refine v_getR (c := 12) (r := 10) (hz_X8_scanNumber hT _ _ rfl) rfl rfl rfl ?_
      refine v_load (v := (0, t)) (hz_X8_scanNumber hT _ _ rfl) rfl rfl ?_
      refine v_load (v := (0, e)) (hz_X8_scanNumber hT _ _ rfl) rfl rfl ?_
      refine v_load (v := (2, 10)) (hz_X8_scanNumber hT _ _ rfl) rfl rfl ?_
      refine v_getR (c := 13) (r := 10) (hz_X8_scanNumber hT _ _ rfl) rfl rfl rfl ?_
      refine v_load (v := (0, t)) (hz_X8_scanNumber hT _ _ rfl) rfl rfl ?_
      refine v_ald (t := 0) (r := 13) (hz_X8_scanNumber hT _ _ rfl) rfl rfl rfl (fun ha5 hb6 => ?_)
      refine v_bin (w := (e - (h 13 t.toNat).2)) (hz_X8_scanNumber hT _ _ rfl) (hq_sub (by omega) (by omega)) ?_
      refine v_push (4) (hz_X8_scanNumber hT _ _ rfl) rfl ?_
      refine v_ic (hz_X8_scanNumber hT _ _ rfl) (fun hc7 => ?_) (fun hc7 => ?_)
      · have hc7 : 4 < (e - (h 13 t.toNat).2) := hc7
        refine v_push (4) (hz_X8_scanNumber hT _ _ rfl) rfl ?_
        refine v_ast (r := 12) (hz_X8_scanNumber hT _ _ rfl) rfl rfl (fun ha8 hb9 hf10 => ?_)
        refine v_load (v := (2, 10)) (hz_X8_scanNumber hT _ _ rfl) rfl rfl ?_
        refine v_getR (c := 14) (r := 10) (hz_X8_scanNumber hT _ _ rfl) rfl rfl rfl ?_
        refine v_load (v := (0, t)) (hz_X8_scanNumber hT _ _ rfl) rfl rfl ?_
        refine v_load (v := (0, e)) (hz_X8_scanNumber hT _ _ rfl) rfl rfl ?_
        refine v_ast (r := 14) (hz_X8_scanNumber hT _ _ rfl) rfl rfl (fun ha11 hb12 hf13 => ?_)
        refine v_load (v := (2, 10)) (hz_X8_scanNumber hT _ _ rfl) rfl rfl ?_
        refine v_getR (c := 15) (r := 10) (hz_X8_scanNumber hT _ _ rfl) rfl rfl rfl ?_
        refine v_load (v := (0, t)) (hz_X8_scanNumber hT _ _ rfl) rfl rfl ?_
        refine v_load (v := (0, v)) (hz_X8_scanNumber hT _ _ rfl) rfl rfl ?_
        refine v_ast (r := 15) (hz_X8_scanNumber hT _ _ rfl) rfl rfl (fun ha14 hb15 hf16 => ?_)
        refine v_ret0 (hz_X8_scanNumber hT _ _ rfl) ?_
        exact k0 hc1 ha2 hb3 hc4 ha5 hb6 hc7
      · have hc7 : (e - (h 13 t.toNat).2) ≤ 4 := Int.not_lt.mp hc7
        refine v_push (2) (hz_X8_scanNumber hT _ _ rfl) rfl ?_
        refine v_goto (hz_X8_scanNumber hT _ _ rfl) ?_
        refine v_ast (r := 12) (hz_X8_scanNumber hT _ _ rfl) rfl rfl (fun ha17 hb18 hf19 => ?_)
        refine v_load (v := (2, 10)) (hz_X8_scanNumber hT _ _ rfl) rfl rfl ?_
        refine v_getR (c := 14) (r := 10) (hz_X8_scanNumber hT _ _ rfl) rfl rfl rfl ?_
        refine v_load (v := (0, t)) (hz_X8_scanNumber hT _ _ rfl) rfl rfl ?_
        refine v_load (v := (0, e)) (hz_X8_scanNumber hT _ _ rfl) rfl rfl ?_
        refine v_ast (r := 14) (hz_X8_scanNumber hT _ _ rfl) rfl rfl (fun ha20 hb21 hf22 => ?_)
        refine v_load (v := (2, 10)) (hz_X8_scanNumber hT _ _ rfl) rfl rfl ?_
        refine v_getR (c := 15) (r := 10) (hz_X8_scanNumber hT _ _ rfl) rfl rfl rfl ?_
        refine v_load (v := (0, t)) (hz_X8_scanNumber hT _ _ rfl) rfl rfl ?_
        refine v_load (v := (0, v)) (hz_X8_scanNumber hT _ _ rfl) rfl rfl ?_
        refine v_ast (r := 15) (hz_X8_scanNumber hT _ _ rfl) rfl rfl (fun ha23 hb24 hf25 => ?_)
        refine v_ret0 (hz_X8_scanNumber hT _ _ rfl) ?_
        exact k1 hc1 ha2 hb3 hc4 ha5 hb6 hc7
    · have hc4 : (iD ((h 11 e.toNat).2)) ≠ 0 := hc4
      refine v_load (v := (0, v)) (hz_X8_scanNumber hT _ _ rfl) rfl rfl ?_
      refine v_push (10) (hz_X8_scanNumber hT _ _ rfl) rfl ?_
      refine v_bin (w := (v32 2 v 10)) (hz_X8_scanNumber hT _ _ rfl) rfl ?_
      refine v_load (v := (2, 10)) (hz_X8_scanNumber hT _ _ rfl) rfl rfl ?_
      refine v_getR (c := 11) (r := 10) (hz_X8_scanNumber hT _ _ rfl) rfl rfl rfl ?_
      refine v_load (v := (0, e)) (hz_X8_scanNumber hT _ _ rfl) rfl rfl ?_
      refine v_ald (t := 0) (r := 11) (hz_X8_scanNumber hT _ _ rfl) rfl rfl rfl (fun ha26 hb27 => ?_)
      refine v_push (48) (hz_X8_scanNumber hT _ _ rfl) rfl ?_
      refine v_bin (w := (v32 1 ((h 11 e.toNat).2) 48)) (hz_X8_scanNumber hT _ _ rfl) rfl ?_
      refine v_bin (w := (v32 0 ((v32 2 v 10)) ((v32 1 ((h 11 e.toNat).2) 48)))) (hz_X8_scanNumber hT _ _ rfl) rfl ?_
      refine v_store1 [some (2, 10), some (0, t), some (0, n), some (0, e), some (0, (v32 0 ((v32 2 v 10)) ((v32 1 ((h 11 e.toNat).2) 48))))] (hz_X8_scanNumber hT _ _ rfl) ⟨rfl, Nat.ne_of_beq_eq_false rfl⟩ (Nat.le_of_ble_eq_true rfl) rfl ?_
      refine v_iinc (x := e) (u := 1) (w := (e + 1)) [some (2, 10), some (0, t), some (0, n), some (0, (e + 1)), some (0, (v32 0 ((v32 2 v 10)) ((v32 1 ((h 11 e.toNat).2) 48))))] (hz_X8_scanNumber hT _ _ rfl) rfl rfl (Nat.le_of_ble_eq_true rfl) (vz_inc (by omega) (by omega)) rfl ?_
      refine v_goto (hz_X8_scanNumber hT _ _ rfl) ?_
      exact k2 hc1 ha2 hb3 hc4
  · have hc1 : n ≤ e := Int.not_lt.mp hc1
    refine v_load (v := (2, 10)) (hz_X8_scanNumber hT _ _ rfl) rfl rfl ?_
    refine v_getR (c := 12) (r := 10) (hz_X8_scanNumber hT _ _ rfl) rfl rfl rfl ?_
    refine v_load (v := (0, t)) (hz_X8_scanNumber hT _ _ rfl) rfl rfl ?_
    refine v_load (v := (0, e)) (hz_X8_scanNumber hT _ _ rfl) rfl rfl ?_
    refine v_load (v := (2, 10)) (hz_X8_scanNumber hT _ _ rfl) rfl rfl ?_
    refine v_getR (c := 13) (r := 10) (hz_X8_scanNumber hT _ _ rfl) rfl rfl rfl ?_
    refine v_load (v := (0, t)) (hz_X8_scanNumber hT _ _ rfl) rfl rfl ?_
    refine v_ald (t := 0) (r := 13) (hz_X8_scanNumber hT _ _ rfl) rfl rfl rfl (fun ha28 hb29 => ?_)
    refine v_bin (w := (e - (h 13 t.toNat).2)) (hz_X8_scanNumber hT _ _ rfl) (hq_sub (by omega) (by omega)) ?_
    refine v_push (4) (hz_X8_scanNumber hT _ _ rfl) rfl ?_
    refine v_ic (hz_X8_scanNumber hT _ _ rfl) (fun hc30 => ?_) (fun hc30 => ?_)
    · have hc30 : 4 < (e - (h 13 t.toNat).2) := hc30
      refine v_push (4) (hz_X8_scanNumber hT _ _ rfl) rfl ?_
      refine v_ast (r := 12) (hz_X8_scanNumber hT _ _ rfl) rfl rfl (fun ha31 hb32 hf33 => ?_)
      refine v_load (v := (2, 10)) (hz_X8_scanNumber hT _ _ rfl) rfl rfl ?_
      refine v_getR (c := 14) (r := 10) (hz_X8_scanNumber hT _ _ rfl) rfl rfl rfl ?_
      refine v_load (v := (0, t)) (hz_X8_scanNumber hT _ _ rfl) rfl rfl ?_
      refine v_load (v := (0, e)) (hz_X8_scanNumber hT _ _ rfl) rfl rfl ?_
      refine v_ast (r := 14) (hz_X8_scanNumber hT _ _ rfl) rfl rfl (fun ha34 hb35 hf36 => ?_)
      refine v_load (v := (2, 10)) (hz_X8_scanNumber hT _ _ rfl) rfl rfl ?_
      refine v_getR (c := 15) (r := 10) (hz_X8_scanNumber hT _ _ rfl) rfl rfl rfl ?_
      refine v_load (v := (0, t)) (hz_X8_scanNumber hT _ _ rfl) rfl rfl ?_
      refine v_load (v := (0, v)) (hz_X8_scanNumber hT _ _ rfl) rfl rfl ?_
      refine v_ast (r := 15) (hz_X8_scanNumber hT _ _ rfl) rfl rfl (fun ha37 hb38 hf39 => ?_)
      refine v_ret0 (hz_X8_scanNumber hT _ _ rfl) ?_
      exact k3 hc1 ha28 hb29 hc30
    · have hc30 : (e - (h 13 t.toNat).2) ≤ 4 := Int.not_lt.mp hc30
      refine v_push (2) (hz_X8_scanNumber hT _ _ rfl) rfl ?_
      refine v_goto (hz_X8_scanNumber hT _ _ rfl) ?_
      refine v_ast (r := 12) (hz_X8_scanNumber hT _ _ rfl) rfl rfl (fun ha40 hb41 hf42 => ?_)
      refine v_load (v := (2, 10)) (hz_X8_scanNumber hT _ _ rfl) rfl rfl ?_
      refine v_getR (c := 14) (r := 10) (hz_X8_scanNumber hT _ _ rfl) rfl rfl rfl ?_
      refine v_load (v := (0, t)) (hz_X8_scanNumber hT _ _ rfl) rfl rfl ?_
      refine v_load (v := (0, e)) (hz_X8_scanNumber hT _ _ rfl) rfl rfl ?_
      refine v_ast (r := 14) (hz_X8_scanNumber hT _ _ rfl) rfl rfl (fun ha43 hb44 hf45 => ?_)
      refine v_load (v := (2, 10)) (hz_X8_scanNumber hT _ _ rfl) rfl rfl ?_
      refine v_getR (c := 15) (r := 10) (hz_X8_scanNumber hT _ _ rfl) rfl rfl rfl ?_
      refine v_load (v := (0, t)) (hz_X8_scanNumber hT _ _ rfl) rfl rfl ?_
      refine v_load (v := (0, v)) (hz_X8_scanNumber hT _ _ rfl) rfl rfl ?_
      refine v_ast (r := 15) (hz_X8_scanNumber hT _ _ rfl) rfl rfl (fun ha46 hb47 hf48 => ?_)
      refine v_ret0 (hz_X8_scanNumber hT _ _ rfl) ?_
      exact k4 hc1 ha28 hb29 hc30
theorem q_word0 {D : zD} {T : zT} (hT : hTab T) (hO : vOK T) {N : Nat} {h : zH} {Q : zR → Prop} (t n : Int) (hv0 : zHv h)
    (k0 : (0 ≤ t) → (t < 901) → vP D T N 120 7 h [some (2, 10), some (0, t), some (0, n), some (0, (h 13 t.toNat).2)] [] Q) :
    vP D T N 120 0 h [some (2, 10), some (0, t), some (0, n), none] [] Q := by
  refine v_load (v := (2, 10)) (hz_X8_scanWord hT _ _ rfl) rfl rfl ?_
  refine v_getR (c := 13) (r := 10) (hz_X8_scanWord hT _ _ rfl) rfl rfl rfl ?_
  refine v_load (v := (0, t)) (hz_X8_scanWord hT _ _ rfl) rfl rfl ?_
  refine v_ald (t := 0) (r := 13) (hz_X8_scanWord hT _ _ rfl) rfl rfl rfl (fun ha1 hb2 => ?_)
  refine v_store1 [some (2, 10), some (0, t), some (0, n), some (0, (h 13 t.toNat).2)] (hz_X8_scanWord hT _ _ rfl) ⟨rfl, Nat.ne_of_beq_eq_false rfl⟩ (Nat.le_of_ble_eq_true rfl) rfl ?_
  exact k0 ha1 hb2
theorem q_word7 {D : zD} {T : zT} (hT : hTab T) (hO : vOK T) {N : Nat} {h : zH} {Q : zR → Prop} (t n e : Int) (hv0 : zHv h) (be : 0 ≤ e ∧ e ≤ 900)
    (k0 : (e < n) → (0 ≤ e) → (e < 900) → ((iL ((h 11 e.toNat).2)) = 0) → (0 ≤ t) → (t < 901) → vP D T N 117 0 (zset (zset h 12 t.toNat (0, 1)) 14 t.toNat (0, e)) [some (2, 10), some (0, (h 13 t.toNat).2), some (0, e), none, none, none, none, none] [] (fun r1 => vP D T N 120 60 r1.1 [some (2, 10), some (0, t), some (0, n), some (0, e)] (zpush r1.2 [(0, t), (2, 15)]) Q))
    (k1 : (e < n) → (0 ≤ e) → (e < 900) → ((iL ((h 11 e.toNat).2)) ≠ 0) → vP D T N 120 7 h [some (2, 10), some (0, t), some (0, n), some (0, (e + 1))] [] Q)
    (k2 : (n ≤ e) → (0 ≤ t) → (t < 901) → vP D T N 117 0 (zset (zset h 12 t.toNat (0, 1)) 14 t.toNat (0, e)) [some (2, 10), some (0, (h 13 t.toNat).2), some (0, e), none, none, none, none, none] [] (fun r1 => vP D T N 120 60 r1.1 [some (2, 10), some (0, t), some (0, n), some (0, e)] (zpush r1.2 [(0, t), (2, 15)]) Q)) :
    vP D T (N + 1) 120 7 h [some (2, 10), some (0, t), some (0, n), some (0, e)] [] Q := by
  refine v_loadS (v := (0, e)) (hz_X8_scanWord hT _ _ rfl) rfl rfl ?_
  refine v_load (v := (0, n)) (hz_X8_scanWord hT _ _ rfl) rfl rfl ?_
  refine v_ic (hz_X8_scanWord hT _ _ rfl) (fun hc1 => ?_) (fun hc1 => ?_)
  · have hc1 : e < n := hc1
    refine v_load (v := (2, 10)) (hz_X8_scanWord hT _ _ rfl) rfl rfl ?_
    refine v_getR (c := 11) (r := 10) (hz_X8_scanWord hT _ _ rfl) rfl rfl rfl ?_
    refine v_load (v := (0, e)) (hz_X8_scanWord hT _ _ rfl) rfl rfl ?_
    refine v_ald (t := 0) (r := 11) (hz_X8_scanWord hT _ _ rfl) rfl rfl rfl (fun ha2 hb3 => ?_)
    refine v_call (w := 1) [some (0, (h 11 e.toNat).2)] hO (hz_X8_scanWord hT _ _ rfl) rfl rfl (b_letter hT hO ((h 11 e.toNat).2) ?_)
    show vP D T N 120 21 h [some (2, 10), some (0, t), some (0, n), some (0, e)] [(0, (iL ((h 11 e.toNat).2)))] _
    refine v_if (hz_X8_scanWord hT _ _ rfl) (fun hc4 => ?_) (fun hc4 => ?_)
    · have hc4 : (iL ((h 11 e.toNat).2)) = 0 := hc4
      refine v_load (v := (2, 10)) (hz_X8_scanWord hT _ _ rfl) rfl rfl ?_
      refine v_getR (c := 12) (r := 10) (hz_X8_scanWord hT _ _ rfl) rfl rfl rfl ?_
      refine v_load (v := (0, t)) (hz_X8_scanWord hT _ _ rfl) rfl rfl ?_
      refine v_push (1) (hz_X8_scanWord hT _ _ rfl) rfl ?_
      refine v_ast (r := 12) (hz_X8_scanWord hT _ _ rfl) rfl rfl (fun ha5 hb6 hf7 => ?_)
      refine v_load (v := (2, 10)) (hz_X8_scanWord hT _ _ rfl) rfl rfl ?_
      refine v_getR (c := 14) (r := 10) (hz_X8_scanWord hT _ _ rfl) rfl rfl rfl ?_
      refine v_load (v := (0, t)) (hz_X8_scanWord hT _ _ rfl) rfl rfl ?_
      refine v_load (v := (0, e)) (hz_X8_scanWord hT _ _ rfl) rfl rfl ?_
      refine v_ast (r := 14) (hz_X8_scanWord hT _ _ rfl) rfl rfl (fun ha8 hb9 hf10 => ?_)
      refine v_load (v := (2, 10)) (hz_X8_scanWord hT _ _ rfl) rfl rfl ?_
      refine v_getR (c := 15) (r := 10) (hz_X8_scanWord hT _ _ rfl) rfl rfl rfl ?_
      refine v_load (v := (0, t)) (hz_X8_scanWord hT _ _ rfl) rfl rfl ?_
      refine v_load (v := (2, 10)) (hz_X8_scanWord hT _ _ rfl) rfl rfl ?_
      refine v_load (v := (2, 10)) (hz_X8_scanWord hT _ _ rfl) rfl rfl ?_
      refine v_getR (c := 13) (r := 10) (hz_X8_scanWord hT _ _ rfl) rfl rfl rfl ?_
      refine v_load (v := (0, t)) (hz_X8_scanWord hT _ _ rfl) rfl rfl ?_
      refine v_aldE (t := 0) (r := 13) (w := (h 13 t.toNat).2) (hz_X8_scanWord hT _ _ rfl) rfl rfl rfl (congrArg Prod.snd (Eq.trans (zset_ne (fun c => absurd c.1 (by decide))) (zset_ne (fun c => absurd c.1 (by decide))))) (fun ha11 hb12 => ?_)
      refine v_load (v := (0, e)) (hz_X8_scanWord hT _ _ rfl) rfl rfl ?_
      refine v_call (w := 8) [some (2, 10), some (0, (h 13 t.toNat).2), some (0, e), none, none, none, none, none] hO (hz_X8_scanWord hT _ _ rfl) rfl rfl ?_
      exact k0 hc1 ha2 hb3 hc4 ha5 hb6
    · have hc4 : (iL ((h 11 e.toNat).2)) ≠ 0 := hc4
      refine v_iinc (x := e) (u := 1) (w := (e + 1)) [some (2, 10), some (0, t), some (0, n), some (0, (e + 1))] (hz_X8_scanWord hT _ _ rfl) rfl rfl (Nat.le_of_ble_eq_true rfl) (vz_inc (by omega) (by omega)) rfl ?_
      refine v_goto (hz_X8_scanWord hT _ _ rfl) ?_
      exact k1 hc1 ha2 hb3 hc4
  · have hc1 : n ≤ e := Int.not_lt.mp hc1
    refine v_load (v := (2, 10)) (hz_X8_scanWord hT _ _ rfl) rfl rfl ?_
    refine v_getR (c := 12) (r := 10) (hz_X8_scanWord hT _ _ rfl) rfl rfl rfl ?_
    refine v_load (v := (0, t)) (hz_X8_scanWord hT _ _ rfl) rfl rfl ?_
    refine v_push (1) (hz_X8_scanWord hT _ _ rfl) rfl ?_
    refine v_ast (r := 12) (hz_X8_scanWord hT _ _ rfl) rfl rfl (fun ha13 hb14 hf15 => ?_)
    refine v_load (v := (2, 10)) (hz_X8_scanWord hT _ _ rfl) rfl rfl ?_
    refine v_getR (c := 14) (r := 10) (hz_X8_scanWord hT _ _ rfl) rfl rfl rfl ?_
    refine v_load (v := (0, t)) (hz_X8_scanWord hT _ _ rfl) rfl rfl ?_
    refine v_load (v := (0, e)) (hz_X8_scanWord hT _ _ rfl) rfl rfl ?_
    refine v_ast (r := 14) (hz_X8_scanWord hT _ _ rfl) rfl rfl (fun ha16 hb17 hf18 => ?_)
    refine v_load (v := (2, 10)) (hz_X8_scanWord hT _ _ rfl) rfl rfl ?_
    refine v_getR (c := 15) (r := 10) (hz_X8_scanWord hT _ _ rfl) rfl rfl rfl ?_
    refine v_load (v := (0, t)) (hz_X8_scanWord hT _ _ rfl) rfl rfl ?_
    refine v_load (v := (2, 10)) (hz_X8_scanWord hT _ _ rfl) rfl rfl ?_
    refine v_load (v := (2, 10)) (hz_X8_scanWord hT _ _ rfl) rfl rfl ?_
    refine v_getR (c := 13) (r := 10) (hz_X8_scanWord hT _ _ rfl) rfl rfl rfl ?_
    refine v_load (v := (0, t)) (hz_X8_scanWord hT _ _ rfl) rfl rfl ?_
    refine v_aldE (t := 0) (r := 13) (w := (h 13 t.toNat).2) (hz_X8_scanWord hT _ _ rfl) rfl rfl rfl (congrArg Prod.snd (Eq.trans (zset_ne (fun c => absurd c.1 (by decide))) (zset_ne (fun c => absurd c.1 (by decide))))) (fun ha19 hb20 => ?_)
    refine v_load (v := (0, e)) (hz_X8_scanWord hT _ _ rfl) rfl rfl ?_
    refine v_call (w := 8) [some (2, 10), some (0, (h 13 t.toNat).2), some (0, e), none, none, none, none, none] hO (hz_X8_scanWord hT _ _ rfl) rfl rfl ?_
    exact k2 hc1 ha13 hb14
theorem q_word60 {D : zD} {T : zT} (hT : hTab T) (hO : vOK T) {N : Nat} {h : zH} {Q : zR → Prop} (t n e v : Int) (hv0 : zHv h)
    (k0 : (0 ≤ t) → (t < 901) → Q (zset h 15 t.toNat (0, v), none)) :
    vP D T N 120 60 h [some (2, 10), some (0, t), some (0, n), some (0, e)] [(0, v), (0, t), (2, 15)] Q := by
  refine v_ast (r := 15) (hz_X8_scanWord hT _ _ rfl) rfl rfl (fun ha1 hb2 hf3 => ?_)
  refine v_ret0 (hz_X8_scanWord hT _ _ rfl) ?_
  exact k0 ha1 hb2
theorem q_scan0 {D : zD} {T : zT} (hT : hTab T) (hO : vOK T) {N : Nat} {h : zH} {Q : zR → Prop} (t f n : Int) (hv0 : zHv h)
    (k0 : vP D T N 119 3 h [some (2, 10), some (0, t), some (0, f), some (0, n), some (0, f)] [] Q) :
    vP D T N 119 0 h [some (2, 10), some (0, t), some (0, f), some (0, n), none] [] Q := by
  refine v_load (v := (0, f)) (hz_X8_scanToken hT _ _ rfl) rfl rfl ?_
  refine v_store1 [some (2, 10), some (0, t), some (0, f), some (0, n), some (0, f)] (hz_X8_scanToken hT _ _ rfl) ⟨rfl, Nat.ne_of_beq_eq_false rfl⟩ (Nat.le_of_ble_eq_true rfl) rfl ?_
  exact k0 
theorem q_scan3 {D : zD} {T : zT} (hT : hTab T) (hO : vOK T) {N : Nat} {h : zH} {Q : zR → Prop} (t f n s : Int) (hv0 : zHv h) (bs : 0 ≤ s ∧ s ≤ 900)
    (k0 : (s < n) → (0 ≤ s) → (s < 900) → ((iB ((h 11 s.toNat).2)) = 0) → (0 ≤ t) → (t < 901) → ((iL ((h 11 s.toNat).2)) = 0) → ((iD ((h 11 s.toNat).2)) = 0) → ((iS ((h 11 s.toNat).2)) = 0) → Q (zset (zset (zset (zset (zset (zset h 13 t.toNat (0, s)) 14 t.toNat (0, s)) 15 t.toNat (0, -1)) 12 t.toNat (0, 4)) 15 t.toNat (0, (h 11 s.toNat).2)) 14 t.toNat (0, (s + 1)), none))
    (k1 : (s < n) → (0 ≤ s) → (s < 900) → ((iB ((h 11 s.toNat).2)) = 0) → (0 ≤ t) → (t < 901) → ((iL ((h 11 s.toNat).2)) = 0) → ((iD ((h 11 s.toNat).2)) = 0) → ((iS ((h 11 s.toNat).2)) ≠ 0) → Q (zset (zset (zset (zset (zset (zset h 13 t.toNat (0, s)) 14 t.toNat (0, s)) 15 t.toNat (0, -1)) 12 t.toNat (0, 3)) 15 t.toNat (0, (h 11 s.toNat).2)) 14 t.toNat (0, (s + 1)), none))
    (k2 : (s < n) → (0 ≤ s) → (s < 900) → ((iB ((h 11 s.toNat).2)) = 0) → (0 ≤ t) → (t < 901) → ((iL ((h 11 s.toNat).2)) = 0) → ((iD ((h 11 s.toNat).2)) ≠ 0) → vP D T N 118 0 (zset (zset (zset h 13 t.toNat (0, s)) 14 t.toNat (0, s)) 15 t.toNat (0, -1)) [some (2, 10), some (0, t), some (0, n), none, none] [] (fun r1 => vP D T N 119 108 r1.1 [some (2, 10), some (0, t), some (0, f), some (0, n), some (0, s)] (zpush r1.2 []) Q))
    (k3 : (s < n) → (0 ≤ s) → (s < 900) → ((iB ((h 11 s.toNat).2)) = 0) → (0 ≤ t) → (t < 901) → ((iL ((h 11 s.toNat).2)) ≠ 0) → vP D T N 120 0 (zset (zset (zset h 13 t.toNat (0, s)) 14 t.toNat (0, s)) 15 t.toNat (0, -1)) [some (2, 10), some (0, t), some (0, n), none] [] (fun r1 => vP D T N 119 86 r1.1 [some (2, 10), some (0, t), some (0, f), some (0, n), some (0, s)] (zpush r1.2 []) Q))
    (k4 : (s < n) → (0 ≤ s) → (s < 900) → ((iB ((h 11 s.toNat).2)) ≠ 0) → vP D T N 119 3 h [some (2, 10), some (0, t), some (0, f), some (0, n), some (0, (s + 1))] [] Q)
    (k5 : (n ≤ s) → (0 ≤ t) → (t < 901) → Q (zset (zset (zset (zset h 13 t.toNat (0, s)) 14 t.toNat (0, s)) 15 t.toNat (0, -1)) 12 t.toNat (0, 0), none)) :
    vP D T (N + 1) 119 3 h [some (2, 10), some (0, t), some (0, f), some (0, n), some (0, s)] [] Q := by
  refine v_loadS (v := (0, s)) (hz_X8_scanToken hT _ _ rfl) rfl rfl ?_
  refine v_load (v := (0, n)) (hz_X8_scanToken hT _ _ rfl) rfl rfl ?_
  refine v_ic (hz_X8_scanToken hT _ _ rfl) (fun hc1 => ?_) (fun hc1 => ?_)
  · have hc1 : s < n := hc1
    refine v_load (v := (2, 10)) (hz_X8_scanToken hT _ _ rfl) rfl rfl ?_
    refine v_getR (c := 11) (r := 10) (hz_X8_scanToken hT _ _ rfl) rfl rfl rfl ?_
    refine v_load (v := (0, s)) (hz_X8_scanToken hT _ _ rfl) rfl rfl ?_
    refine v_ald (t := 0) (r := 11) (hz_X8_scanToken hT _ _ rfl) rfl rfl rfl (fun ha2 hb3 => ?_)
    refine v_call (w := 1) [some (0, (h 11 s.toNat).2)] hO (hz_X8_scanToken hT _ _ rfl) rfl rfl (b_blank hT hO ((h 11 s.toNat).2) ?_)
    show vP D T N 119 19 h [some (2, 10), some (0, t), some (0, f), some (0, n), some (0, s)] [(0, (iB ((h 11 s.toNat).2)))] _
    refine v_if (hz_X8_scanToken hT _ _ rfl) (fun hc4 => ?_) (fun hc4 => ?_)
    · have hc4 : (iB ((h 11 s.toNat).2)) = 0 := hc4
      refine v_load (v := (2, 10)) (hz_X8_scanToken hT _ _ rfl) rfl rfl ?_
      refine v_getR (c := 13) (r := 10) (hz_X8_scanToken hT _ _ rfl) rfl rfl rfl ?_
      refine v_load (v := (0, t)) (hz_X8_scanToken hT _ _ rfl) rfl rfl ?_
      refine v_load (v := (0, s)) (hz_X8_scanToken hT _ _ rfl) rfl rfl ?_
      refine v_ast (r := 13) (hz_X8_scanToken hT _ _ rfl) rfl rfl (fun ha5 hb6 hf7 => ?_)
      refine v_load (v := (2, 10)) (hz_X8_scanToken hT _ _ rfl) rfl rfl ?_
      refine v_getR (c := 14) (r := 10) (hz_X8_scanToken hT _ _ rfl) rfl rfl rfl ?_
      refine v_load (v := (0, t)) (hz_X8_scanToken hT _ _ rfl) rfl rfl ?_
      refine v_load (v := (0, s)) (hz_X8_scanToken hT _ _ rfl) rfl rfl ?_
      refine v_ast (r := 14) (hz_X8_scanToken hT _ _ rfl) rfl rfl (fun ha8 hb9 hf10 => ?_)
      refine v_load (v := (2, 10)) (hz_X8_scanToken hT _ _ rfl) rfl rfl ?_
      refine v_getR (c := 15) (r := 10) (hz_X8_scanToken hT _ _ rfl) rfl rfl rfl ?_
      refine v_load (v := (0, t)) (hz_X8_scanToken hT _ _ rfl) rfl rfl ?_
      refine v_push (-1) (hz_X8_scanToken hT _ _ rfl) rfl ?_
      refine v_ast (r := 15) (hz_X8_scanToken hT _ _ rfl) rfl rfl (fun ha11 hb12 hf13 => ?_)
      refine v_load (v := (0, s)) (hz_X8_scanToken hT _ _ rfl) rfl rfl ?_
      refine v_load (v := (0, n)) (hz_X8_scanToken hT _ _ rfl) rfl rfl ?_
      refine v_ic (hz_X8_scanToken hT _ _ rfl) (fun _ => ?_) (fun hc14 => absurd (show s < n from hc1) hc14)
      refine v_load (v := (2, 10)) (hz_X8_scanToken hT _ _ rfl) rfl rfl ?_
      refine v_getR (c := 11) (r := 10) (hz_X8_scanToken hT _ _ rfl) rfl rfl rfl ?_
      refine v_load (v := (0, s)) (hz_X8_scanToken hT _ _ rfl) rfl rfl ?_
      refine v_aldE (t := 0) (r := 11) (w := (h 11 s.toNat).2) (hz_X8_scanToken hT _ _ rfl) rfl rfl rfl (congrArg Prod.snd (Eq.trans (zset_ne (fun c => absurd c.1 (by decide))) (Eq.trans (zset_ne (fun c => absurd c.1 (by decide))) (zset_ne (fun c => absurd c.1 (by decide)))))) (fun ha15 hb16 => ?_)
      refine v_call (w := 1) [some (0, (h 11 s.toNat).2)] hO (hz_X8_scanToken hT _ _ rfl) rfl rfl (b_letter hT hO ((h 11 s.toNat).2) ?_)
      show vP D T N 119 77 (zset (zset (zset h 13 t.toNat (0, s)) 14 t.toNat (0, s)) 15 t.toNat (0, -1)) [some (2, 10), some (0, t), some (0, f), some (0, n), some (0, s)] [(0, (iL ((h 11 s.toNat).2)))] _
      refine v_if (hz_X8_scanToken hT _ _ rfl) (fun hc17 => ?_) (fun hc17 => ?_)
      · have hc17 : (iL ((h 11 s.toNat).2)) = 0 := hc17
        refine v_load (v := (2, 10)) (hz_X8_scanToken hT _ _ rfl) rfl rfl ?_
        refine v_getR (c := 11) (r := 10) (hz_X8_scanToken hT _ _ rfl) rfl rfl rfl ?_
        refine v_load (v := (0, s)) (hz_X8_scanToken hT _ _ rfl) rfl rfl ?_
        refine v_aldE (t := 0) (r := 11) (w := (h 11 s.toNat).2) (hz_X8_scanToken hT _ _ rfl) rfl rfl rfl (congrArg Prod.snd (Eq.trans (zset_ne (fun c => absurd c.1 (by decide))) (Eq.trans (zset_ne (fun c => absurd c.1 (by decide))) (zset_ne (fun c => absurd c.1 (by decide)))))) (fun ha18 hb19 => ?_)
        refine v_call (w := 1) [some (0, (h 11 s.toNat).2)] hO (hz_X8_scanToken hT _ _ rfl) rfl rfl (b_digit hT hO ((h 11 s.toNat).2) ?_)
        show vP D T N 119 99 (zset (zset (zset h 13 t.toNat (0, s)) 14 t.toNat (0, s)) 15 t.toNat (0, -1)) [some (2, 10), some (0, t), some (0, f), some (0, n), some (0, s)] [(0, (iD ((h 11 s.toNat).2)))] _
        refine v_if (hz_X8_scanToken hT _ _ rfl) (fun hc20 => ?_) (fun hc20 => ?_)
        · have hc20 : (iD ((h 11 s.toNat).2)) = 0 := hc20
          refine v_load (v := (2, 10)) (hz_X8_scanToken hT _ _ rfl) rfl rfl ?_
          refine v_getR (c := 12) (r := 10) (hz_X8_scanToken hT _ _ rfl) rfl rfl rfl ?_
          refine v_load (v := (0, t)) (hz_X8_scanToken hT _ _ rfl) rfl rfl ?_
          refine v_load (v := (2, 10)) (hz_X8_scanToken hT _ _ rfl) rfl rfl ?_
          refine v_getR (c := 11) (r := 10) (hz_X8_scanToken hT _ _ rfl) rfl rfl rfl ?_
          refine v_load (v := (0, s)) (hz_X8_scanToken hT _ _ rfl) rfl rfl ?_
          refine v_aldE (t := 0) (r := 11) (w := (h 11 s.toNat).2) (hz_X8_scanToken hT _ _ rfl) rfl rfl rfl (congrArg Prod.snd (Eq.trans (zset_ne (fun c => absurd c.1 (by decide))) (Eq.trans (zset_ne (fun c => absurd c.1 (by decide))) (zset_ne (fun c => absurd c.1 (by decide)))))) (fun ha21 hb22 => ?_)
          refine v_call (w := 1) [some (0, (h 11 s.toNat).2)] hO (hz_X8_scanToken hT _ _ rfl) rfl rfl (b_sign hT hO ((h 11 s.toNat).2) ?_)
          show vP D T N 119 126 (zset (zset (zset h 13 t.toNat (0, s)) 14 t.toNat (0, s)) 15 t.toNat (0, -1)) [some (2, 10), some (0, t), some (0, f), some (0, n), some (0, s)] [(0, (iS ((h 11 s.toNat).2))), (0, t), (2, 12)] _
          refine v_if (hz_X8_scanToken hT _ _ rfl) (fun hc23 => ?_) (fun hc23 => ?_)
          · have hc23 : (iS ((h 11 s.toNat).2)) = 0 := hc23
            refine v_push (4) (hz_X8_scanToken hT _ _ rfl) rfl ?_
            refine v_ast (r := 12) (hz_X8_scanToken hT _ _ rfl) rfl rfl (fun ha24 hb25 hf26 => ?_)
            refine v_load (v := (2, 10)) (hz_X8_scanToken hT _ _ rfl) rfl rfl ?_
            refine v_getR (c := 15) (r := 10) (hz_X8_scanToken hT _ _ rfl) rfl rfl rfl ?_
            refine v_load (v := (0, t)) (hz_X8_scanToken hT _ _ rfl) rfl rfl ?_
            refine v_load (v := (2, 10)) (hz_X8_scanToken hT _ _ rfl) rfl rfl ?_
            refine v_getR (c := 11) (r := 10) (hz_X8_scanToken hT _ _ rfl) rfl rfl rfl ?_
            refine v_load (v := (0, s)) (hz_X8_scanToken hT _ _ rfl) rfl rfl ?_
            refine v_aldE (t := 0) (r := 11) (w := (h 11 s.toNat).2) (hz_X8_scanToken hT _ _ rfl) rfl rfl rfl (congrArg Prod.snd (Eq.trans (zset_ne (fun c => absurd c.1 (by decide))) (Eq.trans (zset_ne (fun c => absurd c.1 (by decide))) (Eq.trans (zset_ne (fun c => absurd c.1 (by decide))) (zset_ne (fun c => absurd c.1 (by decide))))))) (fun ha27 hb28 => ?_)
            refine v_ast (r := 15) (hz_X8_scanToken hT _ _ rfl) rfl rfl (fun ha29 hb30 hf31 => ?_)
            refine v_load (v := (2, 10)) (hz_X8_scanToken hT _ _ rfl) rfl rfl ?_
            refine v_getR (c := 14) (r := 10) (hz_X8_scanToken hT _ _ rfl) rfl rfl rfl ?_
            refine v_load (v := (0, t)) (hz_X8_scanToken hT _ _ rfl) rfl rfl ?_
            refine v_load (v := (0, s)) (hz_X8_scanToken hT _ _ rfl) rfl rfl ?_
            refine v_push (1) (hz_X8_scanToken hT _ _ rfl) rfl ?_
            refine v_bin (w := (s + 1)) (hz_X8_scanToken hT _ _ rfl) (hq_add (by omega) (by omega)) ?_
            refine v_ast (r := 14) (hz_X8_scanToken hT _ _ rfl) rfl rfl (fun ha32 hb33 hf34 => ?_)
            refine v_ret0 (hz_X8_scanToken hT _ _ rfl) ?_
            exact k0 hc1 ha2 hb3 hc4 ha5 hb6 hc17 hc20 hc23
          · have hc23 : (iS ((h 11 s.toNat).2)) ≠ 0 := hc23
            refine v_push (3) (hz_X8_scanToken hT _ _ rfl) rfl ?_
            refine v_goto (hz_X8_scanToken hT _ _ rfl) ?_
            refine v_ast (r := 12) (hz_X8_scanToken hT _ _ rfl) rfl rfl (fun ha35 hb36 hf37 => ?_)
            refine v_load (v := (2, 10)) (hz_X8_scanToken hT _ _ rfl) rfl rfl ?_
            refine v_getR (c := 15) (r := 10) (hz_X8_scanToken hT _ _ rfl) rfl rfl rfl ?_
            refine v_load (v := (0, t)) (hz_X8_scanToken hT _ _ rfl) rfl rfl ?_
            refine v_load (v := (2, 10)) (hz_X8_scanToken hT _ _ rfl) rfl rfl ?_
            refine v_getR (c := 11) (r := 10) (hz_X8_scanToken hT _ _ rfl) rfl rfl rfl ?_
            refine v_load (v := (0, s)) (hz_X8_scanToken hT _ _ rfl) rfl rfl ?_
            refine v_aldE (t := 0) (r := 11) (w := (h 11 s.toNat).2) (hz_X8_scanToken hT _ _ rfl) rfl rfl rfl (congrArg Prod.snd (Eq.trans (zset_ne (fun c => absurd c.1 (by decide))) (Eq.trans (zset_ne (fun c => absurd c.1 (by decide))) (Eq.trans (zset_ne (fun c => absurd c.1 (by decide))) (zset_ne (fun c => absurd c.1 (by decide))))))) (fun ha38 hb39 => ?_)
            refine v_ast (r := 15) (hz_X8_scanToken hT _ _ rfl) rfl rfl (fun ha40 hb41 hf42 => ?_)
            refine v_load (v := (2, 10)) (hz_X8_scanToken hT _ _ rfl) rfl rfl ?_
            refine v_getR (c := 14) (r := 10) (hz_X8_scanToken hT _ _ rfl) rfl rfl rfl ?_
            refine v_load (v := (0, t)) (hz_X8_scanToken hT _ _ rfl) rfl rfl ?_
            refine v_load (v := (0, s)) (hz_X8_scanToken hT _ _ rfl) rfl rfl ?_
            refine v_push (1) (hz_X8_scanToken hT _ _ rfl) rfl ?_
            refine v_bin (w := (s + 1)) (hz_X8_scanToken hT _ _ rfl) (hq_add (by omega) (by omega)) ?_
            refine v_ast (r := 14) (hz_X8_scanToken hT _ _ rfl) rfl rfl (fun ha43 hb44 hf45 => ?_)
            refine v_ret0 (hz_X8_scanToken hT _ _ rfl) ?_
            exact k1 hc1 ha2 hb3 hc4 ha5 hb6 hc17 hc20 hc23
        · have hc20 : (iD ((h 11 s.toNat).2)) ≠ 0 := hc20
          refine v_load (v := (2, 10)) (hz_X8_scanToken hT _ _ rfl) rfl rfl ?_
          refine v_load (v := (0, t)) (hz_X8_scanToken hT _ _ rfl) rfl rfl ?_
          refine v_load (v := (0, n)) (hz_X8_scanToken hT _ _ rfl) rfl rfl ?_
          refine v_call (w := 5) [some (2, 10), some (0, t), some (0, n), none, none] hO (hz_X8_scanToken hT _ _ rfl) rfl rfl ?_
          exact k2 hc1 ha2 hb3 hc4 ha5 hb6 hc17 hc20
      · have hc17 : (iL ((h 11 s.toNat).2)) ≠ 0 := hc17
        refine v_load (v := (2, 10)) (hz_X8_scanToken hT _ _ rfl) rfl rfl ?_
        refine v_load (v := (0, t)) (hz_X8_scanToken hT _ _ rfl) rfl rfl ?_
        refine v_load (v := (0, n)) (hz_X8_scanToken hT _ _ rfl) rfl rfl ?_
        refine v_call (w := 4) [some (2, 10), some (0, t), some (0, n), none] hO (hz_X8_scanToken hT _ _ rfl) rfl rfl ?_
        exact k3 hc1 ha2 hb3 hc4 ha5 hb6 hc17
    · have hc4 : (iB ((h 11 s.toNat).2)) ≠ 0 := hc4
      refine v_iinc (x := s) (u := 1) (w := (s + 1)) [some (2, 10), some (0, t), some (0, f), some (0, n), some (0, (s + 1))] (hz_X8_scanToken hT _ _ rfl) rfl rfl (Nat.le_of_ble_eq_true rfl) (vz_inc (by omega) (by omega)) rfl ?_
      refine v_goto (hz_X8_scanToken hT _ _ rfl) ?_
      exact k4 hc1 ha2 hb3 hc4
  · have hc1 : n ≤ s := Int.not_lt.mp hc1
    refine v_load (v := (2, 10)) (hz_X8_scanToken hT _ _ rfl) rfl rfl ?_
    refine v_getR (c := 13) (r := 10) (hz_X8_scanToken hT _ _ rfl) rfl rfl rfl ?_
    refine v_load (v := (0, t)) (hz_X8_scanToken hT _ _ rfl) rfl rfl ?_
    refine v_load (v := (0, s)) (hz_X8_scanToken hT _ _ rfl) rfl rfl ?_
    refine v_ast (r := 13) (hz_X8_scanToken hT _ _ rfl) rfl rfl (fun ha46 hb47 hf48 => ?_)
    refine v_load (v := (2, 10)) (hz_X8_scanToken hT _ _ rfl) rfl rfl ?_
    refine v_getR (c := 14) (r := 10) (hz_X8_scanToken hT _ _ rfl) rfl rfl rfl ?_
    refine v_load (v := (0, t)) (hz_X8_scanToken hT _ _ rfl) rfl rfl ?_
    refine v_load (v := (0, s)) (hz_X8_scanToken hT _ _ rfl) rfl rfl ?_
    refine v_ast (r := 14) (hz_X8_scanToken hT _ _ rfl) rfl rfl (fun ha49 hb50 hf51 => ?_)
    refine v_load (v := (2, 10)) (hz_X8_scanToken hT _ _ rfl) rfl rfl ?_
    refine v_getR (c := 15) (r := 10) (hz_X8_scanToken hT _ _ rfl) rfl rfl rfl ?_
    refine v_load (v := (0, t)) (hz_X8_scanToken hT _ _ rfl) rfl rfl ?_
    refine v_push (-1) (hz_X8_scanToken hT _ _ rfl) rfl ?_
    refine v_ast (r := 15) (hz_X8_scanToken hT _ _ rfl) rfl rfl (fun ha52 hb53 hf54 => ?_)
    refine v_load (v := (0, s)) (hz_X8_scanToken hT _ _ rfl) rfl rfl ?_
    refine v_load (v := (0, n)) (hz_X8_scanToken hT _ _ rfl) rfl rfl ?_
    refine v_ic (hz_X8_scanToken hT _ _ rfl) (fun hc55 => absurd (show s < n from hc55) (by omega)) (fun _ => ?_)
    refine v_load (v := (2, 10)) (hz_X8_scanToken hT _ _ rfl) rfl rfl ?_
    refine v_getR (c := 12) (r := 10) (hz_X8_scanToken hT _ _ rfl) rfl rfl rfl ?_
    refine v_load (v := (0, t)) (hz_X8_scanToken hT _ _ rfl) rfl rfl ?_
    refine v_push (0) (hz_X8_scanToken hT _ _ rfl) rfl ?_
    refine v_ast (r := 12) (hz_X8_scanToken hT _ _ rfl) rfl rfl (fun ha56 hb57 hf58 => ?_)
    refine v_goto (hz_X8_scanToken hT _ _ rfl) ?_
    refine v_ret0 (hz_X8_scanToken hT _ _ rfl) ?_
    exact k5 hc1 ha46 hb47
theorem q_scan86 {D : zD} {T : zT} (hT : hTab T) (hO : vOK T) {N : Nat} {h : zH} {Q : zR → Prop} (t f n s : Int) (hv0 : zHv h)
    (k0 : Q (h, none)) :
    vP D T N 119 86 h [some (2, 10), some (0, t), some (0, f), some (0, n), some (0, s)] [] Q := by
  refine v_goto (hz_X8_scanToken hT _ _ rfl) ?_
  refine v_ret0 (hz_X8_scanToken hT _ _ rfl) ?_
  exact k0 
theorem q_scan108 {D : zD} {T : zT} (hT : hTab T) (hO : vOK T) {N : Nat} {h : zH} {Q : zR → Prop} (t f n s : Int) (hv0 : zHv h)
    (k0 : Q (h, none)) :
    vP D T N 119 108 h [some (2, 10), some (0, t), some (0, f), some (0, n), some (0, s)] [] Q := by
  refine v_goto (hz_X8_scanToken hT _ _ rfl) ?_
  refine v_ret0 (hz_X8_scanToken hT _ _ rfl) ?_
  exact k0 
theorem q_beg0 {D : zD} {T : zT} (hT : hTab T) (hO : vOK T) {N : Nat} {h : zH} {Q : zR → Prop} (n : Int) (hv0 : zHv h)
    (k0 : vP D T N 102 33 (zset (zset (zset h 10 6 (0, 0)) 10 7 (0, 0)) 10 8 (0, -1)) [some (2, 10), some (0, n), some (0, (if 0 < (if (h 10 1).2 < n then (h 10 1).2 else n) then (if (h 10 1).2 < n then (h 10 1).2 else n) else 0)), some (0, 0), some (0, 0)] [] Q) :
    vP D T N 102 0 h [some (2, 10), some (0, n), none, none, none] [] Q := by
  refine v_push (0) (hz_X8_beginText hT _ _ rfl) rfl ?_
  refine v_load (v := (0, n)) (hz_X8_beginText hT _ _ rfl) rfl rfl ?_
  refine v_load (v := (2, 10)) (hz_X8_beginText hT _ _ rfl) rfl rfl ?_
  refine v_getI (t := 0) (r := 10) (hz_X8_beginText hT _ _ rfl) rfl rfl rfl ?_
  refine v_min (hz_X8_beginText hT _ _ rfl) ?_
  refine v_max (hz_X8_beginText hT _ _ rfl) ?_
  refine v_store1 [some (2, 10), some (0, n), some (0, (if 0 < (if (h 10 1).2 < n then (h 10 1).2 else n) then (if (h 10 1).2 < n then (h 10 1).2 else n) else 0)), none, none] (hz_X8_beginText hT _ _ rfl) ⟨rfl, Nat.ne_of_beq_eq_false rfl⟩ (Nat.le_of_ble_eq_true rfl) rfl ?_
  refine v_load (v := (2, 10)) (hz_X8_beginText hT _ _ rfl) rfl rfl ?_
  refine v_push (0) (hz_X8_beginText hT _ _ rfl) rfl ?_
  refine v_putf (r := 10) hO (hz_X8_beginText hT _ _ rfl) rfl (fun hf1 => ?_)
  refine v_load (v := (2, 10)) (hz_X8_beginText hT _ _ rfl) rfl rfl ?_
  refine v_push (0) (hz_X8_beginText hT _ _ rfl) rfl ?_
  refine v_putf (r := 10) hO (hz_X8_beginText hT _ _ rfl) rfl (fun hf2 => ?_)
  refine v_load (v := (2, 10)) (hz_X8_beginText hT _ _ rfl) rfl rfl ?_
  refine v_push (-1) (hz_X8_beginText hT _ _ rfl) rfl ?_
  refine v_putf (r := 10) hO (hz_X8_beginText hT _ _ rfl) rfl (fun hf3 => ?_)
  refine v_push (0) (hz_X8_beginText hT _ _ rfl) rfl ?_
  refine v_store1 [some (2, 10), some (0, n), some (0, (if 0 < (if (h 10 1).2 < n then (h 10 1).2 else n) then (if (h 10 1).2 < n then (h 10 1).2 else n) else 0)), some (0, 0), none] (hz_X8_beginText hT _ _ rfl) ⟨rfl, Nat.ne_of_beq_eq_false rfl⟩ (Nat.le_of_ble_eq_true rfl) rfl ?_
  refine v_push (0) (hz_X8_beginText hT _ _ rfl) rfl ?_
  refine v_store1 [some (2, 10), some (0, n), some (0, (if 0 < (if (h 10 1).2 < n then (h 10 1).2 else n) then (if (h 10 1).2 < n then (h 10 1).2 else n) else 0)), some (0, 0), some (0, 0)] (hz_X8_beginText hT _ _ rfl) ⟨rfl, Nat.ne_of_beq_eq_false rfl⟩ (Nat.le_of_ble_eq_true rfl) rfl ?_
  exact k0 
theorem q_beg33 {D : zD} {T : zT} (hT : hTab T) (hO : vOK T) {N : Nat} {h : zH} {Q : zR → Prop} (n x f t : Int) (hv0 : zHv h)
    (k0 : (900 < t) → Q (h, none))
    (k1 : (t ≤ 900) → vP D T N 119 0 h [some (2, 10), some (0, t), some (0, f), some (0, x), none] [] (fun r1 => vP D T N 102 49 r1.1 [some (2, 10), some (0, n), some (0, x), some (0, f), some (0, t)] (zpush r1.2 []) Q)) :
    vP D T (N + 1) 102 33 h [some (2, 10), some (0, n), some (0, x), some (0, f), some (0, t)] [] Q := by
  refine v_loadS (v := (0, t)) (hz_X8_beginText hT _ _ rfl) rfl rfl ?_
  refine v_push (900) (hz_X8_beginText hT _ _ rfl) rfl ?_
  refine v_ic (hz_X8_beginText hT _ _ rfl) (fun hc1 => ?_) (fun hc1 => ?_)
  · have hc1 : 900 < t := hc1
    refine v_ret0 (hz_X8_beginText hT _ _ rfl) ?_
    exact k0 hc1
  · have hc1 : t ≤ 900 := Int.not_lt.mp hc1
    refine v_load (v := (2, 10)) (hz_X8_beginText hT _ _ rfl) rfl rfl ?_
    refine v_load (v := (0, t)) (hz_X8_beginText hT _ _ rfl) rfl rfl ?_
    refine v_load (v := (0, f)) (hz_X8_beginText hT _ _ rfl) rfl rfl ?_
    refine v_load (v := (0, x)) (hz_X8_beginText hT _ _ rfl) rfl rfl ?_
    refine v_call (w := 5) [some (2, 10), some (0, t), some (0, f), some (0, x), none] hO (hz_X8_beginText hT _ _ rfl) rfl rfl ?_
    exact k1 hc1
theorem q_beg49 {D : zD} {T : zT} (hT : hTab T) (hO : vOK T) {N : Nat} {h : zH} {Q : zR → Prop} (n x f t : Int) (hv0 : zHv h) (bt : 0 ≤ t ∧ t ≤ 900)
    (k0 : (0 ≤ t) → (t < 901) → ((h 12 t.toNat).2 = 0) → Q (h, none))
    (k1 : (0 ≤ t) → (t < 901) → ((h 12 t.toNat).2 ≠ 0) → ((h 12 t.toNat).2 = 4) → Q (h, none))
    (k2 : (0 ≤ t) → (t < 901) → ((h 12 t.toNat).2 ≠ 0) → ((h 12 t.toNat).2 ≠ 4) → vP D T N 102 33 h [some (2, 10), some (0, n), some (0, x), some (0, (h 14 t.toNat).2), some (0, (t + 1))] [] Q) :
    vP D T N 102 49 h [some (2, 10), some (0, n), some (0, x), some (0, f), some (0, t)] [] Q := by
  refine v_load (v := (2, 10)) (hz_X8_beginText hT _ _ rfl) rfl rfl ?_
  refine v_getR (c := 14) (r := 10) (hz_X8_beginText hT _ _ rfl) rfl rfl rfl ?_
  refine v_load (v := (0, t)) (hz_X8_beginText hT _ _ rfl) rfl rfl ?_
  refine v_ald (t := 0) (r := 14) (hz_X8_beginText hT _ _ rfl) rfl rfl rfl (fun ha1 hb2 => ?_)
  refine v_store1 [some (2, 10), some (0, n), some (0, x), some (0, (h 14 t.toNat).2), some (0, t)] (hz_X8_beginText hT _ _ rfl) ⟨rfl, Nat.ne_of_beq_eq_false rfl⟩ (Nat.le_of_ble_eq_true rfl) rfl ?_
  refine v_load (v := (2, 10)) (hz_X8_beginText hT _ _ rfl) rfl rfl ?_
  refine v_getR (c := 12) (r := 10) (hz_X8_beginText hT _ _ rfl) rfl rfl rfl ?_
  refine v_load (v := (0, t)) (hz_X8_beginText hT _ _ rfl) rfl rfl ?_
  refine v_ald (t := 0) (r := 12) (hz_X8_beginText hT _ _ rfl) rfl rfl rfl (fun ha3 hb4 => ?_)
  refine v_if (hz_X8_beginText hT _ _ rfl) (fun hc5 => ?_) (fun hc5 => ?_)
  · have hc5 : (h 12 t.toNat).2 = 0 := hc5
    refine v_ret0 (hz_X8_beginText hT _ _ rfl) ?_
    exact k0 ha1 hb2 hc5
  · have hc5 : (h 12 t.toNat).2 ≠ 0 := hc5
    refine v_load (v := (2, 10)) (hz_X8_beginText hT _ _ rfl) rfl rfl ?_
    refine v_getR (c := 12) (r := 10) (hz_X8_beginText hT _ _ rfl) rfl rfl rfl ?_
    refine v_load (v := (0, t)) (hz_X8_beginText hT _ _ rfl) rfl rfl ?_
    refine v_ald (t := 0) (r := 12) (hz_X8_beginText hT _ _ rfl) rfl rfl rfl (fun ha6 hb7 => ?_)
    refine v_push (4) (hz_X8_beginText hT _ _ rfl) rfl ?_
    refine v_ic (hz_X8_beginText hT _ _ rfl) (fun hc8 => ?_) (fun hc8 => ?_)
    · have hc8 : (h 12 t.toNat).2 = 4 := hc8
      refine v_ret0 (hz_X8_beginText hT _ _ rfl) ?_
      exact k1 ha1 hb2 hc5 hc8
    · have hc8 : (h 12 t.toNat).2 ≠ 4 := hc8
      refine v_iinc (x := t) (u := 1) (w := (t + 1)) [some (2, 10), some (0, n), some (0, x), some (0, (h 14 t.toNat).2), some (0, (t + 1))] (hz_X8_beginText hT _ _ rfl) rfl rfl (Nat.le_of_ble_eq_true rfl) (vz_inc (by omega) (by omega)) rfl ?_
      refine v_goto (hz_X8_beginText hT _ _ rfl) ?_
      exact k2 ha1 hb2 hc5 hc8
