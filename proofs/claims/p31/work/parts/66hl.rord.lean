theorem qr_named0o {D : zD} {T : zT} (hT : hTab T) (hO : vOK T) {N : Nat} {h : zH} {Q : zR → Prop} (k : Int) (hv0 : zHv h)
    (k0 : vP D T N 283 2 h [some (2, 121), some (0, 0), some (0, k), some (0, 0)] [] Q) :
    vP D T N 283 0 h [some (2, 121), some (0, 0), some (0, k), none] [] Q := by
  refine v_push (0) (hz_X12_named hT _ _ rfl) rfl ?_
  refine v_store1 [some (2, 121), some (0, 0), some (0, k), some (0, 0)] (hz_X12_named hT _ _ rfl) ⟨rfl, Nat.ne_of_beq_eq_false rfl⟩ (Nat.le_of_ble_eq_true rfl) rfl ?_
  exact k0 
theorem qr_named2o {D : zD} {T : zT} (hT : hTab T) (hO : vOK T) {N : Nat} {h : zH} {Q : zR → Prop} {B : Nat → Int} {n m i : Nat} {τ : PT} (k j : Int) (hv0 : zHv h) (hX : rX B n m τ i h) (h1 : τ 0 i = 1) (hj : 0 ≤ j ∧ j ≤ 6)
    (k0 : (j < k) → (0 ≤ (0 + j)) → ((0 + j) < 30) → ((h 128 ((0 + j)).toNat).2 = (τ 4 i)) → Q (h, some (0, j)))
    (k1 : (j < k) → (0 ≤ (0 + j)) → ((0 + j) < 30) → ((h 128 ((0 + j)).toNat).2 ≠ (τ 4 i)) → vP D T N 283 2 h [some (2, 121), some (0, 0), some (0, k), some (0, (j + 1))] [] Q)
    (k2 : (k ≤ j) → Q (h, some (0, -1))) :
    vP D T (N + 1) 283 2 h [some (2, 121), some (0, 0), some (0, k), some (0, j)] [] Q := by
  refine v_loadS (v := (0, j)) (hz_X12_named hT _ _ rfl) rfl rfl ?_
  refine v_load (v := (0, k)) (hz_X12_named hT _ _ rfl) rfl rfl ?_
  refine v_ic (hz_X12_named hT _ _ rfl) (fun hc1 => ?_) (fun hc1 => ?_)
  · have hc1 : j < k := hc1
    refine v_load (v := (2, 121)) (hz_X12_named hT _ _ rfl) rfl rfl ?_
    refine v_getR (c := 128) (r := 121) (hz_X12_named hT _ _ rfl) rfl rfl rfl ?_
    refine v_push (6) (hz_X12_named hT _ _ rfl) rfl ?_
    refine v_load (v := (0, 0)) (hz_X12_named hT _ _ rfl) rfl rfl ?_
    refine v_bin (w := 0) (hz_X12_named hT _ _ rfl) (by decide) ?_
    refine v_load (v := (0, j)) (hz_X12_named hT _ _ rfl) rfl rfl ?_
    refine v_bin (w := (0 + j)) (hz_X12_named hT _ _ rfl) (hq_add (by omega) (by omega)) ?_
    refine v_ald (t := 1) (r := 128) (hz_X12_named hT _ _ rfl) rfl rfl rfl (fun ha2 hb3 => ?_)
    refine v_load (v := (2, 121)) (hz_X12_named hT _ _ rfl) rfl rfl ?_
    refine v_getf (v := (1, (τ 4 i))) (r := 121) (hz_X12_named hT _ _ rfl) rfl rfl (fun _ => (hX.wd h1)) ?_
    refine v_lif (hz_X12_named hT _ _ rfl) (hz_X12_named hT _ _ rfl) (fun hc4 => ?_) (fun hc4 => ?_)
    · have hc4 : (h 128 ((0 + j)).toNat).2 = (τ 4 i) := hc4
      refine v_load (v := (0, j)) (hz_X12_named hT _ _ rfl) rfl rfl ?_
      refine v_ret (hz_X12_named hT _ _ rfl) (Or.inl rfl) ?_
      exact k0 hc1 ha2 hb3 hc4
    · have hc4 : (h 128 ((0 + j)).toNat).2 ≠ (τ 4 i) := hc4
      refine v_iinc (x := j) (u := 1) (w := (j + 1)) [some (2, 121), some (0, 0), some (0, k), some (0, (j + 1))] (hz_X12_named hT _ _ rfl) rfl rfl (Nat.le_of_ble_eq_true rfl) (vz_inc (by omega) (by omega)) rfl ?_
      refine v_goto (hz_X12_named hT _ _ rfl) ?_
      exact k1 hc1 ha2 hb3 hc4
  · have hc1 : k ≤ j := Int.not_lt.mp hc1
    refine v_push (-1) (hz_X12_named hT _ _ rfl) rfl ?_
    refine v_ret (hz_X12_named hT _ _ rfl) (Or.inl rfl) ?_
    exact k2 hc1
theorem rx_named_0 {D : zD} {T : zT} {N : Nat} {h : zH} {Q : zR → Prop} {B : Nat → Int} {n m i : Nat} {τ P : PT} (hT : hTab T) (hO : vOK T) (hX : rX B n m τ i h) (h1 : τ 0 i = 1) (hN : rNm P h) (hb : 0 ≤ P 0 3 ∧ P 0 3 ≤ 6) (k : Q (h, some (0, pIx (P 4) (τ 4 i) (P 0 3).toNat 0))) : vP D T N 283 0 h [some (2, 121), some (0, 0), some (0, P 0 3), none] [] Q := by
  refine vP_hv (fun hv => qr_named0o hT hO (P 0 3) hv ?_)
  refine vP_loop (fun h' l => h' = h ∧ ∃ j : Nat, j ≤ (P 0 3).toNat ∧ l = [some (2, 121), some (0, 0), some (0, P 0 3), some (0, (j : Int))] ∧ pIx (P 4) (τ 4 i) (P 0 3).toNat 0 = pIx (P 4) (τ 4 i) ((P 0 3).toNat - j) j) ?_ N _ _ ⟨rfl, 0, Nat.zero_le _, rfl, rfl⟩
  rintro N h' l ⟨rfl, j, hj, rfl, he⟩ ih
  rw [he] at k
  have ej : ((0 + (j : Int))).toNat = j := by omega
  refine vP_hv (fun hv => qr_named2o hT hO (P 0 3) j hv hX h1 ⟨by omega, by omega⟩ ?_ ?_ ?_)
  · intro c1 _ _ c2
    rw [ej, hN j c1] at c2
    rw [show (P 0 3).toNat - j = ((P 0 3).toNat - j - 1) + 1 from by omega] at k
    have k : Q (h', some (0, if P 4 j = τ 4 i then (j : Int) else pIx (P 4) (τ 4 i) ((P 0 3).toNat - j - 1) (j + 1))) := k
    rw [if_pos c2] at k
    exact k
  · intro c1 _ _ c2
    rw [ej, hN j c1] at c2
    refine ih _ _ ⟨rfl, j + 1, by omega, rfl, ?_⟩
    rw [he, show (P 0 3).toNat - j = ((P 0 3).toNat - (j + 1)) + 1 from by omega]
    exact if_neg c2
  · intro c1
    rw [show (P 0 3).toNat - j = 0 from by omega] at k
    exact k
theorem qr_cell_0 {D : zD} {T : zT} (hT : hTab T) (hO : vOK T) {N : Nat} {h : zH} {Q : zR → Prop} {B : Nat → Int} {n m i : Nat} {τ : PT} (w R : Int) (hv0 : zHv h) (hX : rX B n m τ i h) (hw : h 126 0 = (0, w)) (hr : h 126 1 = (0, R)) (bw : 0 ≤ w ∧ w ≤ 8) (br : 0 ≤ R ∧ R ≤ 6)
    (k0 : ∀ (g4 : zH) (x3 : Int), (qF h g4) → (pNum τ 0 ((w - 1)) i = .inr (x3, i + 1)) → (0 ≤ x3) → (x3 ≤ (w - 1)) → (rX B n m τ (i + 1) g4) → ∀ (g9 : zH) (x8 : Int), (qF g4 g9) → (pNum τ 0 ((R - 1)) (i + 1) = .inr (x8, i + 1 + 1)) → (0 ≤ x8) → (x8 ≤ (R - 1)) → (rX B n m τ (i + 1 + 1) g9) → Q (g9, some (0, ((w * x8) + x3))))
    (k1 : ∀ (g4 : zH) (x3 : Int), (qF h g4) → (pNum τ 0 ((w - 1)) i = .inr (x3, i + 1)) → (0 ≤ x3) → (x3 ≤ (w - 1)) → (rX B n m τ (i + 1) g4) → ∀ (g10 : zH) (e10 : Er), (qF g4 g10) → (pNum τ 0 ((R - 1)) (i + 1) = .inl e10) → (rE e10 g10) → Q (g10, some (0, ((w * 0) + x3))))
    (k2 : ∀ (g5 : zH) (e5 : Er), (qF h g5) → (pNum τ 0 ((w - 1)) i = .inl e5) → (rE e5 g5) → Q (g5, some (0, ((w * 0) + 0)))) :
    vP D T N 295 0 h [some (2, 121), some (0, 0), none, none] [] Q := by
  refine v_load (v := (2, 121)) (hi_X12_readCell_0 hT) rfl rfl ?_
  refine v_push (0) (hi_X12_readCell_1 hT) rfl ?_
  refine v_load (v := (2, 121)) (hi_X12_readCell_2 hT) rfl rfl ?_
  refine v_getR (c := 126) (r := 121) (hi_X12_readCell_3 hT) rfl rfl rfl ?_
  refine v_load (v := (0, 0)) (hi_X12_readCell_6 hT) rfl rfl ?_
  refine v_aldV (v := (0, w)) (r := 126) (hi_X12_readCell_7 hT) rfl rfl (fun _ _ _ => hw) (fun ha1 hb2 => ?_)
  refine v_push (1) (hi_X12_readCell_8 hT) rfl ?_
  refine v_bin (w := (w - 1)) (hi_X12_readCell_9 hT) (hq_sub (by omega) (by omega)) ?_
  refine v_call (w := 4) [some (2, 121), some (0, 0), some (0, (w - 1)), none] hO (hi_X12_readCell_10 hT) rfl rfl (rx_num hT hO 0 ((w - 1)) hX (fun g4 x3 ft4 q4 bux3 bvx3 hX4 => ?_) (fun g5 e5 ft5 q5 c5 => ?_))
  · show vP D T N 295 13 g4 [some (2, 121), some (0, 0), none, none] [(0, x3)] _
    refine vP_hv (fun hv4 => ?_)
    refine v_store1 [some (2, 121), some (0, 0), some (0, x3), none] (hi_X12_readCell_13 hT) ⟨rfl, Nat.ne_of_beq_eq_false rfl⟩ (Nat.le_of_ble_eq_true rfl) rfl ?_
    refine v_load (v := (2, 121)) (hi_X12_readCell_14 hT) rfl rfl ?_
    refine v_push (0) (hi_X12_readCell_15 hT) rfl ?_
    refine v_load (v := (2, 121)) (hi_X12_readCell_16 hT) rfl rfl ?_
    refine v_getR (c := 126) (r := 121) (hi_X12_readCell_17 hT) rfl rfl rfl ?_
    refine v_load (v := (0, 0)) (hi_X12_readCell_20 hT) rfl rfl ?_
    refine v_push (1) (hi_X12_readCell_21 hT) rfl ?_
    refine v_bin (w := 1) (hi_X12_readCell_22 hT) (by decide) ?_
    refine v_aldV (v := (0, R)) (r := 126) (hi_X12_readCell_23 hT) rfl rfl (fun _ _ _ => (Eq.trans (ft4 126 1 (by first | decide | exact fun c => by omega)) hr)) (fun ha6 hb7 => ?_)
    refine v_push (1) (hi_X12_readCell_24 hT) rfl ?_
    refine v_bin (w := (R - 1)) (hi_X12_readCell_25 hT) (hq_sub (by omega) (by omega)) ?_
    refine v_call (w := 4) [some (2, 121), some (0, 0), some (0, (R - 1)), none] hO (hi_X12_readCell_26 hT) rfl rfl (rx_num hT hO 0 ((R - 1)) hX4 (fun g9 x8 ft9 q9 bux8 bvx8 hX9 => ?_) (fun g10 e10 ft10 q10 c10 => ?_))
    · show vP D T N 295 29 g9 [some (2, 121), some (0, 0), some (0, x3), none] [(0, x8)] _
      refine vP_hv (fun hv9 => ?_)
      refine v_store1 [some (2, 121), some (0, 0), some (0, x3), some (0, x8)] (hi_X12_readCell_29 hT) ⟨rfl, Nat.ne_of_beq_eq_false rfl⟩ (Nat.le_of_ble_eq_true rfl) rfl ?_
      refine v_load (v := (2, 121)) (hi_X12_readCell_30 hT) rfl rfl ?_
      refine v_getR (c := 126) (r := 121) (hi_X12_readCell_31 hT) rfl rfl rfl ?_
      refine v_load (v := (0, 0)) (hi_X12_readCell_34 hT) rfl rfl ?_
      refine v_aldV (v := (0, w)) (r := 126) (hi_X12_readCell_35 hT) rfl rfl (fun _ _ _ => (Eq.trans (ft9 126 0 (by first | decide | exact fun c => by omega)) (Eq.trans (ft4 126 0 (by first | decide | exact fun c => by omega)) hw))) (fun ha11 hb12 => ?_)
      refine v_load (v := (0, x8)) (hi_X12_readCell_36 hT) rfl rfl ?_
      refine v_bin (w := (w * x8)) (hi_X12_readCell_37 hT) (hq_mulB (by omega) (by omega)) ?_
      refine v_load (v := (0, x3)) (hi_X12_readCell_38 hT) rfl rfl ?_
      refine v_bin (w := ((w * x8) + x3)) (hi_X12_readCell_39 hT) (hq_addB (by omega) (by omega) (by omega)) ?_
      refine v_ret (hi_X12_readCell_40 hT) (Or.inl rfl) ?_
      exact k0 g4 x3 ft4 q4 bux3 bvx3 hX4 g9 x8 ft9 q9 bux8 bvx8 hX9
    · show vP D T N 295 29 g10 [some (2, 121), some (0, 0), some (0, x3), none] [(0, 0)] _
      refine vP_hv (fun hv10 => ?_)
      refine v_store1 [some (2, 121), some (0, 0), some (0, x3), some (0, 0)] (hi_X12_readCell_29 hT) ⟨rfl, Nat.ne_of_beq_eq_false rfl⟩ (Nat.le_of_ble_eq_true rfl) rfl ?_
      refine v_load (v := (2, 121)) (hi_X12_readCell_30 hT) rfl rfl ?_
      refine v_getR (c := 126) (r := 121) (hi_X12_readCell_31 hT) rfl rfl rfl ?_
      refine v_load (v := (0, 0)) (hi_X12_readCell_34 hT) rfl rfl ?_
      refine v_aldV (v := (0, w)) (r := 126) (hi_X12_readCell_35 hT) rfl rfl (fun _ _ _ => (Eq.trans (ft10 126 0 (by first | decide | exact fun c => by omega)) (Eq.trans (ft4 126 0 (by first | decide | exact fun c => by omega)) hw))) (fun ha13 hb14 => ?_)
      refine v_load (v := (0, 0)) (hi_X12_readCell_36 hT) rfl rfl ?_
      refine v_bin (w := (w * 0)) (hi_X12_readCell_37 hT) (hq_mulB (by omega) (by omega)) ?_
      refine v_load (v := (0, x3)) (hi_X12_readCell_38 hT) rfl rfl ?_
      refine v_bin (w := ((w * 0) + x3)) (hi_X12_readCell_39 hT) (hq_addB (by omega) (by omega) (by omega)) ?_
      refine v_ret (hi_X12_readCell_40 hT) (Or.inl rfl) ?_
      exact k1 g4 x3 ft4 q4 bux3 bvx3 hX4 g10 e10 ft10 q10 c10
  · show vP D T N 295 13 g5 [some (2, 121), some (0, 0), none, none] [(0, 0)] _
    refine vP_hv (fun hv5 => ?_)
    refine v_store1 [some (2, 121), some (0, 0), some (0, 0), none] (hi_X12_readCell_13 hT) ⟨rfl, Nat.ne_of_beq_eq_false rfl⟩ (Nat.le_of_ble_eq_true rfl) rfl ?_
    refine v_load (v := (2, 121)) (hi_X12_readCell_14 hT) rfl rfl ?_
    refine v_push (0) (hi_X12_readCell_15 hT) rfl ?_
    refine v_load (v := (2, 121)) (hi_X12_readCell_16 hT) rfl rfl ?_
    refine v_getR (c := 126) (r := 121) (hi_X12_readCell_17 hT) rfl rfl rfl ?_
    refine v_load (v := (0, 0)) (hi_X12_readCell_20 hT) rfl rfl ?_
    refine v_push (1) (hi_X12_readCell_21 hT) rfl ?_
    refine v_bin (w := 1) (hi_X12_readCell_22 hT) (by decide) ?_
    refine v_aldV (v := (0, R)) (r := 126) (hi_X12_readCell_23 hT) rfl rfl (fun _ _ _ => (Eq.trans (ft5 126 1 (by first | decide | exact fun c => by omega)) hr)) (fun ha15 hb16 => ?_)
    refine v_push (1) (hi_X12_readCell_24 hT) rfl ?_
    refine v_bin (w := (R - 1)) (hi_X12_readCell_25 hT) (hq_sub (by omega) (by omega)) ?_
    refine v_call (w := 4) [some (2, 121), some (0, 0), some (0, (R - 1)), none] hO (hi_X12_readCell_26 hT) rfl rfl (rx_numB hT hO 0 ((R - 1)) c5 ?_)
    · show vP D T N 295 29 g5 [some (2, 121), some (0, 0), some (0, 0), none] [(0, 0)] _
      refine v_store1 [some (2, 121), some (0, 0), some (0, 0), some (0, 0)] (hi_X12_readCell_29 hT) ⟨rfl, Nat.ne_of_beq_eq_false rfl⟩ (Nat.le_of_ble_eq_true rfl) rfl ?_
      refine v_load (v := (2, 121)) (hi_X12_readCell_30 hT) rfl rfl ?_
      refine v_getR (c := 126) (r := 121) (hi_X12_readCell_31 hT) rfl rfl rfl ?_
      refine v_load (v := (0, 0)) (hi_X12_readCell_34 hT) rfl rfl ?_
      refine v_aldV (v := (0, w)) (r := 126) (hi_X12_readCell_35 hT) rfl rfl (fun _ _ _ => (Eq.trans (ft5 126 0 (by first | decide | exact fun c => by omega)) hw)) (fun ha17 hb18 => ?_)
      refine v_load (v := (0, 0)) (hi_X12_readCell_36 hT) rfl rfl ?_
      refine v_bin (w := (w * 0)) (hi_X12_readCell_37 hT) (hq_mulB (by omega) (by omega)) ?_
      refine v_load (v := (0, 0)) (hi_X12_readCell_38 hT) rfl rfl ?_
      refine v_bin (w := ((w * 0) + 0)) (hi_X12_readCell_39 hT) (hq_addB (by omega) (by omega) (by omega)) ?_
      refine v_ret (hi_X12_readCell_40 hT) (Or.inl rfl) ?_
      exact k2 g5 e5 ft5 q5 c5
theorem qr_cellB_0 {D : zD} {T : zT} (hT : hTab T) (hO : vOK T) {N : Nat} {h : zH} {Q : zR → Prop} {e : Er} (w R : Int) (hv0 : zHv h) (hB : rE e h) (hw : h 126 0 = (0, w)) (hr : h 126 1 = (0, R)) (bw : 0 ≤ w ∧ w ≤ 8) (br : 0 ≤ R ∧ R ≤ 6)
    (k0 : Q (h, some (0, ((w * 0) + 0)))) :
    vP D T N 295 0 h [some (2, 121), some (0, 0), none, none] [] Q := by
  refine v_load (v := (2, 121)) (hi_X12_readCell_0 hT) rfl rfl ?_
  refine v_push (0) (hi_X12_readCell_1 hT) rfl ?_
  refine v_load (v := (2, 121)) (hi_X12_readCell_2 hT) rfl rfl ?_
  refine v_getR (c := 126) (r := 121) (hi_X12_readCell_3 hT) rfl rfl rfl ?_
  refine v_load (v := (0, 0)) (hi_X12_readCell_6 hT) rfl rfl ?_
  refine v_aldV (v := (0, w)) (r := 126) (hi_X12_readCell_7 hT) rfl rfl (fun _ _ _ => hw) (fun ha1 hb2 => ?_)
  refine v_push (1) (hi_X12_readCell_8 hT) rfl ?_
  refine v_bin (w := (w - 1)) (hi_X12_readCell_9 hT) (hq_sub (by omega) (by omega)) ?_
  refine v_call (w := 4) [some (2, 121), some (0, 0), some (0, (w - 1)), none] hO (hi_X12_readCell_10 hT) rfl rfl (rx_numB hT hO 0 ((w - 1)) hB ?_)
  · show vP D T N 295 13 h [some (2, 121), some (0, 0), none, none] [(0, 0)] _
    refine v_store1 [some (2, 121), some (0, 0), some (0, 0), none] (hi_X12_readCell_13 hT) ⟨rfl, Nat.ne_of_beq_eq_false rfl⟩ (Nat.le_of_ble_eq_true rfl) rfl ?_
    refine v_load (v := (2, 121)) (hi_X12_readCell_14 hT) rfl rfl ?_
    refine v_push (0) (hi_X12_readCell_15 hT) rfl ?_
    refine v_load (v := (2, 121)) (hi_X12_readCell_16 hT) rfl rfl ?_
    refine v_getR (c := 126) (r := 121) (hi_X12_readCell_17 hT) rfl rfl rfl ?_
    refine v_load (v := (0, 0)) (hi_X12_readCell_20 hT) rfl rfl ?_
    refine v_push (1) (hi_X12_readCell_21 hT) rfl ?_
    refine v_bin (w := 1) (hi_X12_readCell_22 hT) (by decide) ?_
    refine v_aldV (v := (0, R)) (r := 126) (hi_X12_readCell_23 hT) rfl rfl (fun _ _ _ => hr) (fun ha3 hb4 => ?_)
    refine v_push (1) (hi_X12_readCell_24 hT) rfl ?_
    refine v_bin (w := (R - 1)) (hi_X12_readCell_25 hT) (hq_sub (by omega) (by omega)) ?_
    refine v_call (w := 4) [some (2, 121), some (0, 0), some (0, (R - 1)), none] hO (hi_X12_readCell_26 hT) rfl rfl (rx_numB hT hO 0 ((R - 1)) hB ?_)
    · show vP D T N 295 29 h [some (2, 121), some (0, 0), some (0, 0), none] [(0, 0)] _
      refine v_store1 [some (2, 121), some (0, 0), some (0, 0), some (0, 0)] (hi_X12_readCell_29 hT) ⟨rfl, Nat.ne_of_beq_eq_false rfl⟩ (Nat.le_of_ble_eq_true rfl) rfl ?_
      refine v_load (v := (2, 121)) (hi_X12_readCell_30 hT) rfl rfl ?_
      refine v_getR (c := 126) (r := 121) (hi_X12_readCell_31 hT) rfl rfl rfl ?_
      refine v_load (v := (0, 0)) (hi_X12_readCell_34 hT) rfl rfl ?_
      refine v_aldV (v := (0, w)) (r := 126) (hi_X12_readCell_35 hT) rfl rfl (fun _ _ _ => hw) (fun ha5 hb6 => ?_)
      refine v_load (v := (0, 0)) (hi_X12_readCell_36 hT) rfl rfl ?_
      refine v_bin (w := (w * 0)) (hi_X12_readCell_37 hT) (hq_mulB (by omega) (by omega)) ?_
      refine v_load (v := (0, 0)) (hi_X12_readCell_38 hT) rfl rfl ?_
      refine v_bin (w := ((w * 0) + 0)) (hi_X12_readCell_39 hT) (hq_addB (by omega) (by omega) (by omega)) ?_
      refine v_ret (hi_X12_readCell_40 hT) (Or.inl rfl) ?_
      exact k0 
theorem rx_cell_0 {D : zD} {T : zT} {N : Nat} {h : zH} {Q : zR → Prop} {B : Nat → Int} {n m i : Nat} {τ : PT} (hT : hTab T) (hO : vOK T) (w R : Int) (hX : rX B n m τ i h) (hw : h 126 0 = (0, w)) (hr : h 126 1 = (0, R)) (bw : 0 ≤ w ∧ w ≤ 8) (br : 0 ≤ R ∧ R ≤ 6) (k1 : ∀ g x y, qF h g → pCell τ w R i = .inr (x, y, i + 1 + 1) → 0 ≤ x → x ≤ w - 1 → 0 ≤ y → y ≤ R - 1 → 0 ≤ w * y → w * y + x ≤ 47 → rX B n m τ (i + 1 + 1) g → Q (g, some (0, w * y + x))) (k2 : ∀ g e v, qF h g → pCell τ w R i = .inl e → 0 ≤ v → v ≤ 47 → rE e g → Q (g, some (0, v))) : vP D T N 295 0 h [some (2, 121), some (0, 0), none, none] [] Q := by
  refine vP_hv (fun hv => qr_cell_0 hT hO w R hv hX hw hr bw br ?_ ?_ ?_)
  · intro g x f q b1 b2 hX1 g' y f' q' b3 b4 hX2
    have cb := cellb bw br b1 b2 b3 b4
    exact k1 g' x y (f.trans f') (by simp only [pCell, q, q', eb_r]) b1 b2 b3 b4 cb.1 cb.2 hX2
  · intro g x f q b1 b2 hX1 g' e f' q' c'
    refine k2 g' e _ (f.trans f') (by simp only [pCell, q, q', eb_r, eb_l]) ?_ ?_ c' <;> rw [Int.mul_zero] <;> omega
  · intro g e f q c
    refine k2 g e _ f (by simp only [pCell, q, eb_l]) ?_ ?_ c <;> rw [Int.mul_zero] <;> omega
theorem rx_cellB_0 {D : zD} {T : zT} {N : Nat} {h : zH} {Q : zR → Prop} {e : Er} (hT : hTab T) (hO : vOK T) (w R : Int) (hB : rE e h) (hw : h 126 0 = (0, w)) (hr : h 126 1 = (0, R)) (bw : 0 ≤ w ∧ w ≤ 8) (br : 0 ≤ R ∧ R ≤ 6) (k : ∀ v, 0 ≤ v → v ≤ 47 → Q (h, some (0, v))) : vP D T N 295 0 h [some (2, 121), some (0, 0), none, none] [] Q := by
  refine vP_hv (fun hv => qr_cellB_0 hT hO w R hv hB hw hr bw br ?_)
  refine k _ ?_ ?_ <;> rw [Int.mul_zero] <;> omega
/-! the reference reads ORDERS: what it writes -/
def rI7 (w : Int) (g : zH) (s : Nat) (K u v : Int) : Prop := g 126 (2477 + 9 * s) = (0, rKd K.toNat) ∧ ((K ≠ 14 ∧ K ≠ 18 ∧ K ≠ 21) → g 126 (2478 + 9 * s) = (0, u)) ∧ ((K = 8 ∨ K = 10 ∨ K = 16) → g 126 (2479 + 9 * s) = (0, w * (v / 8) + v % 8)) ∧ ((K = 11 ∨ K = 12 ∨ K = 18) → g 126 (2479 + 9 * s) = (0, v)) ∧ ((16 ≤ K ∧ K ≤ 18) → g 126 (2483 + 9 * s) = (0, K - 16)) ∧ (K = 18 → g 126 (2484 + 9 * s) = (0, u))
theorem ro7_8 {D : zD} {T : zT} (hT : hTab T) (hO : vOK T) {N : Nat} {h : zH} {Q : zR → Prop} {B : Nat → Int} {n m i s d : Nat} {τ P : PT} (hv0 : zHv h) (hX : rX B n m τ i h) (e0 : h 126 0 = (0, P 0 0)) (e1 : h 126 1 = (0, P 0 1)) (e2 : h 126 2 = (0, P 0 2)) (e3 : h 126 3 = (0, P 0 3)) (hN : rNm P h) (hb : (0 ≤ P 0 0 ∧ P 0 0 ≤ 8) ∧ (0 ≤ P 0 1 ∧ P 0 1 ≤ 6) ∧ (0 ≤ P 0 2 ∧ P 0 2 ≤ 3) ∧ (0 ≤ P 0 3 ∧ P 0 3 ≤ 6)) (hs : h 121 25 = (0, (s : Int))) (bs : s ≤ 30) (bd : d ≤ 3) (h1 : τ 0 i = 1) (h3 : τ 3 i = 8) (ih : ∀ g s' d' i' a K u v j, pStep τ P s d i = .inr (s', d', i') → rX B n m τ i' g → g 121 25 = (0, a) → a = (s' : Int) → s' ≤ 30 → roF h g → pItV τ P i = .inr (K, u, v, j) → (∀ e, ¬ (2477 + 9 * s ≤ e ∧ e < 2486 + 9 * s) → g 126 e = h 126 e) → rI7 (P 0 0) g s K u v → g 126 (2485 + 9 * s) = (0, (s : Int) + 1) → Q (g, none)) (er : ∀ g e, pStep τ P s d i = .inl e → rE e g → roF h g → Q (g, none)) :
    vP D T (N + 1) 304 0 h [some (2, 121), some (0, (d : Int)), none, none, none] [] Q := by
  have h0 : τ 0 i ≠ 0 := by omega
  have hE : (bW τ 20 i) = 0 := bW_0.mpr (fun c => absurd (h3.symm.trans c.2) (by decide))
  have hsw : ¬ swd τ i < 0 := by rw [swd_v h1, h3]; decide
  have hop : opW (τ 3 i) = false := by rw [h3]; rfl
  have h15 : ¬ τ 3 i = 15 := by rw [h3]; decide
  have harg : ∀ j, oArg τ P (τ 3 i) j = (eb (pNum τ 0 (P 0 2 - 1) j) fun a => eb (pWord τ 6 a.2) fun j => eb (pCell τ (P 0 0) (P 0 1) j) fun c => .inr c.2.2) := fun j => by rw [h3]; rfl
  have hargV : ∀ j, oArV τ P 8 j = (eb (pNum τ 0 (P 0 2 - 1) j) fun a => eb (pWord τ 6 a.2) fun j => eb (pCell τ (P 0 0) (P 0 1) j) fun c => .inr (a.1, c.2.1 * 8 + c.1, c.2.2)) := fun _ => rfl
  refine v_loadS (v := (2, 121)) (hi_X12_readStep_0 hT) rfl rfl ?_
  refine v_call (w := 1) [some (2, 121)] hO (hi_X12_readStep_1 hT) rfl rfl (rx_stepK hT hO 0 hX h1 h3 (by decide) ?_)
  · show vP D T N 304 4 h [some (2, 121), some (0, (d : Int)), none, none, none] [(0, 0)] _
    refine v_store1 [some (2, 121), some (0, (d : Int)), some (0, 0), none, none] (hi_X12_readStep_4 hT) ⟨rfl, Nat.ne_of_beq_eq_false rfl⟩ (Nat.le_of_ble_eq_true rfl) rfl ?_
    refine v_load (v := (0, 0)) (hi_X12_readStep_5 hT) rfl rfl ?_
    refine v_push (7) (hi_X12_readStep_6 hT) rfl ?_
    refine v_ic (hi_X12_readStep_8 hT) (fun hc1 => absurd (show (0 : Int) = 7 from hc1) (by decide)) (fun _ => ?_)
    refine v_load (v := (0, 0)) (hi_X12_readStep_11 hT) rfl rfl ?_
    refine v_push (8) (hi_X12_readStep_12 hT) rfl ?_
    refine v_ic (hi_X12_readStep_14 hT) (fun hc2 => absurd (show (0 : Int) = 8 from hc2) (by decide)) (fun _ => ?_)
    refine v_push (0) (hi_X12_readStep_21 hT) rfl ?_
    refine v_store1 [some (2, 121), some (0, (d : Int)), some (0, 0), some (0, 0), none] (hi_X12_readStep_22 hT) ⟨rfl, Nat.ne_of_beq_eq_false rfl⟩ (Nat.le_of_ble_eq_true rfl) rfl ?_
    refine v_load (v := (0, 0)) (hi_X12_readStep_23 hT) rfl rfl ?_
    refine v_if (hi_X12_readStep_24 hT) (fun hc3 => absurd (show (0 : Int) < 0 from hc3) (by decide)) (fun _ => ?_)
    refine v_load (v := (2, 121)) (hi_X12_readStep_31 hT) rfl rfl ?_
    refine v_getf (v := (0, 0)) (r := 121) (hi_X12_readStep_32 hT) rfl rfl (fun _ => hX.b) ?_
    refine v_if (hi_X12_readStep_35 hT) (fun _ => ?_) (fun hc4 => absurd (show (0 : Int) = 0 from (by decide)) hc4)
    refine v_load (v := (2, 121)) (hi_X12_readStep_38 hT) rfl rfl ?_
    refine v_getf (v := (0, (s : Int))) (r := 121) (hi_X12_readStep_39 hT) rfl rfl (fun _ => hs) ?_
    refine v_push (30) (hi_X12_readStep_42 hT) rfl ?_
    refine v_ic (hi_X12_readStep_44 hT) (fun hc5 => ?_) (fun hc5 => ?_)
    · have hc5 : (s : Int) = 30 := hc5
      refine v_load (v := (2, 121)) (hi_X12_readStep_47 hT) rfl rfl ?_
      refine v_push (6) (hi_X12_readStep_48 hT) rfl ?_
      refine v_load (v := (2, 121)) (hi_X12_readStep_50 hT) rfl rfl ?_
      refine v_getf (v := (0, (τ 1 i))) (r := 121) (hi_X12_readStep_51 hT) rfl rfl (fun _ => hX.ps) ?_
      refine v_call (w := 3) [some (2, 121), some (0, 6), some (0, (τ 1 i))] hO (hi_X12_readStep_54 hT) rfl rfl (rx_fail hT hO 6 hX h1 (by decide) (fun g6 ft6 c6 => ?_))
      · show vP D T N 304 57 g6 [some (2, 121), some (0, (d : Int)), some (0, 0), some (0, 0), none] [] _
        refine vP_hv (fun hv6 => ?_)
        refine v_load (v := (2, 121)) (hi_X12_readStep_57 hT) rfl rfl ?_
        refine v_getf (v := (0, (eF τ i 6).1)) (r := 121) (hi_X12_readStep_58 hT) rfl rfl (fun _ => c6.1) ?_
        refine v_if (hi_X12_readStep_61 hT) (fun hc7 => absurd (show (eF τ i 6).1 = 0 from hc7) (by have := c6.2.1; omega)) (fun _ => ?_)
        refine v_load (v := (2, 121)) (hi_X12_readStep_83 hT) rfl rfl ?_
        refine v_getf (v := (0, (eF τ i 6).1)) (r := 121) (hi_X12_readStep_84 hT) rfl rfl (fun _ => c6.1) ?_
        refine v_if (hi_X12_readStep_87 hT) (fun _ => ?_) (fun hc8 => absurd (show 0 < (eF τ i 6).1 from c6.2.1) hc8)
        refine v_ret0 (hi_X12_readStep_90 hT) ?_
        exact er _ _ (by simp only [pStep, hE, hsw, hop, h15, opW15, harg, pNm, pWord, pSg, Bool.false_eq_true, (show 30 ≤ s from by omega), ne_eq, not_true_eq_false, not_false_eq_true, if_true, if_false, eq_self, eb_l, eb_r, and_true, true_and, and_false, false_and]) c6 (roF.t roF.rfl ft6)
    · have hc5 : (s : Int) ≠ 30 := hc5
      refine v_load (v := (2, 121)) (hi_X12_readStep_57 hT) rfl rfl ?_
      refine v_getf (v := (0, 0)) (r := 121) (hi_X12_readStep_58 hT) rfl rfl (fun _ => hX.b) ?_
      refine v_if (hi_X12_readStep_61 hT) (fun _ => ?_) (fun hc9 => absurd (show (0 : Int) = 0 from (by decide)) hc9)
      refine v_load (v := (0, 0)) (hi_X12_readStep_64 hT) rfl rfl ?_
      refine v_if (hi_X12_readStep_65 hT) (fun _ => ?_) (fun hc10 => absurd (show (0 : Int) = 0 from (by decide)) hc10)
      refine v_load (v := (2, 121)) (hi_X12_readStep_83 hT) rfl rfl ?_
      refine v_getf (v := (0, 0)) (r := 121) (hi_X12_readStep_84 hT) rfl rfl (fun _ => hX.b) ?_
      refine v_if (hi_X12_readStep_87 hT) (fun hc11 => absurd (show 0 < (0 : Int) from hc11) (by decide)) (fun _ => ?_)
      refine v_push (2477) (hi_X12_readStep_91 hT) rfl ?_
      refine v_push (9) (hi_X12_readStep_94 hT) rfl ?_
      refine v_load (v := (2, 121)) (hi_X12_readStep_96 hT) rfl rfl ?_
      refine v_getf (v := (0, (s : Int))) (r := 121) (hi_X12_readStep_97 hT) rfl rfl (fun _ => hs) ?_
      refine v_bin (w := (9 * (s : Int))) (hi_X12_readStep_100 hT) (hq_mul (by omega) (by omega)) ?_
      refine v_bin (w := (2477 + (9 * (s : Int)))) (hi_X12_readStep_101 hT) (hq_add (by omega) (by omega)) ?_
      refine v_store1 [some (2, 121), some (0, (d : Int)), some (0, 0), some (0, 0), some (0, (2477 + (9 * (s : Int))))] (hi_X12_readStep_102 hT) ⟨rfl, Nat.ne_of_beq_eq_false rfl⟩ (Nat.le_of_ble_eq_true rfl) rfl ?_
      refine v_load (v := (2, 121)) (hi_X12_readStep_104 hT) rfl rfl ?_
      refine v_dup (hi_X12_readStep_105 hT) (Nat.ne_of_beq_eq_false rfl) ?_
      refine v_getf (v := (0, (s : Int))) (r := 121) (hi_X12_readStep_106 hT) rfl rfl (fun _ => hs) ?_
      refine v_push (1) (hi_X12_readStep_109 hT) rfl ?_
      refine v_bin (w := ((s : Int) + 1)) (hi_X12_readStep_110 hT) (hq_add (by omega) (by omega)) ?_
      refine v_putf (r := 121) hO (hi_X12_readStep_111 hT) rfl (fun hf12 => ?_)
      refine v_load (v := (2, 121)) (hi_X12_readStep_114 hT) rfl rfl ?_
      refine v_call (w := 2) [some (2, 121), none] hO (hi_X12_readStep_115 hT) rfl rfl (rx_next hT hO (rX.zf (k := 25) (v := (0, ((s : Int) + 1))) (by decide) hX) (ne_10 h1) (ne_14 h1) (fun g13 ft13 hX13 => ?_))
      · show vP D T N 304 118 g13 [some (2, 121), some (0, (d : Int)), some (0, 0), some (0, 0), some (0, (2477 + (9 * (s : Int))))] [] _
        refine vP_hv (fun hv13 => ?_)
        refine v_load (v := (2, 121)) (hi_X12_readStep_118 hT) rfl rfl ?_
        refine v_getR (c := 126) (r := 121) (hi_X12_readStep_119 hT) rfl rfl rfl ?_
        refine v_load (v := (0, (2477 + (9 * (s : Int))))) (hi_X12_readStep_122 hT) rfl rfl ?_
        refine v_load (v := (0, 0)) (hi_X12_readStep_124 hT) rfl rfl ?_
        refine v_ast (r := 126) (hi_X12_readStep_125 hT) rfl rfl (fun ha14 hb15 hf16 => ?_)
        refine v_load (v := (2, 121)) (hi_X12_readStep_126 hT) rfl rfl ?_
        refine v_load (v := (0, (2477 + (9 * (s : Int))))) (hi_X12_readStep_127 hT) rfl rfl ?_
        refine v_call (w := 3) [some (2, 121), some (0, (2477 + (9 * (s : Int)))), none] hO (hi_X12_readStep_129 hT) rfl rfl ?_
        refine v_load (v := (2, 121)) (hi_X12_readRest_0 hT) rfl rfl ?_
        refine v_getR (c := 126) (r := 121) (hi_X12_readRest_1 hT) rfl rfl rfl ?_
        refine v_load (v := (0, (2477 + (9 * (s : Int))))) (hi_X12_readRest_4 hT) rfl rfl ?_
        refine v_aldV (v := (0, 0)) (r := 126) (hi_X12_readRest_5 hT) rfl rfl (fun _ _ _ => zset_same) (fun ha17 hb18 => ?_)
        refine v_store1 [some (2, 121), some (0, (2477 + (9 * (s : Int)))), some (0, 0)] (hi_X12_readRest_6 hT) ⟨rfl, Nat.ne_of_beq_eq_false rfl⟩ (Nat.le_of_ble_eq_true rfl) rfl ?_
        refine v_load (v := (0, 0)) (hi_X12_readRest_7 hT) rfl rfl ?_
        refine v_if (hi_X12_readRest_8 hT) (fun _ => ?_) (fun hc19 => absurd (show (0 : Int) = 0 from (by decide)) hc19)
        refine v_load (v := (2, 121)) (hz_X12_readRest hT _ _ rfl) rfl rfl ?_
        refine v_getR (c := 126) (r := 121) (hz_X12_readRest hT _ _ rfl) rfl rfl rfl ?_
        refine v_load (v := (0, (2477 + (9 * (s : Int))))) (hz_X12_readRest hT _ _ rfl) rfl rfl ?_
        refine v_push (1) (hz_X12_readRest hT _ _ rfl) rfl ?_
        refine v_bin (w := ((2477 + (9 * (s : Int))) + 1)) (hz_X12_readRest hT _ _ rfl) (hq_add (by omega) (by omega)) ?_
        refine v_load (v := (2, 121)) (hz_X12_readRest hT _ _ rfl) rfl rfl ?_
        refine v_call (w := 1) [some (2, 121)] hO (hz_X12_readRest hT _ _ rfl) rfl rfl ?_
        refine v_load (v := (2, 121)) (hi_X12_readCopy_0 hT) rfl rfl ?_
        refine v_push (0) (hi_X12_readCopy_1 hT) rfl ?_
        refine v_load (v := (2, 121)) (hi_X12_readCopy_2 hT) rfl rfl ?_
        refine v_getR (c := 126) (r := 121) (hi_X12_readCopy_3 hT) rfl rfl rfl ?_
        refine v_push (2) (hi_X12_readCopy_6 hT) rfl ?_
        refine v_aldV (v := (0, (P 0 2))) (r := 126) (hi_X12_readCopy_7 hT) rfl rfl (fun _ _ _ => (Eq.trans (zset_ne (fun c => by omega)) ((Eq.trans (ft13 126 2 (by first | decide | exact fun c => by omega)) (Eq.trans (zset_ne (fun c => absurd c.1 (by decide))) (e2)))))) (fun ha20 hb21 => ?_)
        refine v_push (1) (hi_X12_readCopy_8 hT) rfl ?_
        refine v_bin (w := ((P 0 2) - 1)) (hi_X12_readCopy_9 hT) (hq_sub (by omega) (by omega)) ?_
        refine v_call (w := 4) [some (2, 121), some (0, 0), some (0, ((P 0 2) - 1)), none] hO (hi_X12_readCopy_10 hT) rfl rfl (rx_num hT hO 0 (((P 0 2) - 1)) (rX.z (r := 126) (k := (((2477 + (9 * (s : Int)))).toNat)) (v := (0, 0)) (by decide) hX13) (fun g23 x22 ft23 q23 bux22 bvx22 hX23 => ?_) (fun g24 e24 ft24 q24 c24 => ?_))
        · show vP D T N 299 13 g23 [some (2, 121)] [(0, x22)] _
          refine vP_hv (fun hv23 => ?_)
          refine v_ret (hi_X12_readCopy_13 hT) (Or.inl rfl) ?_
          show vP D T N 301 27 g23 [some (2, 121), some (0, (2477 + (9 * (s : Int)))), some (0, 0)] [(0, x22), (0, ((2477 + (9 * (s : Int))) + 1)), (2, 126)] _
          refine v_ast (r := 126) (hi_X12_readRest_27 hT) rfl rfl (fun ha25 hb26 hf27 => ?_)
          refine v_load (v := (2, 121)) (hi_X12_readRest_28 hT) rfl rfl ?_
          refine v_load (v := (2, 121)) (hi_X12_readRest_29 hT) rfl rfl ?_
          refine v_call (w := 1) [some (2, 121)] hO (hi_X12_readRest_30 hT) rfl rfl (rx_isAtWord hT hO (rX.z (r := 126) (k := ((((2477 + (9 * (s : Int))) + 1)).toNat)) (v := (0, x22)) (by decide) hX23) ?_)
          · show vP D T N 301 33 (zset g23 126 ((((2477 + (9 * (s : Int))) + 1)).toNat) (0, x22)) [some (2, 121), some (0, (2477 + (9 * (s : Int)))), some (0, 0)] [(0, (bW τ 6 (i + 1 + 1))), (2, 121)] _
            refine v_call (w := 2) [some (2, 121), some (0, (bW τ 6 (i + 1 + 1)))] hO (hi_X12_readRest_33 hT) rfl rfl (rx_must hT hO ((bW τ 6 (i + 1 + 1))) (rX.z (r := 126) (k := ((((2477 + (9 * (s : Int))) + 1)).toNat)) (v := (0, x22)) (by decide) hX23) (fun c => ⟨ne_10 (bW_y.mp c).1, ne_14 (bW_y.mp c).1⟩) (fun g29 ft29 hc28 hX29 => ?_) (fun g30 ft30 hc30 c30 => ?_))
            · show vP D T N 301 36 g29 [some (2, 121), some (0, (2477 + (9 * (s : Int)))), some (0, 0)] [] _
              refine vP_hv (fun hv29 => ?_)
              refine v_load (v := (2, 121)) (hi_X12_readRest_36 hT) rfl rfl ?_
              refine v_getR (c := 126) (r := 121) (hi_X12_readRest_37 hT) rfl rfl rfl ?_
              refine v_load (v := (0, (2477 + (9 * (s : Int))))) (hi_X12_readRest_40 hT) rfl rfl ?_
              refine v_push (2) (hi_X12_readRest_41 hT) rfl ?_
              refine v_bin (w := ((2477 + (9 * (s : Int))) + 2)) (hi_X12_readRest_42 hT) (hq_add (by omega) (by omega)) ?_
              refine v_load (v := (2, 121)) (hi_X12_readRest_43 hT) rfl rfl ?_
              refine v_push (0) (hi_X12_readRest_44 hT) rfl ?_
              refine v_call (w := 4) [some (2, 121), some (0, 0), none, none] hO (hi_X12_readRest_45 hT) rfl rfl (rx_cell_0 hT hO ((P 0 0)) ((P 0 1)) hX29 (Eq.trans (ft29 126 0 (by first | decide | exact fun c => by omega)) (Eq.trans (zset_ne (fun c => by omega)) ((Eq.trans (ft23 126 0 (by first | decide | exact fun c => by omega)) (Eq.trans (zset_ne (fun c => by omega)) ((Eq.trans (ft13 126 0 (by first | decide | exact fun c => by omega)) (Eq.trans (zset_ne (fun c => absurd c.1 (by decide))) (e0))))))))) (Eq.trans (ft29 126 1 (by first | decide | exact fun c => by omega)) (Eq.trans (zset_ne (fun c => by omega)) ((Eq.trans (ft23 126 1 (by first | decide | exact fun c => by omega)) (Eq.trans (zset_ne (fun c => by omega)) ((Eq.trans (ft13 126 1 (by first | decide | exact fun c => by omega)) (Eq.trans (zset_ne (fun c => absurd c.1 (by decide))) (e1))))))))) (by omega) (by omega) (fun g32 x31 y31 ft32 q32 bax31 bbx31 bcx31 bdx31 bex31 bfx31 hX32 => ?_) (fun g33 e33 v31 ft33 q33 bva31 bvb31 c33 => ?_))
              · show vP D T N 301 48 g32 [some (2, 121), some (0, (2477 + (9 * (s : Int)))), some (0, 0)] [(0, (P 0 0 * y31 + x31)), (0, ((2477 + (9 * (s : Int))) + 2)), (2, 126)] _
                refine vP_hv (fun hv32 => ?_)
                refine v_ast (r := 126) (hi_X12_readRest_48 hT) rfl rfl (fun ha34 hb35 hf36 => ?_)
                refine v_goto (hi_X12_readRest_49 hT) ?_
                refine v_ret0 (hi_X12_readRest_210 hT) ?_
                show vP D T N 304 132 (zset g32 126 ((((2477 + (9 * (s : Int))) + 2)).toNat) (0, (P 0 0 * y31 + x31))) [some (2, 121), some (0, (d : Int)), some (0, 0), some (0, 0), some (0, (2477 + (9 * (s : Int))))] [] _
                refine v_load (v := (2, 121)) (hi_X12_readStep_132 hT) rfl rfl ?_
                refine v_load (v := (2, 121)) (hi_X12_readStep_133 hT) rfl rfl ?_
                refine v_push (59) (hi_X12_readStep_134 hT) rfl ?_
                refine v_call (w := 2) [some (2, 121), some (0, 59)] hO (hi_X12_readStep_136 hT) rfl rfl (rx_isSign hT hO 59 (rX.z (r := 126) (k := ((((2477 + (9 * (s : Int))) + 2)).toNat)) (v := (0, (P 0 0 * y31 + x31))) (by decide) hX32) ?_)
                · show vP D T N 304 139 (zset g32 126 ((((2477 + (9 * (s : Int))) + 2)).toNat) (0, (P 0 0 * y31 + x31))) [some (2, 121), some (0, (d : Int)), some (0, 0), some (0, 0), some (0, (2477 + (9 * (s : Int))))] [(0, (bG τ 59 (i + 1 + 1 + 1 + 1 + 1))), (2, 121)] _
                  refine v_call (w := 2) [some (2, 121), some (0, (bG τ 59 (i + 1 + 1 + 1 + 1 + 1)))] hO (hi_X12_readStep_139 hT) rfl rfl (rx_must hT hO ((bG τ 59 (i + 1 + 1 + 1 + 1 + 1))) (rX.z (r := 126) (k := ((((2477 + (9 * (s : Int))) + 2)).toNat)) (v := (0, (P 0 0 * y31 + x31))) (by decide) hX32) (fun c => ⟨by have := (bG_y.mp c).1; omega, by have := (bG_y.mp c).1; omega⟩) (fun g38 ft38 hc37 hX38 => ?_) (fun g39 ft39 hc39 c39 => ?_))
                  · show vP D T N 304 142 g38 [some (2, 121), some (0, (d : Int)), some (0, 0), some (0, 0), some (0, (2477 + (9 * (s : Int))))] [] _
                    refine vP_hv (fun hv38 => ?_)
                    refine v_load (v := (0, 0)) (hi_X12_readStep_142 hT) rfl rfl ?_
                    refine v_if (hi_X12_readStep_143 hT) (fun _ => ?_) (fun hc40 => absurd (show (0 : Int) = 0 from (by decide)) hc40)
                    refine v_load (v := (0, 0)) (hi_X12_readStep_170 hT) rfl rfl ?_
                    refine v_if (hi_X12_readStep_171 hT) (fun _ => ?_) (fun hc41 => absurd (show (0 : Int) = 0 from (by decide)) hc41)
                    refine v_load (v := (2, 121)) (hi_X12_readStep_192 hT) rfl rfl ?_
                    refine v_getR (c := 126) (r := 121) (hi_X12_readStep_193 hT) rfl rfl rfl ?_
                    refine v_load (v := (0, (2477 + (9 * (s : Int))))) (hi_X12_readStep_196 hT) rfl rfl ?_
                    refine v_push (8) (hi_X12_readStep_198 hT) rfl ?_
                    refine v_bin (w := ((2477 + (9 * (s : Int))) + 8)) (hi_X12_readStep_200 hT) (hq_add (by omega) (by omega)) ?_
                    refine v_load (v := (2, 121)) (hi_X12_readStep_201 hT) rfl rfl ?_
                    refine v_getf (v := (0, ((s : Int) + 1))) (r := 121) (hi_X12_readStep_202 hT) rfl rfl (fun _ => (Eq.trans (ft38 121 25 (by first | decide | exact fun c => by omega)) (Eq.trans (zset_ne (fun c => absurd c.1 (by decide))) ((Eq.trans (ft32 121 25 (by first | decide | exact fun c => by omega)) (Eq.trans (ft29 121 25 (by first | decide | exact fun c => by omega)) (Eq.trans (zset_ne (fun c => absurd c.1 (by decide))) ((Eq.trans (ft23 121 25 (by first | decide | exact fun c => by omega)) (Eq.trans (zset_ne (fun c => absurd c.1 (by decide))) ((Eq.trans (ft13 121 25 (by first | decide | exact fun c => by omega)) (zset_same))))))))))))) ?_
                    refine v_ast (r := 126) (hi_X12_readStep_205 hT) rfl rfl (fun ha42 hb43 hf44 => ?_)
                    refine v_ret0 (hi_X12_readStep_206 hT) ?_
                    have kp_ : ∀ e, (zset g38 126 ((((2477 + (9 * (s : Int))) + 8)).toNat) (0, ((s : Int) + 1))) 126 e = (zset (zset (zset (zset h 126 (((2477 + (9 * (s : Int)))).toNat) (0, 0)) 126 ((((2477 + (9 * (s : Int))) + 1)).toNat) (0, x22)) 126 ((((2477 + (9 * (s : Int))) + 2)).toNat) (0, (P 0 0 * y31 + x31))) 126 ((((2477 + (9 * (s : Int))) + 8)).toNat) (0, ((s : Int) + 1))) 126 e := (kr_z (k := ((((2477 + (9 * (s : Int))) + 8)).toNat)) (v := (0, ((s : Int) + 1))) (kr_f (fun e => ft38 126 e (fun c => by omega)) (kr_z (k := ((((2477 + (9 * (s : Int))) + 2)).toNat)) (v := (0, (P 0 0 * y31 + x31))) (kr_f (fun e => ft32 126 e (fun c => by omega)) (kr_f (fun e => ft29 126 e (fun c => by omega)) (kr_z (k := ((((2477 + (9 * (s : Int))) + 1)).toNat)) (v := (0, x22)) (kr_f (fun e => ft23 126 e (fun c => by omega)) (kr_z (k := (((2477 + (9 * (s : Int)))).toNat)) (v := (0, 0)) (kr_f (fun e => ft13 126 e (fun c => by omega)) (kr_n (a := 121) (k := 25) (v := (0, ((s : Int) + 1))) (by decide) (fun _ => Eq.refl _)))))))))))
                    exact ih _ (s + 1) (d) (i + 1 + 1 + 1 + 1 + 1 + 1) _ 8 x22 (y31 * 8 + x31) (i + 1 + 1 + 1 + 1 + 1) (by simp only [pStep, hE, hsw, hop, h15, opW15, harg, pNm, pWord, pSg, Bool.false_eq_true, (show ¬ 30 ≤ s from by omega), q23, hc28, q32, hc37, ne_eq, not_true_eq_false, not_false_eq_true, if_true, if_false, eq_self, eb_l, eb_r, and_true, true_and, and_false, false_and]) (rX.z (r := 126) (k := ((((2477 + (9 * (s : Int))) + 8)).toNat)) (v := (0, ((s : Int) + 1))) (by decide) hX38) (Eq.trans (zset_ne (fun c => absurd c.1 (by decide))) ((Eq.trans (ft38 121 25 (by first | decide | exact fun c => by omega)) (Eq.trans (zset_ne (fun c => absurd c.1 (by decide))) ((Eq.trans (ft32 121 25 (by first | decide | exact fun c => by omega)) (Eq.trans (ft29 121 25 (by first | decide | exact fun c => by omega)) (Eq.trans (zset_ne (fun c => absurd c.1 (by decide))) ((Eq.trans (ft23 121 25 (by first | decide | exact fun c => by omega)) (Eq.trans (zset_ne (fun c => absurd c.1 (by decide))) ((Eq.trans (ft13 121 25 (by first | decide | exact fun c => by omega)) (zset_same)))))))))))))) (by omega) (by omega) (roF.z (a := 126) (b := ((((2477 + (9 * (s : Int))) + 8)).toNat)) (v := (0, ((s : Int) + 1))) (by omega) (roF.t (roF.z (a := 126) (b := ((((2477 + (9 * (s : Int))) + 2)).toNat)) (v := (0, (P 0 0 * y31 + x31))) (by omega) (roF.t (roF.t (roF.z (a := 126) (b := ((((2477 + (9 * (s : Int))) + 1)).toNat)) (v := (0, x22)) (by omega) (roF.t (roF.z (a := 126) (b := (((2477 + (9 * (s : Int)))).toNat)) (v := (0, 0)) (by omega) (roF.t (roF.z (a := 121) (b := 25) (v := (0, ((s : Int) + 1))) (by omega) roF.rfl) ft13)) ft23)) ft29) ft32)) ft38)) (pItV_a h3 (by decide) (by simp only [hargV, pWord, (show ¬ 30 ≤ s from by omega), q23, hc28, q32, hc37, ne_eq, not_true_eq_false, not_false_eq_true, if_true, if_false, eq_self, eb_l, eb_r, and_true, true_and, and_false, false_and])) (fun e_ hn_ => (kp_ e_).trans ((zset_ne (fun c => hn_ (by omega))).trans ((zset_ne (fun c => hn_ (by omega))).trans ((zset_ne (fun c => hn_ (by omega))).trans (zset_ne (fun c => hn_ (by omega))))))) ⟨((kp_ _).trans ((zset_ne (fun c => by omega)).trans ((zset_ne (fun c => by omega)).trans ((zset_ne (fun c => by omega)).trans (zset_e (by omega)))))), (fun _ => ((kp_ _).trans ((zset_ne (fun c => by omega)).trans ((zset_ne (fun c => by omega)).trans (zset_e (by omega)))))), (fun _ => (((kp_ _).trans ((zset_ne (fun c => by omega)).trans (zset_e (by omega))))).trans (congrArg (Prod.mk 0) (cell_wv (w := P 0 0) (x := x31) (y := y31) (by omega) (by omega)).symm)), (fun c => absurd c (by decide)), (fun c => absurd c (by decide)), (fun c => absurd c (by decide))⟩ ((kp_ _).trans (zset_e (by omega)))
                  · show vP D T N 304 142 g39 [some (2, 121), some (0, (d : Int)), some (0, 0), some (0, 0), some (0, (2477 + (9 * (s : Int))))] [] _
                    refine vP_hv (fun hv39 => ?_)
                    refine v_load (v := (0, 0)) (hi_X12_readStep_142 hT) rfl rfl ?_
                    refine v_if (hi_X12_readStep_143 hT) (fun _ => ?_) (fun hc45 => absurd (show (0 : Int) = 0 from (by decide)) hc45)
                    refine v_load (v := (0, 0)) (hi_X12_readStep_170 hT) rfl rfl ?_
                    refine v_if (hi_X12_readStep_171 hT) (fun _ => ?_) (fun hc46 => absurd (show (0 : Int) = 0 from (by decide)) hc46)
                    refine v_load (v := (2, 121)) (hi_X12_readStep_192 hT) rfl rfl ?_
                    refine v_getR (c := 126) (r := 121) (hi_X12_readStep_193 hT) rfl rfl rfl ?_
                    refine v_load (v := (0, (2477 + (9 * (s : Int))))) (hi_X12_readStep_196 hT) rfl rfl ?_
                    refine v_push (8) (hi_X12_readStep_198 hT) rfl ?_
                    refine v_bin (w := ((2477 + (9 * (s : Int))) + 8)) (hi_X12_readStep_200 hT) (hq_add (by omega) (by omega)) ?_
                    refine v_load (v := (2, 121)) (hi_X12_readStep_201 hT) rfl rfl ?_
                    refine v_getf (v := (0, ((s : Int) + 1))) (r := 121) (hi_X12_readStep_202 hT) rfl rfl (fun _ => (Eq.trans (ft39 121 25 (by first | decide | exact fun c => by omega)) (Eq.trans (zset_ne (fun c => absurd c.1 (by decide))) ((Eq.trans (ft32 121 25 (by first | decide | exact fun c => by omega)) (Eq.trans (ft29 121 25 (by first | decide | exact fun c => by omega)) (Eq.trans (zset_ne (fun c => absurd c.1 (by decide))) ((Eq.trans (ft23 121 25 (by first | decide | exact fun c => by omega)) (Eq.trans (zset_ne (fun c => absurd c.1 (by decide))) ((Eq.trans (ft13 121 25 (by first | decide | exact fun c => by omega)) (zset_same))))))))))))) ?_
                    refine v_ast (r := 126) (hi_X12_readStep_205 hT) rfl rfl (fun ha47 hb48 hf49 => ?_)
                    refine v_ret0 (hi_X12_readStep_206 hT) ?_
                    exact er _ _ (by simp only [pStep, hE, hsw, hop, h15, opW15, harg, pNm, pWord, pSg, Bool.false_eq_true, (show ¬ 30 ≤ s from by omega), q23, hc28, q32, hc39, ne_eq, not_true_eq_false, not_false_eq_true, if_true, if_false, eq_self, eb_l, eb_r, and_true, true_and, and_false, false_and]) (rE.z (r := 126) (k := ((((2477 + (9 * (s : Int))) + 8)).toNat)) (v := (0, ((s : Int) + 1))) (by decide) c39) (roF.z (a := 126) (b := ((((2477 + (9 * (s : Int))) + 8)).toNat)) (v := (0, ((s : Int) + 1))) (by omega) (roF.t (roF.z (a := 126) (b := ((((2477 + (9 * (s : Int))) + 2)).toNat)) (v := (0, (P 0 0 * y31 + x31))) (by omega) (roF.t (roF.t (roF.z (a := 126) (b := ((((2477 + (9 * (s : Int))) + 1)).toNat)) (v := (0, x22)) (by omega) (roF.t (roF.z (a := 126) (b := (((2477 + (9 * (s : Int)))).toNat)) (v := (0, 0)) (by omega) (roF.t (roF.z (a := 121) (b := 25) (v := (0, ((s : Int) + 1))) (by omega) roF.rfl) ft13)) ft23)) ft29) ft32)) ft39))
              · show vP D T N 301 48 g33 [some (2, 121), some (0, (2477 + (9 * (s : Int)))), some (0, 0)] [(0, v31), (0, ((2477 + (9 * (s : Int))) + 2)), (2, 126)] _
                refine vP_hv (fun hv33 => ?_)
                refine v_ast (r := 126) (hi_X12_readRest_48 hT) rfl rfl (fun ha50 hb51 hf52 => ?_)
                refine v_goto (hi_X12_readRest_49 hT) ?_
                refine v_ret0 (hi_X12_readRest_210 hT) ?_
                show vP D T N 304 132 (zset g33 126 ((((2477 + (9 * (s : Int))) + 2)).toNat) (0, v31)) [some (2, 121), some (0, (d : Int)), some (0, 0), some (0, 0), some (0, (2477 + (9 * (s : Int))))] [] _
                refine v_load (v := (2, 121)) (hi_X12_readStep_132 hT) rfl rfl ?_
                refine v_load (v := (2, 121)) (hi_X12_readStep_133 hT) rfl rfl ?_
                refine v_push (59) (hi_X12_readStep_134 hT) rfl ?_
                refine v_call (w := 2) [some (2, 121), some (0, 59)] hO (hi_X12_readStep_136 hT) rfl rfl (rb_any_isSign hT hO (fun v53 => ?_))
                · show vP D T N 304 139 (zset g33 126 ((((2477 + (9 * (s : Int))) + 2)).toNat) (0, v31)) [some (2, 121), some (0, (d : Int)), some (0, 0), some (0, 0), some (0, (2477 + (9 * (s : Int))))] [(0, v53), (2, 121)] _
                  refine v_call (w := 2) [some (2, 121), some (0, v53)] hO (hi_X12_readStep_139 hT) rfl rfl (rx_mustB hT hO v53 (rE.z (r := 126) (k := ((((2477 + (9 * (s : Int))) + 2)).toNat)) (v := (0, v31)) (by decide) c33) ?_)
                  · show vP D T N 304 142 (zset g33 126 ((((2477 + (9 * (s : Int))) + 2)).toNat) (0, v31)) [some (2, 121), some (0, (d : Int)), some (0, 0), some (0, 0), some (0, (2477 + (9 * (s : Int))))] [] _
                    refine v_load (v := (0, 0)) (hi_X12_readStep_142 hT) rfl rfl ?_
                    refine v_if (hi_X12_readStep_143 hT) (fun _ => ?_) (fun hc54 => absurd (show (0 : Int) = 0 from (by decide)) hc54)
                    refine v_load (v := (0, 0)) (hi_X12_readStep_170 hT) rfl rfl ?_
                    refine v_if (hi_X12_readStep_171 hT) (fun _ => ?_) (fun hc55 => absurd (show (0 : Int) = 0 from (by decide)) hc55)
                    refine v_load (v := (2, 121)) (hi_X12_readStep_192 hT) rfl rfl ?_
                    refine v_getR (c := 126) (r := 121) (hi_X12_readStep_193 hT) rfl rfl rfl ?_
                    refine v_load (v := (0, (2477 + (9 * (s : Int))))) (hi_X12_readStep_196 hT) rfl rfl ?_
                    refine v_push (8) (hi_X12_readStep_198 hT) rfl ?_
                    refine v_bin (w := ((2477 + (9 * (s : Int))) + 8)) (hi_X12_readStep_200 hT) (hq_add (by omega) (by omega)) ?_
                    refine v_load (v := (2, 121)) (hi_X12_readStep_201 hT) rfl rfl ?_
                    refine v_getf (v := (0, ((s : Int) + 1))) (r := 121) (hi_X12_readStep_202 hT) rfl rfl (fun _ => Eq.trans (zset_ne (fun c => absurd c.1 (by decide))) ((Eq.trans (ft33 121 25 (by first | decide | exact fun c => by omega)) (Eq.trans (ft29 121 25 (by first | decide | exact fun c => by omega)) (Eq.trans (zset_ne (fun c => absurd c.1 (by decide))) ((Eq.trans (ft23 121 25 (by first | decide | exact fun c => by omega)) (Eq.trans (zset_ne (fun c => absurd c.1 (by decide))) ((Eq.trans (ft13 121 25 (by first | decide | exact fun c => by omega)) (zset_same))))))))))) ?_
                    refine v_ast (r := 126) (hi_X12_readStep_205 hT) rfl rfl (fun ha56 hb57 hf58 => ?_)
                    refine v_ret0 (hi_X12_readStep_206 hT) ?_
                    exact er _ _ (by simp only [pStep, hE, hsw, hop, h15, opW15, harg, pNm, pWord, pSg, Bool.false_eq_true, (show ¬ 30 ≤ s from by omega), q23, hc28, q33, ne_eq, not_true_eq_false, not_false_eq_true, if_true, if_false, eq_self, eb_l, eb_r, and_true, true_and, and_false, false_and]) (rE.z (r := 126) (k := ((((2477 + (9 * (s : Int))) + 8)).toNat)) (v := (0, ((s : Int) + 1))) (by decide) (rE.z (r := 126) (k := ((((2477 + (9 * (s : Int))) + 2)).toNat)) (v := (0, v31)) (by decide) c33)) (roF.z (a := 126) (b := ((((2477 + (9 * (s : Int))) + 8)).toNat)) (v := (0, ((s : Int) + 1))) (by omega) (roF.z (a := 126) (b := ((((2477 + (9 * (s : Int))) + 2)).toNat)) (v := (0, v31)) (by omega) (roF.t (roF.t (roF.z (a := 126) (b := ((((2477 + (9 * (s : Int))) + 1)).toNat)) (v := (0, x22)) (by omega) (roF.t (roF.z (a := 126) (b := (((2477 + (9 * (s : Int)))).toNat)) (v := (0, 0)) (by omega) (roF.t (roF.z (a := 121) (b := 25) (v := (0, ((s : Int) + 1))) (by omega) roF.rfl) ft13)) ft23)) ft29) ft33)))
            · show vP D T N 301 36 g30 [some (2, 121), some (0, (2477 + (9 * (s : Int)))), some (0, 0)] [] _
              refine vP_hv (fun hv30 => ?_)
              refine v_load (v := (2, 121)) (hi_X12_readRest_36 hT) rfl rfl ?_
              refine v_getR (c := 126) (r := 121) (hi_X12_readRest_37 hT) rfl rfl rfl ?_
              refine v_load (v := (0, (2477 + (9 * (s : Int))))) (hi_X12_readRest_40 hT) rfl rfl ?_
              refine v_push (2) (hi_X12_readRest_41 hT) rfl ?_
              refine v_bin (w := ((2477 + (9 * (s : Int))) + 2)) (hi_X12_readRest_42 hT) (hq_add (by omega) (by omega)) ?_
              refine v_load (v := (2, 121)) (hi_X12_readRest_43 hT) rfl rfl ?_
              refine v_push (0) (hi_X12_readRest_44 hT) rfl ?_
              refine v_call (w := 4) [some (2, 121), some (0, 0), none, none] hO (hi_X12_readRest_45 hT) rfl rfl (rx_cellB_0 hT hO ((P 0 0)) ((P 0 1)) c30 (Eq.trans (ft30 126 0 (by first | decide | exact fun c => by omega)) (Eq.trans (zset_ne (fun c => by omega)) ((Eq.trans (ft23 126 0 (by first | decide | exact fun c => by omega)) (Eq.trans (zset_ne (fun c => by omega)) ((Eq.trans (ft13 126 0 (by first | decide | exact fun c => by omega)) (Eq.trans (zset_ne (fun c => absurd c.1 (by decide))) (e0))))))))) (Eq.trans (ft30 126 1 (by first | decide | exact fun c => by omega)) (Eq.trans (zset_ne (fun c => by omega)) ((Eq.trans (ft23 126 1 (by first | decide | exact fun c => by omega)) (Eq.trans (zset_ne (fun c => by omega)) ((Eq.trans (ft13 126 1 (by first | decide | exact fun c => by omega)) (Eq.trans (zset_ne (fun c => absurd c.1 (by decide))) (e1))))))))) (by omega) (by omega) (fun v59 bva59 bvb59 => ?_))
              · show vP D T N 301 48 g30 [some (2, 121), some (0, (2477 + (9 * (s : Int)))), some (0, 0)] [(0, v59), (0, ((2477 + (9 * (s : Int))) + 2)), (2, 126)] _
                refine v_ast (r := 126) (hi_X12_readRest_48 hT) rfl rfl (fun ha60 hb61 hf62 => ?_)
                refine v_goto (hi_X12_readRest_49 hT) ?_
                refine v_ret0 (hi_X12_readRest_210 hT) ?_
                show vP D T N 304 132 (zset g30 126 ((((2477 + (9 * (s : Int))) + 2)).toNat) (0, v59)) [some (2, 121), some (0, (d : Int)), some (0, 0), some (0, 0), some (0, (2477 + (9 * (s : Int))))] [] _
                refine v_load (v := (2, 121)) (hi_X12_readStep_132 hT) rfl rfl ?_
                refine v_load (v := (2, 121)) (hi_X12_readStep_133 hT) rfl rfl ?_
                refine v_push (59) (hi_X12_readStep_134 hT) rfl ?_
                refine v_call (w := 2) [some (2, 121), some (0, 59)] hO (hi_X12_readStep_136 hT) rfl rfl (rb_any_isSign hT hO (fun v63 => ?_))
                · show vP D T N 304 139 (zset g30 126 ((((2477 + (9 * (s : Int))) + 2)).toNat) (0, v59)) [some (2, 121), some (0, (d : Int)), some (0, 0), some (0, 0), some (0, (2477 + (9 * (s : Int))))] [(0, v63), (2, 121)] _
                  refine v_call (w := 2) [some (2, 121), some (0, v63)] hO (hi_X12_readStep_139 hT) rfl rfl (rx_mustB hT hO v63 (rE.z (r := 126) (k := ((((2477 + (9 * (s : Int))) + 2)).toNat)) (v := (0, v59)) (by decide) c30) ?_)
                  · show vP D T N 304 142 (zset g30 126 ((((2477 + (9 * (s : Int))) + 2)).toNat) (0, v59)) [some (2, 121), some (0, (d : Int)), some (0, 0), some (0, 0), some (0, (2477 + (9 * (s : Int))))] [] _
                    refine v_load (v := (0, 0)) (hi_X12_readStep_142 hT) rfl rfl ?_
                    refine v_if (hi_X12_readStep_143 hT) (fun _ => ?_) (fun hc64 => absurd (show (0 : Int) = 0 from (by decide)) hc64)
                    refine v_load (v := (0, 0)) (hi_X12_readStep_170 hT) rfl rfl ?_
                    refine v_if (hi_X12_readStep_171 hT) (fun _ => ?_) (fun hc65 => absurd (show (0 : Int) = 0 from (by decide)) hc65)
                    refine v_load (v := (2, 121)) (hi_X12_readStep_192 hT) rfl rfl ?_
                    refine v_getR (c := 126) (r := 121) (hi_X12_readStep_193 hT) rfl rfl rfl ?_
                    refine v_load (v := (0, (2477 + (9 * (s : Int))))) (hi_X12_readStep_196 hT) rfl rfl ?_
                    refine v_push (8) (hi_X12_readStep_198 hT) rfl ?_
                    refine v_bin (w := ((2477 + (9 * (s : Int))) + 8)) (hi_X12_readStep_200 hT) (hq_add (by omega) (by omega)) ?_
                    refine v_load (v := (2, 121)) (hi_X12_readStep_201 hT) rfl rfl ?_
                    refine v_getf (v := (0, ((s : Int) + 1))) (r := 121) (hi_X12_readStep_202 hT) rfl rfl (fun _ => Eq.trans (zset_ne (fun c => absurd c.1 (by decide))) ((Eq.trans (ft30 121 25 (by first | decide | exact fun c => by omega)) (Eq.trans (zset_ne (fun c => absurd c.1 (by decide))) ((Eq.trans (ft23 121 25 (by first | decide | exact fun c => by omega)) (Eq.trans (zset_ne (fun c => absurd c.1 (by decide))) ((Eq.trans (ft13 121 25 (by first | decide | exact fun c => by omega)) (zset_same)))))))))) ?_
                    refine v_ast (r := 126) (hi_X12_readStep_205 hT) rfl rfl (fun ha66 hb67 hf68 => ?_)
                    refine v_ret0 (hi_X12_readStep_206 hT) ?_
                    exact er _ _ (by simp only [pStep, hE, hsw, hop, h15, opW15, harg, pNm, pWord, pSg, Bool.false_eq_true, (show ¬ 30 ≤ s from by omega), q23, hc30, ne_eq, not_true_eq_false, not_false_eq_true, if_true, if_false, eq_self, eb_l, eb_r, and_true, true_and, and_false, false_and]) (rE.z (r := 126) (k := ((((2477 + (9 * (s : Int))) + 8)).toNat)) (v := (0, ((s : Int) + 1))) (by decide) (rE.z (r := 126) (k := ((((2477 + (9 * (s : Int))) + 2)).toNat)) (v := (0, v59)) (by decide) c30)) (roF.z (a := 126) (b := ((((2477 + (9 * (s : Int))) + 8)).toNat)) (v := (0, ((s : Int) + 1))) (by omega) (roF.z (a := 126) (b := ((((2477 + (9 * (s : Int))) + 2)).toNat)) (v := (0, v59)) (by omega) (roF.t (roF.z (a := 126) (b := ((((2477 + (9 * (s : Int))) + 1)).toNat)) (v := (0, x22)) (by omega) (roF.t (roF.z (a := 126) (b := (((2477 + (9 * (s : Int)))).toNat)) (v := (0, 0)) (by omega) (roF.t (roF.z (a := 121) (b := 25) (v := (0, ((s : Int) + 1))) (by omega) roF.rfl) ft13)) ft23)) ft30)))
        · show vP D T N 299 13 g24 [some (2, 121)] [(0, 0)] _
          refine vP_hv (fun hv24 => ?_)
          refine v_ret (hi_X12_readCopy_13 hT) (Or.inl rfl) ?_
          show vP D T N 301 27 g24 [some (2, 121), some (0, (2477 + (9 * (s : Int)))), some (0, 0)] [(0, 0), (0, ((2477 + (9 * (s : Int))) + 1)), (2, 126)] _
          refine v_ast (r := 126) (hi_X12_readRest_27 hT) rfl rfl (fun ha69 hb70 hf71 => ?_)
          refine v_load (v := (2, 121)) (hi_X12_readRest_28 hT) rfl rfl ?_
          refine v_load (v := (2, 121)) (hi_X12_readRest_29 hT) rfl rfl ?_
          refine v_call (w := 1) [some (2, 121)] hO (hi_X12_readRest_30 hT) rfl rfl (rb_any_isAtWord hT hO (fun v72 => ?_))
          · show vP D T N 301 33 (zset g24 126 ((((2477 + (9 * (s : Int))) + 1)).toNat) (0, 0)) [some (2, 121), some (0, (2477 + (9 * (s : Int)))), some (0, 0)] [(0, v72), (2, 121)] _
            refine v_call (w := 2) [some (2, 121), some (0, v72)] hO (hi_X12_readRest_33 hT) rfl rfl (rx_mustB hT hO v72 (rE.z (r := 126) (k := ((((2477 + (9 * (s : Int))) + 1)).toNat)) (v := (0, 0)) (by decide) c24) ?_)
            · show vP D T N 301 36 (zset g24 126 ((((2477 + (9 * (s : Int))) + 1)).toNat) (0, 0)) [some (2, 121), some (0, (2477 + (9 * (s : Int)))), some (0, 0)] [] _
              refine v_load (v := (2, 121)) (hi_X12_readRest_36 hT) rfl rfl ?_
              refine v_getR (c := 126) (r := 121) (hi_X12_readRest_37 hT) rfl rfl rfl ?_
              refine v_load (v := (0, (2477 + (9 * (s : Int))))) (hi_X12_readRest_40 hT) rfl rfl ?_
              refine v_push (2) (hi_X12_readRest_41 hT) rfl ?_
              refine v_bin (w := ((2477 + (9 * (s : Int))) + 2)) (hi_X12_readRest_42 hT) (hq_add (by omega) (by omega)) ?_
              refine v_load (v := (2, 121)) (hi_X12_readRest_43 hT) rfl rfl ?_
              refine v_push (0) (hi_X12_readRest_44 hT) rfl ?_
              refine v_call (w := 4) [some (2, 121), some (0, 0), none, none] hO (hi_X12_readRest_45 hT) rfl rfl (rx_cellB_0 hT hO ((P 0 0)) ((P 0 1)) (rE.z (r := 126) (k := ((((2477 + (9 * (s : Int))) + 1)).toNat)) (v := (0, 0)) (by decide) c24) (Eq.trans (zset_ne (fun c => by omega)) ((Eq.trans (ft24 126 0 (by first | decide | exact fun c => by omega)) (Eq.trans (zset_ne (fun c => by omega)) ((Eq.trans (ft13 126 0 (by first | decide | exact fun c => by omega)) (Eq.trans (zset_ne (fun c => absurd c.1 (by decide))) (e0)))))))) (Eq.trans (zset_ne (fun c => by omega)) ((Eq.trans (ft24 126 1 (by first | decide | exact fun c => by omega)) (Eq.trans (zset_ne (fun c => by omega)) ((Eq.trans (ft13 126 1 (by first | decide | exact fun c => by omega)) (Eq.trans (zset_ne (fun c => absurd c.1 (by decide))) (e1)))))))) (by omega) (by omega) (fun v73 bva73 bvb73 => ?_))
              · show vP D T N 301 48 (zset g24 126 ((((2477 + (9 * (s : Int))) + 1)).toNat) (0, 0)) [some (2, 121), some (0, (2477 + (9 * (s : Int)))), some (0, 0)] [(0, v73), (0, ((2477 + (9 * (s : Int))) + 2)), (2, 126)] _
                refine v_ast (r := 126) (hi_X12_readRest_48 hT) rfl rfl (fun ha74 hb75 hf76 => ?_)
                refine v_goto (hi_X12_readRest_49 hT) ?_
                refine v_ret0 (hi_X12_readRest_210 hT) ?_
                show vP D T N 304 132 (zset (zset g24 126 ((((2477 + (9 * (s : Int))) + 1)).toNat) (0, 0)) 126 ((((2477 + (9 * (s : Int))) + 2)).toNat) (0, v73)) [some (2, 121), some (0, (d : Int)), some (0, 0), some (0, 0), some (0, (2477 + (9 * (s : Int))))] [] _
                refine v_load (v := (2, 121)) (hi_X12_readStep_132 hT) rfl rfl ?_
                refine v_load (v := (2, 121)) (hi_X12_readStep_133 hT) rfl rfl ?_
                refine v_push (59) (hi_X12_readStep_134 hT) rfl ?_
                refine v_call (w := 2) [some (2, 121), some (0, 59)] hO (hi_X12_readStep_136 hT) rfl rfl (rb_any_isSign hT hO (fun v77 => ?_))
                · show vP D T N 304 139 (zset (zset g24 126 ((((2477 + (9 * (s : Int))) + 1)).toNat) (0, 0)) 126 ((((2477 + (9 * (s : Int))) + 2)).toNat) (0, v73)) [some (2, 121), some (0, (d : Int)), some (0, 0), some (0, 0), some (0, (2477 + (9 * (s : Int))))] [(0, v77), (2, 121)] _
                  refine v_call (w := 2) [some (2, 121), some (0, v77)] hO (hi_X12_readStep_139 hT) rfl rfl (rx_mustB hT hO v77 (rE.z (r := 126) (k := ((((2477 + (9 * (s : Int))) + 2)).toNat)) (v := (0, v73)) (by decide) (rE.z (r := 126) (k := ((((2477 + (9 * (s : Int))) + 1)).toNat)) (v := (0, 0)) (by decide) c24)) ?_)
                  · show vP D T N 304 142 (zset (zset g24 126 ((((2477 + (9 * (s : Int))) + 1)).toNat) (0, 0)) 126 ((((2477 + (9 * (s : Int))) + 2)).toNat) (0, v73)) [some (2, 121), some (0, (d : Int)), some (0, 0), some (0, 0), some (0, (2477 + (9 * (s : Int))))] [] _
                    refine v_load (v := (0, 0)) (hi_X12_readStep_142 hT) rfl rfl ?_
                    refine v_if (hi_X12_readStep_143 hT) (fun _ => ?_) (fun hc78 => absurd (show (0 : Int) = 0 from (by decide)) hc78)
                    refine v_load (v := (0, 0)) (hi_X12_readStep_170 hT) rfl rfl ?_
                    refine v_if (hi_X12_readStep_171 hT) (fun _ => ?_) (fun hc79 => absurd (show (0 : Int) = 0 from (by decide)) hc79)
                    refine v_load (v := (2, 121)) (hi_X12_readStep_192 hT) rfl rfl ?_
                    refine v_getR (c := 126) (r := 121) (hi_X12_readStep_193 hT) rfl rfl rfl ?_
                    refine v_load (v := (0, (2477 + (9 * (s : Int))))) (hi_X12_readStep_196 hT) rfl rfl ?_
                    refine v_push (8) (hi_X12_readStep_198 hT) rfl ?_
                    refine v_bin (w := ((2477 + (9 * (s : Int))) + 8)) (hi_X12_readStep_200 hT) (hq_add (by omega) (by omega)) ?_
                    refine v_load (v := (2, 121)) (hi_X12_readStep_201 hT) rfl rfl ?_
                    refine v_getf (v := (0, ((s : Int) + 1))) (r := 121) (hi_X12_readStep_202 hT) rfl rfl (fun _ => Eq.trans (Eq.trans (zset_ne (fun c => absurd c.1 (by decide))) (zset_ne (fun c => absurd c.1 (by decide)))) ((Eq.trans (ft24 121 25 (by first | decide | exact fun c => by omega)) (Eq.trans (zset_ne (fun c => absurd c.1 (by decide))) ((Eq.trans (ft13 121 25 (by first | decide | exact fun c => by omega)) (zset_same))))))) ?_
                    refine v_ast (r := 126) (hi_X12_readStep_205 hT) rfl rfl (fun ha80 hb81 hf82 => ?_)
                    refine v_ret0 (hi_X12_readStep_206 hT) ?_
                    exact er _ _ (by simp only [pStep, hE, hsw, hop, h15, opW15, harg, pNm, pWord, pSg, Bool.false_eq_true, (show ¬ 30 ≤ s from by omega), q24, ne_eq, not_true_eq_false, not_false_eq_true, if_true, if_false, eq_self, eb_l, eb_r, and_true, true_and, and_false, false_and]) (rE.z (r := 126) (k := ((((2477 + (9 * (s : Int))) + 8)).toNat)) (v := (0, ((s : Int) + 1))) (by decide) (rE.z (r := 126) (k := ((((2477 + (9 * (s : Int))) + 2)).toNat)) (v := (0, v73)) (by decide) (rE.z (r := 126) (k := ((((2477 + (9 * (s : Int))) + 1)).toNat)) (v := (0, 0)) (by decide) c24))) (roF.z (a := 126) (b := ((((2477 + (9 * (s : Int))) + 8)).toNat)) (v := (0, ((s : Int) + 1))) (by omega) (roF.z (a := 126) (b := ((((2477 + (9 * (s : Int))) + 2)).toNat)) (v := (0, v73)) (by omega) (roF.z (a := 126) (b := ((((2477 + (9 * (s : Int))) + 1)).toNat)) (v := (0, 0)) (by omega) (roF.t (roF.z (a := 126) (b := (((2477 + (9 * (s : Int)))).toNat)) (v := (0, 0)) (by omega) (roF.t (roF.z (a := 121) (b := 25) (v := (0, ((s : Int) + 1))) (by omega) roF.rfl) ft13)) ft24))))
theorem ro7_9 {D : zD} {T : zT} (hT : hTab T) (hO : vOK T) {N : Nat} {h : zH} {Q : zR → Prop} {B : Nat → Int} {n m i s d : Nat} {τ P : PT} (hv0 : zHv h) (hX : rX B n m τ i h) (e0 : h 126 0 = (0, P 0 0)) (e1 : h 126 1 = (0, P 0 1)) (e2 : h 126 2 = (0, P 0 2)) (e3 : h 126 3 = (0, P 0 3)) (hN : rNm P h) (hb : (0 ≤ P 0 0 ∧ P 0 0 ≤ 8) ∧ (0 ≤ P 0 1 ∧ P 0 1 ≤ 6) ∧ (0 ≤ P 0 2 ∧ P 0 2 ≤ 3) ∧ (0 ≤ P 0 3 ∧ P 0 3 ≤ 6)) (hs : h 121 25 = (0, (s : Int))) (bs : s ≤ 30) (bd : d ≤ 3) (h1 : τ 0 i = 1) (h3 : τ 3 i = 9) (ih : ∀ g s' d' i' a K u v j, pStep τ P s d i = .inr (s', d', i') → rX B n m τ i' g → g 121 25 = (0, a) → a = (s' : Int) → s' ≤ 30 → roF h g → pItV τ P i = .inr (K, u, v, j) → (∀ e, ¬ (2477 + 9 * s ≤ e ∧ e < 2486 + 9 * s) → g 126 e = h 126 e) → rI7 (P 0 0) g s K u v → g 126 (2485 + 9 * s) = (0, (s : Int) + 1) → Q (g, none)) (er : ∀ g e, pStep τ P s d i = .inl e → rE e g → roF h g → Q (g, none)) :
    vP D T (N + 1) 304 0 h [some (2, 121), some (0, (d : Int)), none, none, none] [] Q := by
  have h0 : τ 0 i ≠ 0 := by omega
  have hE : (bW τ 20 i) = 0 := bW_0.mpr (fun c => absurd (h3.symm.trans c.2) (by decide))
  have hsw : ¬ swd τ i < 0 := by rw [swd_v h1, h3]; decide
  have hop : opW (τ 3 i) = false := by rw [h3]; rfl
  have h15 : ¬ τ 3 i = 15 := by rw [h3]; decide
  have harg : ∀ j, oArg τ P (τ 3 i) j = (eb (pNum τ 0 (P 0 2 - 1) j) fun a => .inr a.2) := fun j => by rw [h3]; rfl
  have hargV : ∀ j, oArV τ P 9 j = (eb (pNum τ 0 (P 0 2 - 1) j) fun a => .inr (a.1, 0, a.2)) := fun _ => rfl
  refine v_loadS (v := (2, 121)) (hi_X12_readStep_0 hT) rfl rfl ?_
  refine v_call (w := 1) [some (2, 121)] hO (hi_X12_readStep_1 hT) rfl rfl (rx_stepK hT hO 1 hX h1 h3 (by decide) ?_)
  · show vP D T N 304 4 h [some (2, 121), some (0, (d : Int)), none, none, none] [(0, 1)] _
    refine v_store1 [some (2, 121), some (0, (d : Int)), some (0, 1), none, none] (hi_X12_readStep_4 hT) ⟨rfl, Nat.ne_of_beq_eq_false rfl⟩ (Nat.le_of_ble_eq_true rfl) rfl ?_
    refine v_load (v := (0, 1)) (hi_X12_readStep_5 hT) rfl rfl ?_
    refine v_push (7) (hi_X12_readStep_6 hT) rfl ?_
    refine v_ic (hi_X12_readStep_8 hT) (fun hc1 => absurd (show (1 : Int) = 7 from hc1) (by decide)) (fun _ => ?_)
    refine v_load (v := (0, 1)) (hi_X12_readStep_11 hT) rfl rfl ?_
    refine v_push (8) (hi_X12_readStep_12 hT) rfl ?_
    refine v_ic (hi_X12_readStep_14 hT) (fun hc2 => absurd (show (1 : Int) = 8 from hc2) (by decide)) (fun _ => ?_)
    refine v_push (0) (hi_X12_readStep_21 hT) rfl ?_
    refine v_store1 [some (2, 121), some (0, (d : Int)), some (0, 1), some (0, 0), none] (hi_X12_readStep_22 hT) ⟨rfl, Nat.ne_of_beq_eq_false rfl⟩ (Nat.le_of_ble_eq_true rfl) rfl ?_
    refine v_load (v := (0, 1)) (hi_X12_readStep_23 hT) rfl rfl ?_
    refine v_if (hi_X12_readStep_24 hT) (fun hc3 => absurd (show (1 : Int) < 0 from hc3) (by decide)) (fun _ => ?_)
    refine v_load (v := (2, 121)) (hi_X12_readStep_31 hT) rfl rfl ?_
    refine v_getf (v := (0, 0)) (r := 121) (hi_X12_readStep_32 hT) rfl rfl (fun _ => hX.b) ?_
    refine v_if (hi_X12_readStep_35 hT) (fun _ => ?_) (fun hc4 => absurd (show (0 : Int) = 0 from (by decide)) hc4)
    refine v_load (v := (2, 121)) (hi_X12_readStep_38 hT) rfl rfl ?_
    refine v_getf (v := (0, (s : Int))) (r := 121) (hi_X12_readStep_39 hT) rfl rfl (fun _ => hs) ?_
    refine v_push (30) (hi_X12_readStep_42 hT) rfl ?_
    refine v_ic (hi_X12_readStep_44 hT) (fun hc5 => ?_) (fun hc5 => ?_)
    · have hc5 : (s : Int) = 30 := hc5
      refine v_load (v := (2, 121)) (hi_X12_readStep_47 hT) rfl rfl ?_
      refine v_push (6) (hi_X12_readStep_48 hT) rfl ?_
      refine v_load (v := (2, 121)) (hi_X12_readStep_50 hT) rfl rfl ?_
      refine v_getf (v := (0, (τ 1 i))) (r := 121) (hi_X12_readStep_51 hT) rfl rfl (fun _ => hX.ps) ?_
      refine v_call (w := 3) [some (2, 121), some (0, 6), some (0, (τ 1 i))] hO (hi_X12_readStep_54 hT) rfl rfl (rx_fail hT hO 6 hX h1 (by decide) (fun g6 ft6 c6 => ?_))
      · show vP D T N 304 57 g6 [some (2, 121), some (0, (d : Int)), some (0, 1), some (0, 0), none] [] _
        refine vP_hv (fun hv6 => ?_)
        refine v_load (v := (2, 121)) (hi_X12_readStep_57 hT) rfl rfl ?_
        refine v_getf (v := (0, (eF τ i 6).1)) (r := 121) (hi_X12_readStep_58 hT) rfl rfl (fun _ => c6.1) ?_
        refine v_if (hi_X12_readStep_61 hT) (fun hc7 => absurd (show (eF τ i 6).1 = 0 from hc7) (by have := c6.2.1; omega)) (fun _ => ?_)
        refine v_load (v := (2, 121)) (hi_X12_readStep_83 hT) rfl rfl ?_
        refine v_getf (v := (0, (eF τ i 6).1)) (r := 121) (hi_X12_readStep_84 hT) rfl rfl (fun _ => c6.1) ?_
        refine v_if (hi_X12_readStep_87 hT) (fun _ => ?_) (fun hc8 => absurd (show 0 < (eF τ i 6).1 from c6.2.1) hc8)
        refine v_ret0 (hi_X12_readStep_90 hT) ?_
        exact er _ _ (by simp only [pStep, hE, hsw, hop, h15, opW15, harg, pNm, pWord, pSg, Bool.false_eq_true, (show 30 ≤ s from by omega), ne_eq, not_true_eq_false, not_false_eq_true, if_true, if_false, eq_self, eb_l, eb_r, and_true, true_and, and_false, false_and]) c6 (roF.t roF.rfl ft6)
    · have hc5 : (s : Int) ≠ 30 := hc5
      refine v_load (v := (2, 121)) (hi_X12_readStep_57 hT) rfl rfl ?_
      refine v_getf (v := (0, 0)) (r := 121) (hi_X12_readStep_58 hT) rfl rfl (fun _ => hX.b) ?_
      refine v_if (hi_X12_readStep_61 hT) (fun _ => ?_) (fun hc9 => absurd (show (0 : Int) = 0 from (by decide)) hc9)
      refine v_load (v := (0, 0)) (hi_X12_readStep_64 hT) rfl rfl ?_
      refine v_if (hi_X12_readStep_65 hT) (fun _ => ?_) (fun hc10 => absurd (show (0 : Int) = 0 from (by decide)) hc10)
      refine v_load (v := (2, 121)) (hi_X12_readStep_83 hT) rfl rfl ?_
      refine v_getf (v := (0, 0)) (r := 121) (hi_X12_readStep_84 hT) rfl rfl (fun _ => hX.b) ?_
      refine v_if (hi_X12_readStep_87 hT) (fun hc11 => absurd (show 0 < (0 : Int) from hc11) (by decide)) (fun _ => ?_)
      refine v_push (2477) (hi_X12_readStep_91 hT) rfl ?_
      refine v_push (9) (hi_X12_readStep_94 hT) rfl ?_
      refine v_load (v := (2, 121)) (hi_X12_readStep_96 hT) rfl rfl ?_
      refine v_getf (v := (0, (s : Int))) (r := 121) (hi_X12_readStep_97 hT) rfl rfl (fun _ => hs) ?_
      refine v_bin (w := (9 * (s : Int))) (hi_X12_readStep_100 hT) (hq_mul (by omega) (by omega)) ?_
      refine v_bin (w := (2477 + (9 * (s : Int)))) (hi_X12_readStep_101 hT) (hq_add (by omega) (by omega)) ?_
      refine v_store1 [some (2, 121), some (0, (d : Int)), some (0, 1), some (0, 0), some (0, (2477 + (9 * (s : Int))))] (hi_X12_readStep_102 hT) ⟨rfl, Nat.ne_of_beq_eq_false rfl⟩ (Nat.le_of_ble_eq_true rfl) rfl ?_
      refine v_load (v := (2, 121)) (hi_X12_readStep_104 hT) rfl rfl ?_
      refine v_dup (hi_X12_readStep_105 hT) (Nat.ne_of_beq_eq_false rfl) ?_
      refine v_getf (v := (0, (s : Int))) (r := 121) (hi_X12_readStep_106 hT) rfl rfl (fun _ => hs) ?_
      refine v_push (1) (hi_X12_readStep_109 hT) rfl ?_
      refine v_bin (w := ((s : Int) + 1)) (hi_X12_readStep_110 hT) (hq_add (by omega) (by omega)) ?_
      refine v_putf (r := 121) hO (hi_X12_readStep_111 hT) rfl (fun hf12 => ?_)
      refine v_load (v := (2, 121)) (hi_X12_readStep_114 hT) rfl rfl ?_
      refine v_call (w := 2) [some (2, 121), none] hO (hi_X12_readStep_115 hT) rfl rfl (rx_next hT hO (rX.zf (k := 25) (v := (0, ((s : Int) + 1))) (by decide) hX) (ne_10 h1) (ne_14 h1) (fun g13 ft13 hX13 => ?_))
      · show vP D T N 304 118 g13 [some (2, 121), some (0, (d : Int)), some (0, 1), some (0, 0), some (0, (2477 + (9 * (s : Int))))] [] _
        refine vP_hv (fun hv13 => ?_)
        refine v_load (v := (2, 121)) (hi_X12_readStep_118 hT) rfl rfl ?_
        refine v_getR (c := 126) (r := 121) (hi_X12_readStep_119 hT) rfl rfl rfl ?_
        refine v_load (v := (0, (2477 + (9 * (s : Int))))) (hi_X12_readStep_122 hT) rfl rfl ?_
        refine v_load (v := (0, 1)) (hi_X12_readStep_124 hT) rfl rfl ?_
        refine v_ast (r := 126) (hi_X12_readStep_125 hT) rfl rfl (fun ha14 hb15 hf16 => ?_)
        refine v_load (v := (2, 121)) (hi_X12_readStep_126 hT) rfl rfl ?_
        refine v_load (v := (0, (2477 + (9 * (s : Int))))) (hi_X12_readStep_127 hT) rfl rfl ?_
        refine v_call (w := 3) [some (2, 121), some (0, (2477 + (9 * (s : Int)))), none] hO (hi_X12_readStep_129 hT) rfl rfl ?_
        refine v_load (v := (2, 121)) (hi_X12_readRest_0 hT) rfl rfl ?_
        refine v_getR (c := 126) (r := 121) (hi_X12_readRest_1 hT) rfl rfl rfl ?_
        refine v_load (v := (0, (2477 + (9 * (s : Int))))) (hi_X12_readRest_4 hT) rfl rfl ?_
        refine v_aldV (v := (0, 1)) (r := 126) (hi_X12_readRest_5 hT) rfl rfl (fun _ _ _ => zset_same) (fun ha17 hb18 => ?_)
        refine v_store1 [some (2, 121), some (0, (2477 + (9 * (s : Int)))), some (0, 1)] (hi_X12_readRest_6 hT) ⟨rfl, Nat.ne_of_beq_eq_false rfl⟩ (Nat.le_of_ble_eq_true rfl) rfl ?_
        refine v_load (v := (0, 1)) (hi_X12_readRest_7 hT) rfl rfl ?_
        refine v_if (hi_X12_readRest_8 hT) (fun hc19 => absurd (show (1 : Int) = 0 from hc19) (by decide)) (fun _ => ?_)
        refine v_load (v := (0, 1)) (hi_X12_readRest_11 hT) rfl rfl ?_
        refine v_push (2) (hi_X12_readRest_12 hT) rfl ?_
        refine v_ic (hi_X12_readRest_13 hT) (fun hc20 => absurd (show (1 : Int) = 2 from hc20) (by decide)) (fun _ => ?_)
        refine v_load (v := (0, 1)) (hi_X12_readRest_52 hT) rfl rfl ?_
        refine v_push (1) (hi_X12_readRest_53 hT) rfl ?_
        refine v_ic (hi_X12_readRest_54 hT) (fun _ => ?_) (fun hc21 => absurd (show (1 : Int) = 1 from (by decide)) hc21)
        refine v_load (v := (2, 121)) (hz_X12_readRest hT _ _ rfl) rfl rfl ?_
        refine v_getR (c := 126) (r := 121) (hz_X12_readRest hT _ _ rfl) rfl rfl rfl ?_
        refine v_load (v := (0, (2477 + (9 * (s : Int))))) (hz_X12_readRest hT _ _ rfl) rfl rfl ?_
        refine v_push (1) (hz_X12_readRest hT _ _ rfl) rfl ?_
        refine v_bin (w := ((2477 + (9 * (s : Int))) + 1)) (hz_X12_readRest hT _ _ rfl) (hq_add (by omega) (by omega)) ?_
        refine v_load (v := (2, 121)) (hz_X12_readRest hT _ _ rfl) rfl rfl ?_
        refine v_call (w := 1) [some (2, 121)] hO (hz_X12_readRest hT _ _ rfl) rfl rfl ?_
        refine v_load (v := (2, 121)) (hi_X12_readCopy_0 hT) rfl rfl ?_
        refine v_push (0) (hi_X12_readCopy_1 hT) rfl ?_
        refine v_load (v := (2, 121)) (hi_X12_readCopy_2 hT) rfl rfl ?_
        refine v_getR (c := 126) (r := 121) (hi_X12_readCopy_3 hT) rfl rfl rfl ?_
        refine v_push (2) (hi_X12_readCopy_6 hT) rfl ?_
        refine v_aldV (v := (0, (P 0 2))) (r := 126) (hi_X12_readCopy_7 hT) rfl rfl (fun _ _ _ => (Eq.trans (zset_ne (fun c => by omega)) ((Eq.trans (ft13 126 2 (by first | decide | exact fun c => by omega)) (Eq.trans (zset_ne (fun c => absurd c.1 (by decide))) (e2)))))) (fun ha22 hb23 => ?_)
        refine v_push (1) (hi_X12_readCopy_8 hT) rfl ?_
        refine v_bin (w := ((P 0 2) - 1)) (hi_X12_readCopy_9 hT) (hq_sub (by omega) (by omega)) ?_
        refine v_call (w := 4) [some (2, 121), some (0, 0), some (0, ((P 0 2) - 1)), none] hO (hi_X12_readCopy_10 hT) rfl rfl (rx_num hT hO 0 (((P 0 2) - 1)) (rX.z (r := 126) (k := (((2477 + (9 * (s : Int)))).toNat)) (v := (0, 1)) (by decide) hX13) (fun g25 x24 ft25 q25 bux24 bvx24 hX25 => ?_) (fun g26 e26 ft26 q26 c26 => ?_))
        · show vP D T N 299 13 g25 [some (2, 121)] [(0, x24)] _
          refine vP_hv (fun hv25 => ?_)
          refine v_ret (hi_X12_readCopy_13 hT) (Or.inl rfl) ?_
          show vP D T N 301 68 g25 [some (2, 121), some (0, (2477 + (9 * (s : Int)))), some (0, 1)] [(0, x24), (0, ((2477 + (9 * (s : Int))) + 1)), (2, 126)] _
          refine v_ast (r := 126) (hz_X12_readRest hT _ _ rfl) rfl rfl (fun ha27 hb28 hf29 => ?_)
          refine v_goto (hz_X12_readRest hT _ _ rfl) ?_
          refine v_ret0 (hi_X12_readRest_210 hT) ?_
          show vP D T N 304 132 (zset g25 126 ((((2477 + (9 * (s : Int))) + 1)).toNat) (0, x24)) [some (2, 121), some (0, (d : Int)), some (0, 1), some (0, 0), some (0, (2477 + (9 * (s : Int))))] [] _
          refine v_load (v := (2, 121)) (hi_X12_readStep_132 hT) rfl rfl ?_
          refine v_load (v := (2, 121)) (hi_X12_readStep_133 hT) rfl rfl ?_
          refine v_push (59) (hi_X12_readStep_134 hT) rfl ?_
          refine v_call (w := 2) [some (2, 121), some (0, 59)] hO (hi_X12_readStep_136 hT) rfl rfl (rx_isSign hT hO 59 (rX.z (r := 126) (k := ((((2477 + (9 * (s : Int))) + 1)).toNat)) (v := (0, x24)) (by decide) hX25) ?_)
          · show vP D T N 304 139 (zset g25 126 ((((2477 + (9 * (s : Int))) + 1)).toNat) (0, x24)) [some (2, 121), some (0, (d : Int)), some (0, 1), some (0, 0), some (0, (2477 + (9 * (s : Int))))] [(0, (bG τ 59 (i + 1 + 1))), (2, 121)] _
            refine v_call (w := 2) [some (2, 121), some (0, (bG τ 59 (i + 1 + 1)))] hO (hi_X12_readStep_139 hT) rfl rfl (rx_must hT hO ((bG τ 59 (i + 1 + 1))) (rX.z (r := 126) (k := ((((2477 + (9 * (s : Int))) + 1)).toNat)) (v := (0, x24)) (by decide) hX25) (fun c => ⟨by have := (bG_y.mp c).1; omega, by have := (bG_y.mp c).1; omega⟩) (fun g31 ft31 hc30 hX31 => ?_) (fun g32 ft32 hc32 c32 => ?_))
            · show vP D T N 304 142 g31 [some (2, 121), some (0, (d : Int)), some (0, 1), some (0, 0), some (0, (2477 + (9 * (s : Int))))] [] _
              refine vP_hv (fun hv31 => ?_)
              refine v_load (v := (0, 0)) (hi_X12_readStep_142 hT) rfl rfl ?_
              refine v_if (hi_X12_readStep_143 hT) (fun _ => ?_) (fun hc33 => absurd (show (0 : Int) = 0 from (by decide)) hc33)
              refine v_load (v := (0, 0)) (hi_X12_readStep_170 hT) rfl rfl ?_
              refine v_if (hi_X12_readStep_171 hT) (fun _ => ?_) (fun hc34 => absurd (show (0 : Int) = 0 from (by decide)) hc34)
              refine v_load (v := (2, 121)) (hi_X12_readStep_192 hT) rfl rfl ?_
              refine v_getR (c := 126) (r := 121) (hi_X12_readStep_193 hT) rfl rfl rfl ?_
              refine v_load (v := (0, (2477 + (9 * (s : Int))))) (hi_X12_readStep_196 hT) rfl rfl ?_
              refine v_push (8) (hi_X12_readStep_198 hT) rfl ?_
              refine v_bin (w := ((2477 + (9 * (s : Int))) + 8)) (hi_X12_readStep_200 hT) (hq_add (by omega) (by omega)) ?_
              refine v_load (v := (2, 121)) (hi_X12_readStep_201 hT) rfl rfl ?_
              refine v_getf (v := (0, ((s : Int) + 1))) (r := 121) (hi_X12_readStep_202 hT) rfl rfl (fun _ => (Eq.trans (ft31 121 25 (by first | decide | exact fun c => by omega)) (Eq.trans (zset_ne (fun c => absurd c.1 (by decide))) ((Eq.trans (ft25 121 25 (by first | decide | exact fun c => by omega)) (Eq.trans (zset_ne (fun c => absurd c.1 (by decide))) ((Eq.trans (ft13 121 25 (by first | decide | exact fun c => by omega)) (zset_same))))))))) ?_
              refine v_ast (r := 126) (hi_X12_readStep_205 hT) rfl rfl (fun ha35 hb36 hf37 => ?_)
              refine v_ret0 (hi_X12_readStep_206 hT) ?_
              have kp_ : ∀ e, (zset g31 126 ((((2477 + (9 * (s : Int))) + 8)).toNat) (0, ((s : Int) + 1))) 126 e = (zset (zset (zset h 126 (((2477 + (9 * (s : Int)))).toNat) (0, 1)) 126 ((((2477 + (9 * (s : Int))) + 1)).toNat) (0, x24)) 126 ((((2477 + (9 * (s : Int))) + 8)).toNat) (0, ((s : Int) + 1))) 126 e := (kr_z (k := ((((2477 + (9 * (s : Int))) + 8)).toNat)) (v := (0, ((s : Int) + 1))) (kr_f (fun e => ft31 126 e (fun c => by omega)) (kr_z (k := ((((2477 + (9 * (s : Int))) + 1)).toNat)) (v := (0, x24)) (kr_f (fun e => ft25 126 e (fun c => by omega)) (kr_z (k := (((2477 + (9 * (s : Int)))).toNat)) (v := (0, 1)) (kr_f (fun e => ft13 126 e (fun c => by omega)) (kr_n (a := 121) (k := 25) (v := (0, ((s : Int) + 1))) (by decide) (fun _ => Eq.refl _))))))))
              exact ih _ (s + 1) (d) (i + 1 + 1 + 1) _ 9 x24 0 (i + 1 + 1) (by simp only [pStep, hE, hsw, hop, h15, opW15, harg, pNm, pWord, pSg, Bool.false_eq_true, (show ¬ 30 ≤ s from by omega), q25, hc30, ne_eq, not_true_eq_false, not_false_eq_true, if_true, if_false, eq_self, eb_l, eb_r, and_true, true_and, and_false, false_and]) (rX.z (r := 126) (k := ((((2477 + (9 * (s : Int))) + 8)).toNat)) (v := (0, ((s : Int) + 1))) (by decide) hX31) (Eq.trans (zset_ne (fun c => absurd c.1 (by decide))) ((Eq.trans (ft31 121 25 (by first | decide | exact fun c => by omega)) (Eq.trans (zset_ne (fun c => absurd c.1 (by decide))) ((Eq.trans (ft25 121 25 (by first | decide | exact fun c => by omega)) (Eq.trans (zset_ne (fun c => absurd c.1 (by decide))) ((Eq.trans (ft13 121 25 (by first | decide | exact fun c => by omega)) (zset_same)))))))))) (by omega) (by omega) (roF.z (a := 126) (b := ((((2477 + (9 * (s : Int))) + 8)).toNat)) (v := (0, ((s : Int) + 1))) (by omega) (roF.t (roF.z (a := 126) (b := ((((2477 + (9 * (s : Int))) + 1)).toNat)) (v := (0, x24)) (by omega) (roF.t (roF.z (a := 126) (b := (((2477 + (9 * (s : Int)))).toNat)) (v := (0, 1)) (by omega) (roF.t (roF.z (a := 121) (b := 25) (v := (0, ((s : Int) + 1))) (by omega) roF.rfl) ft13)) ft25)) ft31)) (pItV_a h3 (by decide) (by simp only [hargV, pWord, (show ¬ 30 ≤ s from by omega), q25, hc30, ne_eq, not_true_eq_false, not_false_eq_true, if_true, if_false, eq_self, eb_l, eb_r, and_true, true_and, and_false, false_and])) (fun e_ hn_ => (kp_ e_).trans ((zset_ne (fun c => hn_ (by omega))).trans ((zset_ne (fun c => hn_ (by omega))).trans (zset_ne (fun c => hn_ (by omega)))))) ⟨((kp_ _).trans ((zset_ne (fun c => by omega)).trans ((zset_ne (fun c => by omega)).trans (zset_e (by omega))))), (fun _ => ((kp_ _).trans ((zset_ne (fun c => by omega)).trans (zset_e (by omega))))), (fun c => absurd c (by decide)), (fun c => absurd c (by decide)), (fun c => absurd c (by decide)), (fun c => absurd c (by decide))⟩ ((kp_ _).trans (zset_e (by omega)))
            · show vP D T N 304 142 g32 [some (2, 121), some (0, (d : Int)), some (0, 1), some (0, 0), some (0, (2477 + (9 * (s : Int))))] [] _
              refine vP_hv (fun hv32 => ?_)
              refine v_load (v := (0, 0)) (hi_X12_readStep_142 hT) rfl rfl ?_
              refine v_if (hi_X12_readStep_143 hT) (fun _ => ?_) (fun hc38 => absurd (show (0 : Int) = 0 from (by decide)) hc38)
              refine v_load (v := (0, 0)) (hi_X12_readStep_170 hT) rfl rfl ?_
              refine v_if (hi_X12_readStep_171 hT) (fun _ => ?_) (fun hc39 => absurd (show (0 : Int) = 0 from (by decide)) hc39)
              refine v_load (v := (2, 121)) (hi_X12_readStep_192 hT) rfl rfl ?_
              refine v_getR (c := 126) (r := 121) (hi_X12_readStep_193 hT) rfl rfl rfl ?_
              refine v_load (v := (0, (2477 + (9 * (s : Int))))) (hi_X12_readStep_196 hT) rfl rfl ?_
              refine v_push (8) (hi_X12_readStep_198 hT) rfl ?_
              refine v_bin (w := ((2477 + (9 * (s : Int))) + 8)) (hi_X12_readStep_200 hT) (hq_add (by omega) (by omega)) ?_
              refine v_load (v := (2, 121)) (hi_X12_readStep_201 hT) rfl rfl ?_
              refine v_getf (v := (0, ((s : Int) + 1))) (r := 121) (hi_X12_readStep_202 hT) rfl rfl (fun _ => (Eq.trans (ft32 121 25 (by first | decide | exact fun c => by omega)) (Eq.trans (zset_ne (fun c => absurd c.1 (by decide))) ((Eq.trans (ft25 121 25 (by first | decide | exact fun c => by omega)) (Eq.trans (zset_ne (fun c => absurd c.1 (by decide))) ((Eq.trans (ft13 121 25 (by first | decide | exact fun c => by omega)) (zset_same))))))))) ?_
              refine v_ast (r := 126) (hi_X12_readStep_205 hT) rfl rfl (fun ha40 hb41 hf42 => ?_)
              refine v_ret0 (hi_X12_readStep_206 hT) ?_
              exact er _ _ (by simp only [pStep, hE, hsw, hop, h15, opW15, harg, pNm, pWord, pSg, Bool.false_eq_true, (show ¬ 30 ≤ s from by omega), q25, hc32, ne_eq, not_true_eq_false, not_false_eq_true, if_true, if_false, eq_self, eb_l, eb_r, and_true, true_and, and_false, false_and]) (rE.z (r := 126) (k := ((((2477 + (9 * (s : Int))) + 8)).toNat)) (v := (0, ((s : Int) + 1))) (by decide) c32) (roF.z (a := 126) (b := ((((2477 + (9 * (s : Int))) + 8)).toNat)) (v := (0, ((s : Int) + 1))) (by omega) (roF.t (roF.z (a := 126) (b := ((((2477 + (9 * (s : Int))) + 1)).toNat)) (v := (0, x24)) (by omega) (roF.t (roF.z (a := 126) (b := (((2477 + (9 * (s : Int)))).toNat)) (v := (0, 1)) (by omega) (roF.t (roF.z (a := 121) (b := 25) (v := (0, ((s : Int) + 1))) (by omega) roF.rfl) ft13)) ft25)) ft32))
        · show vP D T N 299 13 g26 [some (2, 121)] [(0, 0)] _
          refine vP_hv (fun hv26 => ?_)
          refine v_ret (hi_X12_readCopy_13 hT) (Or.inl rfl) ?_
          show vP D T N 301 68 g26 [some (2, 121), some (0, (2477 + (9 * (s : Int)))), some (0, 1)] [(0, 0), (0, ((2477 + (9 * (s : Int))) + 1)), (2, 126)] _
          refine v_ast (r := 126) (hz_X12_readRest hT _ _ rfl) rfl rfl (fun ha43 hb44 hf45 => ?_)
          refine v_goto (hz_X12_readRest hT _ _ rfl) ?_
          refine v_ret0 (hi_X12_readRest_210 hT) ?_
          show vP D T N 304 132 (zset g26 126 ((((2477 + (9 * (s : Int))) + 1)).toNat) (0, 0)) [some (2, 121), some (0, (d : Int)), some (0, 1), some (0, 0), some (0, (2477 + (9 * (s : Int))))] [] _
          refine v_load (v := (2, 121)) (hi_X12_readStep_132 hT) rfl rfl ?_
          refine v_load (v := (2, 121)) (hi_X12_readStep_133 hT) rfl rfl ?_
          refine v_push (59) (hi_X12_readStep_134 hT) rfl ?_
          refine v_call (w := 2) [some (2, 121), some (0, 59)] hO (hi_X12_readStep_136 hT) rfl rfl (rb_any_isSign hT hO (fun v46 => ?_))
          · show vP D T N 304 139 (zset g26 126 ((((2477 + (9 * (s : Int))) + 1)).toNat) (0, 0)) [some (2, 121), some (0, (d : Int)), some (0, 1), some (0, 0), some (0, (2477 + (9 * (s : Int))))] [(0, v46), (2, 121)] _
            refine v_call (w := 2) [some (2, 121), some (0, v46)] hO (hi_X12_readStep_139 hT) rfl rfl (rx_mustB hT hO v46 (rE.z (r := 126) (k := ((((2477 + (9 * (s : Int))) + 1)).toNat)) (v := (0, 0)) (by decide) c26) ?_)
            · show vP D T N 304 142 (zset g26 126 ((((2477 + (9 * (s : Int))) + 1)).toNat) (0, 0)) [some (2, 121), some (0, (d : Int)), some (0, 1), some (0, 0), some (0, (2477 + (9 * (s : Int))))] [] _
              refine v_load (v := (0, 0)) (hi_X12_readStep_142 hT) rfl rfl ?_
              refine v_if (hi_X12_readStep_143 hT) (fun _ => ?_) (fun hc47 => absurd (show (0 : Int) = 0 from (by decide)) hc47)
              refine v_load (v := (0, 0)) (hi_X12_readStep_170 hT) rfl rfl ?_
              refine v_if (hi_X12_readStep_171 hT) (fun _ => ?_) (fun hc48 => absurd (show (0 : Int) = 0 from (by decide)) hc48)
              refine v_load (v := (2, 121)) (hi_X12_readStep_192 hT) rfl rfl ?_
              refine v_getR (c := 126) (r := 121) (hi_X12_readStep_193 hT) rfl rfl rfl ?_
              refine v_load (v := (0, (2477 + (9 * (s : Int))))) (hi_X12_readStep_196 hT) rfl rfl ?_
              refine v_push (8) (hi_X12_readStep_198 hT) rfl ?_
              refine v_bin (w := ((2477 + (9 * (s : Int))) + 8)) (hi_X12_readStep_200 hT) (hq_add (by omega) (by omega)) ?_
              refine v_load (v := (2, 121)) (hi_X12_readStep_201 hT) rfl rfl ?_
              refine v_getf (v := (0, ((s : Int) + 1))) (r := 121) (hi_X12_readStep_202 hT) rfl rfl (fun _ => Eq.trans (zset_ne (fun c => absurd c.1 (by decide))) ((Eq.trans (ft26 121 25 (by first | decide | exact fun c => by omega)) (Eq.trans (zset_ne (fun c => absurd c.1 (by decide))) ((Eq.trans (ft13 121 25 (by first | decide | exact fun c => by omega)) (zset_same))))))) ?_
              refine v_ast (r := 126) (hi_X12_readStep_205 hT) rfl rfl (fun ha49 hb50 hf51 => ?_)
              refine v_ret0 (hi_X12_readStep_206 hT) ?_
              exact er _ _ (by simp only [pStep, hE, hsw, hop, h15, opW15, harg, pNm, pWord, pSg, Bool.false_eq_true, (show ¬ 30 ≤ s from by omega), q26, ne_eq, not_true_eq_false, not_false_eq_true, if_true, if_false, eq_self, eb_l, eb_r, and_true, true_and, and_false, false_and]) (rE.z (r := 126) (k := ((((2477 + (9 * (s : Int))) + 8)).toNat)) (v := (0, ((s : Int) + 1))) (by decide) (rE.z (r := 126) (k := ((((2477 + (9 * (s : Int))) + 1)).toNat)) (v := (0, 0)) (by decide) c26)) (roF.z (a := 126) (b := ((((2477 + (9 * (s : Int))) + 8)).toNat)) (v := (0, ((s : Int) + 1))) (by omega) (roF.z (a := 126) (b := ((((2477 + (9 * (s : Int))) + 1)).toNat)) (v := (0, 0)) (by omega) (roF.t (roF.z (a := 126) (b := (((2477 + (9 * (s : Int)))).toNat)) (v := (0, 1)) (by omega) (roF.t (roF.z (a := 121) (b := 25) (v := (0, ((s : Int) + 1))) (by omega) roF.rfl) ft13)) ft26)))
theorem ro7_10 {D : zD} {T : zT} (hT : hTab T) (hO : vOK T) {N : Nat} {h : zH} {Q : zR → Prop} {B : Nat → Int} {n m i s d : Nat} {τ P : PT} (hv0 : zHv h) (hX : rX B n m τ i h) (e0 : h 126 0 = (0, P 0 0)) (e1 : h 126 1 = (0, P 0 1)) (e2 : h 126 2 = (0, P 0 2)) (e3 : h 126 3 = (0, P 0 3)) (hN : rNm P h) (hb : (0 ≤ P 0 0 ∧ P 0 0 ≤ 8) ∧ (0 ≤ P 0 1 ∧ P 0 1 ≤ 6) ∧ (0 ≤ P 0 2 ∧ P 0 2 ≤ 3) ∧ (0 ≤ P 0 3 ∧ P 0 3 ≤ 6)) (hs : h 121 25 = (0, (s : Int))) (bs : s ≤ 30) (bd : d ≤ 3) (h1 : τ 0 i = 1) (h3 : τ 3 i = 10) (ih : ∀ g s' d' i' a K u v j, pStep τ P s d i = .inr (s', d', i') → rX B n m τ i' g → g 121 25 = (0, a) → a = (s' : Int) → s' ≤ 30 → roF h g → pItV τ P i = .inr (K, u, v, j) → (∀ e, ¬ (2477 + 9 * s ≤ e ∧ e < 2486 + 9 * s) → g 126 e = h 126 e) → rI7 (P 0 0) g s K u v → g 126 (2485 + 9 * s) = (0, (s : Int) + 1) → Q (g, none)) (er : ∀ g e, pStep τ P s d i = .inl e → rE e g → roF h g → Q (g, none)) :
    vP D T (N + 1) 304 0 h [some (2, 121), some (0, (d : Int)), none, none, none] [] Q := by
  have h0 : τ 0 i ≠ 0 := by omega
  have hE : (bW τ 20 i) = 0 := bW_0.mpr (fun c => absurd (h3.symm.trans c.2) (by decide))
  have hsw : ¬ swd τ i < 0 := by rw [swd_v h1, h3]; decide
  have hop : opW (τ 3 i) = false := by rw [h3]; rfl
  have h15 : ¬ τ 3 i = 15 := by rw [h3]; decide
  have harg : ∀ j, oArg τ P (τ 3 i) j = (eb (pNum τ 0 (P 0 2 - 1) j) fun a => eb (pWord τ 6 a.2) fun j => eb (pCell τ (P 0 0) (P 0 1) j) fun c => .inr c.2.2) := fun j => by rw [h3]; rfl
  have hargV : ∀ j, oArV τ P 10 j = (eb (pNum τ 0 (P 0 2 - 1) j) fun a => eb (pWord τ 6 a.2) fun j => eb (pCell τ (P 0 0) (P 0 1) j) fun c => .inr (a.1, c.2.1 * 8 + c.1, c.2.2)) := fun _ => rfl
  refine v_loadS (v := (2, 121)) (hi_X12_readStep_0 hT) rfl rfl ?_
  refine v_call (w := 1) [some (2, 121)] hO (hi_X12_readStep_1 hT) rfl rfl (rx_stepK hT hO 2 hX h1 h3 (by decide) ?_)
  · show vP D T N 304 4 h [some (2, 121), some (0, (d : Int)), none, none, none] [(0, 2)] _
    refine v_store1 [some (2, 121), some (0, (d : Int)), some (0, 2), none, none] (hi_X12_readStep_4 hT) ⟨rfl, Nat.ne_of_beq_eq_false rfl⟩ (Nat.le_of_ble_eq_true rfl) rfl ?_
    refine v_load (v := (0, 2)) (hi_X12_readStep_5 hT) rfl rfl ?_
    refine v_push (7) (hi_X12_readStep_6 hT) rfl ?_
    refine v_ic (hi_X12_readStep_8 hT) (fun hc1 => absurd (show (2 : Int) = 7 from hc1) (by decide)) (fun _ => ?_)
    refine v_load (v := (0, 2)) (hi_X12_readStep_11 hT) rfl rfl ?_
    refine v_push (8) (hi_X12_readStep_12 hT) rfl ?_
    refine v_ic (hi_X12_readStep_14 hT) (fun hc2 => absurd (show (2 : Int) = 8 from hc2) (by decide)) (fun _ => ?_)
    refine v_push (0) (hi_X12_readStep_21 hT) rfl ?_
    refine v_store1 [some (2, 121), some (0, (d : Int)), some (0, 2), some (0, 0), none] (hi_X12_readStep_22 hT) ⟨rfl, Nat.ne_of_beq_eq_false rfl⟩ (Nat.le_of_ble_eq_true rfl) rfl ?_
    refine v_load (v := (0, 2)) (hi_X12_readStep_23 hT) rfl rfl ?_
    refine v_if (hi_X12_readStep_24 hT) (fun hc3 => absurd (show (2 : Int) < 0 from hc3) (by decide)) (fun _ => ?_)
    refine v_load (v := (2, 121)) (hi_X12_readStep_31 hT) rfl rfl ?_
    refine v_getf (v := (0, 0)) (r := 121) (hi_X12_readStep_32 hT) rfl rfl (fun _ => hX.b) ?_
    refine v_if (hi_X12_readStep_35 hT) (fun _ => ?_) (fun hc4 => absurd (show (0 : Int) = 0 from (by decide)) hc4)
    refine v_load (v := (2, 121)) (hi_X12_readStep_38 hT) rfl rfl ?_
    refine v_getf (v := (0, (s : Int))) (r := 121) (hi_X12_readStep_39 hT) rfl rfl (fun _ => hs) ?_
    refine v_push (30) (hi_X12_readStep_42 hT) rfl ?_
    refine v_ic (hi_X12_readStep_44 hT) (fun hc5 => ?_) (fun hc5 => ?_)
    · have hc5 : (s : Int) = 30 := hc5
      refine v_load (v := (2, 121)) (hi_X12_readStep_47 hT) rfl rfl ?_
      refine v_push (6) (hi_X12_readStep_48 hT) rfl ?_
      refine v_load (v := (2, 121)) (hi_X12_readStep_50 hT) rfl rfl ?_
      refine v_getf (v := (0, (τ 1 i))) (r := 121) (hi_X12_readStep_51 hT) rfl rfl (fun _ => hX.ps) ?_
      refine v_call (w := 3) [some (2, 121), some (0, 6), some (0, (τ 1 i))] hO (hi_X12_readStep_54 hT) rfl rfl (rx_fail hT hO 6 hX h1 (by decide) (fun g6 ft6 c6 => ?_))
      · show vP D T N 304 57 g6 [some (2, 121), some (0, (d : Int)), some (0, 2), some (0, 0), none] [] _
        refine vP_hv (fun hv6 => ?_)
        refine v_load (v := (2, 121)) (hi_X12_readStep_57 hT) rfl rfl ?_
        refine v_getf (v := (0, (eF τ i 6).1)) (r := 121) (hi_X12_readStep_58 hT) rfl rfl (fun _ => c6.1) ?_
        refine v_if (hi_X12_readStep_61 hT) (fun hc7 => absurd (show (eF τ i 6).1 = 0 from hc7) (by have := c6.2.1; omega)) (fun _ => ?_)
        refine v_load (v := (2, 121)) (hi_X12_readStep_83 hT) rfl rfl ?_
        refine v_getf (v := (0, (eF τ i 6).1)) (r := 121) (hi_X12_readStep_84 hT) rfl rfl (fun _ => c6.1) ?_
        refine v_if (hi_X12_readStep_87 hT) (fun _ => ?_) (fun hc8 => absurd (show 0 < (eF τ i 6).1 from c6.2.1) hc8)
        refine v_ret0 (hi_X12_readStep_90 hT) ?_
        exact er _ _ (by simp only [pStep, hE, hsw, hop, h15, opW15, harg, pNm, pWord, pSg, Bool.false_eq_true, (show 30 ≤ s from by omega), ne_eq, not_true_eq_false, not_false_eq_true, if_true, if_false, eq_self, eb_l, eb_r, and_true, true_and, and_false, false_and]) c6 (roF.t roF.rfl ft6)
    · have hc5 : (s : Int) ≠ 30 := hc5
      refine v_load (v := (2, 121)) (hi_X12_readStep_57 hT) rfl rfl ?_
      refine v_getf (v := (0, 0)) (r := 121) (hi_X12_readStep_58 hT) rfl rfl (fun _ => hX.b) ?_
      refine v_if (hi_X12_readStep_61 hT) (fun _ => ?_) (fun hc9 => absurd (show (0 : Int) = 0 from (by decide)) hc9)
      refine v_load (v := (0, 0)) (hi_X12_readStep_64 hT) rfl rfl ?_
      refine v_if (hi_X12_readStep_65 hT) (fun _ => ?_) (fun hc10 => absurd (show (0 : Int) = 0 from (by decide)) hc10)
      refine v_load (v := (2, 121)) (hi_X12_readStep_83 hT) rfl rfl ?_
      refine v_getf (v := (0, 0)) (r := 121) (hi_X12_readStep_84 hT) rfl rfl (fun _ => hX.b) ?_
      refine v_if (hi_X12_readStep_87 hT) (fun hc11 => absurd (show 0 < (0 : Int) from hc11) (by decide)) (fun _ => ?_)
      refine v_push (2477) (hi_X12_readStep_91 hT) rfl ?_
      refine v_push (9) (hi_X12_readStep_94 hT) rfl ?_
      refine v_load (v := (2, 121)) (hi_X12_readStep_96 hT) rfl rfl ?_
      refine v_getf (v := (0, (s : Int))) (r := 121) (hi_X12_readStep_97 hT) rfl rfl (fun _ => hs) ?_
      refine v_bin (w := (9 * (s : Int))) (hi_X12_readStep_100 hT) (hq_mul (by omega) (by omega)) ?_
      refine v_bin (w := (2477 + (9 * (s : Int)))) (hi_X12_readStep_101 hT) (hq_add (by omega) (by omega)) ?_
      refine v_store1 [some (2, 121), some (0, (d : Int)), some (0, 2), some (0, 0), some (0, (2477 + (9 * (s : Int))))] (hi_X12_readStep_102 hT) ⟨rfl, Nat.ne_of_beq_eq_false rfl⟩ (Nat.le_of_ble_eq_true rfl) rfl ?_
      refine v_load (v := (2, 121)) (hi_X12_readStep_104 hT) rfl rfl ?_
      refine v_dup (hi_X12_readStep_105 hT) (Nat.ne_of_beq_eq_false rfl) ?_
      refine v_getf (v := (0, (s : Int))) (r := 121) (hi_X12_readStep_106 hT) rfl rfl (fun _ => hs) ?_
      refine v_push (1) (hi_X12_readStep_109 hT) rfl ?_
      refine v_bin (w := ((s : Int) + 1)) (hi_X12_readStep_110 hT) (hq_add (by omega) (by omega)) ?_
      refine v_putf (r := 121) hO (hi_X12_readStep_111 hT) rfl (fun hf12 => ?_)
      refine v_load (v := (2, 121)) (hi_X12_readStep_114 hT) rfl rfl ?_
      refine v_call (w := 2) [some (2, 121), none] hO (hi_X12_readStep_115 hT) rfl rfl (rx_next hT hO (rX.zf (k := 25) (v := (0, ((s : Int) + 1))) (by decide) hX) (ne_10 h1) (ne_14 h1) (fun g13 ft13 hX13 => ?_))
      · show vP D T N 304 118 g13 [some (2, 121), some (0, (d : Int)), some (0, 2), some (0, 0), some (0, (2477 + (9 * (s : Int))))] [] _
        refine vP_hv (fun hv13 => ?_)
        refine v_load (v := (2, 121)) (hi_X12_readStep_118 hT) rfl rfl ?_
        refine v_getR (c := 126) (r := 121) (hi_X12_readStep_119 hT) rfl rfl rfl ?_
        refine v_load (v := (0, (2477 + (9 * (s : Int))))) (hi_X12_readStep_122 hT) rfl rfl ?_
        refine v_load (v := (0, 2)) (hi_X12_readStep_124 hT) rfl rfl ?_
        refine v_ast (r := 126) (hi_X12_readStep_125 hT) rfl rfl (fun ha14 hb15 hf16 => ?_)
        refine v_load (v := (2, 121)) (hi_X12_readStep_126 hT) rfl rfl ?_
        refine v_load (v := (0, (2477 + (9 * (s : Int))))) (hi_X12_readStep_127 hT) rfl rfl ?_
        refine v_call (w := 3) [some (2, 121), some (0, (2477 + (9 * (s : Int)))), none] hO (hi_X12_readStep_129 hT) rfl rfl ?_
        refine v_load (v := (2, 121)) (hi_X12_readRest_0 hT) rfl rfl ?_
        refine v_getR (c := 126) (r := 121) (hi_X12_readRest_1 hT) rfl rfl rfl ?_
        refine v_load (v := (0, (2477 + (9 * (s : Int))))) (hi_X12_readRest_4 hT) rfl rfl ?_
        refine v_aldV (v := (0, 2)) (r := 126) (hi_X12_readRest_5 hT) rfl rfl (fun _ _ _ => zset_same) (fun ha17 hb18 => ?_)
        refine v_store1 [some (2, 121), some (0, (2477 + (9 * (s : Int)))), some (0, 2)] (hi_X12_readRest_6 hT) ⟨rfl, Nat.ne_of_beq_eq_false rfl⟩ (Nat.le_of_ble_eq_true rfl) rfl ?_
        refine v_load (v := (0, 2)) (hi_X12_readRest_7 hT) rfl rfl ?_
        refine v_if (hi_X12_readRest_8 hT) (fun hc19 => absurd (show (2 : Int) = 0 from hc19) (by decide)) (fun _ => ?_)
        refine v_load (v := (0, 2)) (hi_X12_readRest_11 hT) rfl rfl ?_
        refine v_push (2) (hi_X12_readRest_12 hT) rfl ?_
        refine v_ic (hi_X12_readRest_13 hT) (fun _ => ?_) (fun hc20 => absurd (show (2 : Int) = 2 from (by decide)) hc20)
        refine v_load (v := (2, 121)) (hz_X12_readRest hT _ _ rfl) rfl rfl ?_
        refine v_getR (c := 126) (r := 121) (hz_X12_readRest hT _ _ rfl) rfl rfl rfl ?_
        refine v_load (v := (0, (2477 + (9 * (s : Int))))) (hz_X12_readRest hT _ _ rfl) rfl rfl ?_
        refine v_push (1) (hz_X12_readRest hT _ _ rfl) rfl ?_
        refine v_bin (w := ((2477 + (9 * (s : Int))) + 1)) (hz_X12_readRest hT _ _ rfl) (hq_add (by omega) (by omega)) ?_
        refine v_load (v := (2, 121)) (hz_X12_readRest hT _ _ rfl) rfl rfl ?_
        refine v_call (w := 1) [some (2, 121)] hO (hz_X12_readRest hT _ _ rfl) rfl rfl ?_
        refine v_load (v := (2, 121)) (hi_X12_readCopy_0 hT) rfl rfl ?_
        refine v_push (0) (hi_X12_readCopy_1 hT) rfl ?_
        refine v_load (v := (2, 121)) (hi_X12_readCopy_2 hT) rfl rfl ?_
        refine v_getR (c := 126) (r := 121) (hi_X12_readCopy_3 hT) rfl rfl rfl ?_
        refine v_push (2) (hi_X12_readCopy_6 hT) rfl ?_
        refine v_aldV (v := (0, (P 0 2))) (r := 126) (hi_X12_readCopy_7 hT) rfl rfl (fun _ _ _ => (Eq.trans (zset_ne (fun c => by omega)) ((Eq.trans (ft13 126 2 (by first | decide | exact fun c => by omega)) (Eq.trans (zset_ne (fun c => absurd c.1 (by decide))) (e2)))))) (fun ha21 hb22 => ?_)
        refine v_push (1) (hi_X12_readCopy_8 hT) rfl ?_
        refine v_bin (w := ((P 0 2) - 1)) (hi_X12_readCopy_9 hT) (hq_sub (by omega) (by omega)) ?_
        refine v_call (w := 4) [some (2, 121), some (0, 0), some (0, ((P 0 2) - 1)), none] hO (hi_X12_readCopy_10 hT) rfl rfl (rx_num hT hO 0 (((P 0 2) - 1)) (rX.z (r := 126) (k := (((2477 + (9 * (s : Int)))).toNat)) (v := (0, 2)) (by decide) hX13) (fun g24 x23 ft24 q24 bux23 bvx23 hX24 => ?_) (fun g25 e25 ft25 q25 c25 => ?_))
        · show vP D T N 299 13 g24 [some (2, 121)] [(0, x23)] _
          refine vP_hv (fun hv24 => ?_)
          refine v_ret (hi_X12_readCopy_13 hT) (Or.inl rfl) ?_
          show vP D T N 301 27 g24 [some (2, 121), some (0, (2477 + (9 * (s : Int)))), some (0, 2)] [(0, x23), (0, ((2477 + (9 * (s : Int))) + 1)), (2, 126)] _
          refine v_ast (r := 126) (hi_X12_readRest_27 hT) rfl rfl (fun ha26 hb27 hf28 => ?_)
          refine v_load (v := (2, 121)) (hi_X12_readRest_28 hT) rfl rfl ?_
          refine v_load (v := (2, 121)) (hi_X12_readRest_29 hT) rfl rfl ?_
          refine v_call (w := 1) [some (2, 121)] hO (hi_X12_readRest_30 hT) rfl rfl (rx_isAtWord hT hO (rX.z (r := 126) (k := ((((2477 + (9 * (s : Int))) + 1)).toNat)) (v := (0, x23)) (by decide) hX24) ?_)
          · show vP D T N 301 33 (zset g24 126 ((((2477 + (9 * (s : Int))) + 1)).toNat) (0, x23)) [some (2, 121), some (0, (2477 + (9 * (s : Int)))), some (0, 2)] [(0, (bW τ 6 (i + 1 + 1))), (2, 121)] _
            refine v_call (w := 2) [some (2, 121), some (0, (bW τ 6 (i + 1 + 1)))] hO (hi_X12_readRest_33 hT) rfl rfl (rx_must hT hO ((bW τ 6 (i + 1 + 1))) (rX.z (r := 126) (k := ((((2477 + (9 * (s : Int))) + 1)).toNat)) (v := (0, x23)) (by decide) hX24) (fun c => ⟨ne_10 (bW_y.mp c).1, ne_14 (bW_y.mp c).1⟩) (fun g30 ft30 hc29 hX30 => ?_) (fun g31 ft31 hc31 c31 => ?_))
            · show vP D T N 301 36 g30 [some (2, 121), some (0, (2477 + (9 * (s : Int)))), some (0, 2)] [] _
              refine vP_hv (fun hv30 => ?_)
              refine v_load (v := (2, 121)) (hi_X12_readRest_36 hT) rfl rfl ?_
              refine v_getR (c := 126) (r := 121) (hi_X12_readRest_37 hT) rfl rfl rfl ?_
              refine v_load (v := (0, (2477 + (9 * (s : Int))))) (hi_X12_readRest_40 hT) rfl rfl ?_
              refine v_push (2) (hi_X12_readRest_41 hT) rfl ?_
              refine v_bin (w := ((2477 + (9 * (s : Int))) + 2)) (hi_X12_readRest_42 hT) (hq_add (by omega) (by omega)) ?_
              refine v_load (v := (2, 121)) (hi_X12_readRest_43 hT) rfl rfl ?_
              refine v_push (0) (hi_X12_readRest_44 hT) rfl ?_
              refine v_call (w := 4) [some (2, 121), some (0, 0), none, none] hO (hi_X12_readRest_45 hT) rfl rfl (rx_cell_0 hT hO ((P 0 0)) ((P 0 1)) hX30 (Eq.trans (ft30 126 0 (by first | decide | exact fun c => by omega)) (Eq.trans (zset_ne (fun c => by omega)) ((Eq.trans (ft24 126 0 (by first | decide | exact fun c => by omega)) (Eq.trans (zset_ne (fun c => by omega)) ((Eq.trans (ft13 126 0 (by first | decide | exact fun c => by omega)) (Eq.trans (zset_ne (fun c => absurd c.1 (by decide))) (e0))))))))) (Eq.trans (ft30 126 1 (by first | decide | exact fun c => by omega)) (Eq.trans (zset_ne (fun c => by omega)) ((Eq.trans (ft24 126 1 (by first | decide | exact fun c => by omega)) (Eq.trans (zset_ne (fun c => by omega)) ((Eq.trans (ft13 126 1 (by first | decide | exact fun c => by omega)) (Eq.trans (zset_ne (fun c => absurd c.1 (by decide))) (e1))))))))) (by omega) (by omega) (fun g33 x32 y32 ft33 q33 bax32 bbx32 bcx32 bdx32 bex32 bfx32 hX33 => ?_) (fun g34 e34 v32 ft34 q34 bva32 bvb32 c34 => ?_))
              · show vP D T N 301 48 g33 [some (2, 121), some (0, (2477 + (9 * (s : Int)))), some (0, 2)] [(0, (P 0 0 * y32 + x32)), (0, ((2477 + (9 * (s : Int))) + 2)), (2, 126)] _
                refine vP_hv (fun hv33 => ?_)
                refine v_ast (r := 126) (hi_X12_readRest_48 hT) rfl rfl (fun ha35 hb36 hf37 => ?_)
                refine v_goto (hi_X12_readRest_49 hT) ?_
                refine v_ret0 (hi_X12_readRest_210 hT) ?_
                show vP D T N 304 132 (zset g33 126 ((((2477 + (9 * (s : Int))) + 2)).toNat) (0, (P 0 0 * y32 + x32))) [some (2, 121), some (0, (d : Int)), some (0, 2), some (0, 0), some (0, (2477 + (9 * (s : Int))))] [] _
                refine v_load (v := (2, 121)) (hi_X12_readStep_132 hT) rfl rfl ?_
                refine v_load (v := (2, 121)) (hi_X12_readStep_133 hT) rfl rfl ?_
                refine v_push (59) (hi_X12_readStep_134 hT) rfl ?_
                refine v_call (w := 2) [some (2, 121), some (0, 59)] hO (hi_X12_readStep_136 hT) rfl rfl (rx_isSign hT hO 59 (rX.z (r := 126) (k := ((((2477 + (9 * (s : Int))) + 2)).toNat)) (v := (0, (P 0 0 * y32 + x32))) (by decide) hX33) ?_)
                · show vP D T N 304 139 (zset g33 126 ((((2477 + (9 * (s : Int))) + 2)).toNat) (0, (P 0 0 * y32 + x32))) [some (2, 121), some (0, (d : Int)), some (0, 2), some (0, 0), some (0, (2477 + (9 * (s : Int))))] [(0, (bG τ 59 (i + 1 + 1 + 1 + 1 + 1))), (2, 121)] _
                  refine v_call (w := 2) [some (2, 121), some (0, (bG τ 59 (i + 1 + 1 + 1 + 1 + 1)))] hO (hi_X12_readStep_139 hT) rfl rfl (rx_must hT hO ((bG τ 59 (i + 1 + 1 + 1 + 1 + 1))) (rX.z (r := 126) (k := ((((2477 + (9 * (s : Int))) + 2)).toNat)) (v := (0, (P 0 0 * y32 + x32))) (by decide) hX33) (fun c => ⟨by have := (bG_y.mp c).1; omega, by have := (bG_y.mp c).1; omega⟩) (fun g39 ft39 hc38 hX39 => ?_) (fun g40 ft40 hc40 c40 => ?_))
                  · show vP D T N 304 142 g39 [some (2, 121), some (0, (d : Int)), some (0, 2), some (0, 0), some (0, (2477 + (9 * (s : Int))))] [] _
                    refine vP_hv (fun hv39 => ?_)
                    refine v_load (v := (0, 0)) (hi_X12_readStep_142 hT) rfl rfl ?_
                    refine v_if (hi_X12_readStep_143 hT) (fun _ => ?_) (fun hc41 => absurd (show (0 : Int) = 0 from (by decide)) hc41)
                    refine v_load (v := (0, 0)) (hi_X12_readStep_170 hT) rfl rfl ?_
                    refine v_if (hi_X12_readStep_171 hT) (fun _ => ?_) (fun hc42 => absurd (show (0 : Int) = 0 from (by decide)) hc42)
                    refine v_load (v := (2, 121)) (hi_X12_readStep_192 hT) rfl rfl ?_
                    refine v_getR (c := 126) (r := 121) (hi_X12_readStep_193 hT) rfl rfl rfl ?_
                    refine v_load (v := (0, (2477 + (9 * (s : Int))))) (hi_X12_readStep_196 hT) rfl rfl ?_
                    refine v_push (8) (hi_X12_readStep_198 hT) rfl ?_
                    refine v_bin (w := ((2477 + (9 * (s : Int))) + 8)) (hi_X12_readStep_200 hT) (hq_add (by omega) (by omega)) ?_
                    refine v_load (v := (2, 121)) (hi_X12_readStep_201 hT) rfl rfl ?_
                    refine v_getf (v := (0, ((s : Int) + 1))) (r := 121) (hi_X12_readStep_202 hT) rfl rfl (fun _ => (Eq.trans (ft39 121 25 (by first | decide | exact fun c => by omega)) (Eq.trans (zset_ne (fun c => absurd c.1 (by decide))) ((Eq.trans (ft33 121 25 (by first | decide | exact fun c => by omega)) (Eq.trans (ft30 121 25 (by first | decide | exact fun c => by omega)) (Eq.trans (zset_ne (fun c => absurd c.1 (by decide))) ((Eq.trans (ft24 121 25 (by first | decide | exact fun c => by omega)) (Eq.trans (zset_ne (fun c => absurd c.1 (by decide))) ((Eq.trans (ft13 121 25 (by first | decide | exact fun c => by omega)) (zset_same))))))))))))) ?_
                    refine v_ast (r := 126) (hi_X12_readStep_205 hT) rfl rfl (fun ha43 hb44 hf45 => ?_)
                    refine v_ret0 (hi_X12_readStep_206 hT) ?_
                    have kp_ : ∀ e, (zset g39 126 ((((2477 + (9 * (s : Int))) + 8)).toNat) (0, ((s : Int) + 1))) 126 e = (zset (zset (zset (zset h 126 (((2477 + (9 * (s : Int)))).toNat) (0, 2)) 126 ((((2477 + (9 * (s : Int))) + 1)).toNat) (0, x23)) 126 ((((2477 + (9 * (s : Int))) + 2)).toNat) (0, (P 0 0 * y32 + x32))) 126 ((((2477 + (9 * (s : Int))) + 8)).toNat) (0, ((s : Int) + 1))) 126 e := (kr_z (k := ((((2477 + (9 * (s : Int))) + 8)).toNat)) (v := (0, ((s : Int) + 1))) (kr_f (fun e => ft39 126 e (fun c => by omega)) (kr_z (k := ((((2477 + (9 * (s : Int))) + 2)).toNat)) (v := (0, (P 0 0 * y32 + x32))) (kr_f (fun e => ft33 126 e (fun c => by omega)) (kr_f (fun e => ft30 126 e (fun c => by omega)) (kr_z (k := ((((2477 + (9 * (s : Int))) + 1)).toNat)) (v := (0, x23)) (kr_f (fun e => ft24 126 e (fun c => by omega)) (kr_z (k := (((2477 + (9 * (s : Int)))).toNat)) (v := (0, 2)) (kr_f (fun e => ft13 126 e (fun c => by omega)) (kr_n (a := 121) (k := 25) (v := (0, ((s : Int) + 1))) (by decide) (fun _ => Eq.refl _)))))))))))
                    exact ih _ (s + 1) (d) (i + 1 + 1 + 1 + 1 + 1 + 1) _ 10 x23 (y32 * 8 + x32) (i + 1 + 1 + 1 + 1 + 1) (by simp only [pStep, hE, hsw, hop, h15, opW15, harg, pNm, pWord, pSg, Bool.false_eq_true, (show ¬ 30 ≤ s from by omega), q24, hc29, q33, hc38, ne_eq, not_true_eq_false, not_false_eq_true, if_true, if_false, eq_self, eb_l, eb_r, and_true, true_and, and_false, false_and]) (rX.z (r := 126) (k := ((((2477 + (9 * (s : Int))) + 8)).toNat)) (v := (0, ((s : Int) + 1))) (by decide) hX39) (Eq.trans (zset_ne (fun c => absurd c.1 (by decide))) ((Eq.trans (ft39 121 25 (by first | decide | exact fun c => by omega)) (Eq.trans (zset_ne (fun c => absurd c.1 (by decide))) ((Eq.trans (ft33 121 25 (by first | decide | exact fun c => by omega)) (Eq.trans (ft30 121 25 (by first | decide | exact fun c => by omega)) (Eq.trans (zset_ne (fun c => absurd c.1 (by decide))) ((Eq.trans (ft24 121 25 (by first | decide | exact fun c => by omega)) (Eq.trans (zset_ne (fun c => absurd c.1 (by decide))) ((Eq.trans (ft13 121 25 (by first | decide | exact fun c => by omega)) (zset_same)))))))))))))) (by omega) (by omega) (roF.z (a := 126) (b := ((((2477 + (9 * (s : Int))) + 8)).toNat)) (v := (0, ((s : Int) + 1))) (by omega) (roF.t (roF.z (a := 126) (b := ((((2477 + (9 * (s : Int))) + 2)).toNat)) (v := (0, (P 0 0 * y32 + x32))) (by omega) (roF.t (roF.t (roF.z (a := 126) (b := ((((2477 + (9 * (s : Int))) + 1)).toNat)) (v := (0, x23)) (by omega) (roF.t (roF.z (a := 126) (b := (((2477 + (9 * (s : Int)))).toNat)) (v := (0, 2)) (by omega) (roF.t (roF.z (a := 121) (b := 25) (v := (0, ((s : Int) + 1))) (by omega) roF.rfl) ft13)) ft24)) ft30) ft33)) ft39)) (pItV_a h3 (by decide) (by simp only [hargV, pWord, (show ¬ 30 ≤ s from by omega), q24, hc29, q33, hc38, ne_eq, not_true_eq_false, not_false_eq_true, if_true, if_false, eq_self, eb_l, eb_r, and_true, true_and, and_false, false_and])) (fun e_ hn_ => (kp_ e_).trans ((zset_ne (fun c => hn_ (by omega))).trans ((zset_ne (fun c => hn_ (by omega))).trans ((zset_ne (fun c => hn_ (by omega))).trans (zset_ne (fun c => hn_ (by omega))))))) ⟨((kp_ _).trans ((zset_ne (fun c => by omega)).trans ((zset_ne (fun c => by omega)).trans ((zset_ne (fun c => by omega)).trans (zset_e (by omega)))))), (fun _ => ((kp_ _).trans ((zset_ne (fun c => by omega)).trans ((zset_ne (fun c => by omega)).trans (zset_e (by omega)))))), (fun _ => (((kp_ _).trans ((zset_ne (fun c => by omega)).trans (zset_e (by omega))))).trans (congrArg (Prod.mk 0) (cell_wv (w := P 0 0) (x := x32) (y := y32) (by omega) (by omega)).symm)), (fun c => absurd c (by decide)), (fun c => absurd c (by decide)), (fun c => absurd c (by decide))⟩ ((kp_ _).trans (zset_e (by omega)))
                  · show vP D T N 304 142 g40 [some (2, 121), some (0, (d : Int)), some (0, 2), some (0, 0), some (0, (2477 + (9 * (s : Int))))] [] _
                    refine vP_hv (fun hv40 => ?_)
                    refine v_load (v := (0, 0)) (hi_X12_readStep_142 hT) rfl rfl ?_
                    refine v_if (hi_X12_readStep_143 hT) (fun _ => ?_) (fun hc46 => absurd (show (0 : Int) = 0 from (by decide)) hc46)
                    refine v_load (v := (0, 0)) (hi_X12_readStep_170 hT) rfl rfl ?_
                    refine v_if (hi_X12_readStep_171 hT) (fun _ => ?_) (fun hc47 => absurd (show (0 : Int) = 0 from (by decide)) hc47)
                    refine v_load (v := (2, 121)) (hi_X12_readStep_192 hT) rfl rfl ?_
                    refine v_getR (c := 126) (r := 121) (hi_X12_readStep_193 hT) rfl rfl rfl ?_
                    refine v_load (v := (0, (2477 + (9 * (s : Int))))) (hi_X12_readStep_196 hT) rfl rfl ?_
                    refine v_push (8) (hi_X12_readStep_198 hT) rfl ?_
                    refine v_bin (w := ((2477 + (9 * (s : Int))) + 8)) (hi_X12_readStep_200 hT) (hq_add (by omega) (by omega)) ?_
                    refine v_load (v := (2, 121)) (hi_X12_readStep_201 hT) rfl rfl ?_
                    refine v_getf (v := (0, ((s : Int) + 1))) (r := 121) (hi_X12_readStep_202 hT) rfl rfl (fun _ => (Eq.trans (ft40 121 25 (by first | decide | exact fun c => by omega)) (Eq.trans (zset_ne (fun c => absurd c.1 (by decide))) ((Eq.trans (ft33 121 25 (by first | decide | exact fun c => by omega)) (Eq.trans (ft30 121 25 (by first | decide | exact fun c => by omega)) (Eq.trans (zset_ne (fun c => absurd c.1 (by decide))) ((Eq.trans (ft24 121 25 (by first | decide | exact fun c => by omega)) (Eq.trans (zset_ne (fun c => absurd c.1 (by decide))) ((Eq.trans (ft13 121 25 (by first | decide | exact fun c => by omega)) (zset_same))))))))))))) ?_
                    refine v_ast (r := 126) (hi_X12_readStep_205 hT) rfl rfl (fun ha48 hb49 hf50 => ?_)
                    refine v_ret0 (hi_X12_readStep_206 hT) ?_
                    exact er _ _ (by simp only [pStep, hE, hsw, hop, h15, opW15, harg, pNm, pWord, pSg, Bool.false_eq_true, (show ¬ 30 ≤ s from by omega), q24, hc29, q33, hc40, ne_eq, not_true_eq_false, not_false_eq_true, if_true, if_false, eq_self, eb_l, eb_r, and_true, true_and, and_false, false_and]) (rE.z (r := 126) (k := ((((2477 + (9 * (s : Int))) + 8)).toNat)) (v := (0, ((s : Int) + 1))) (by decide) c40) (roF.z (a := 126) (b := ((((2477 + (9 * (s : Int))) + 8)).toNat)) (v := (0, ((s : Int) + 1))) (by omega) (roF.t (roF.z (a := 126) (b := ((((2477 + (9 * (s : Int))) + 2)).toNat)) (v := (0, (P 0 0 * y32 + x32))) (by omega) (roF.t (roF.t (roF.z (a := 126) (b := ((((2477 + (9 * (s : Int))) + 1)).toNat)) (v := (0, x23)) (by omega) (roF.t (roF.z (a := 126) (b := (((2477 + (9 * (s : Int)))).toNat)) (v := (0, 2)) (by omega) (roF.t (roF.z (a := 121) (b := 25) (v := (0, ((s : Int) + 1))) (by omega) roF.rfl) ft13)) ft24)) ft30) ft33)) ft40))
              · show vP D T N 301 48 g34 [some (2, 121), some (0, (2477 + (9 * (s : Int)))), some (0, 2)] [(0, v32), (0, ((2477 + (9 * (s : Int))) + 2)), (2, 126)] _
                refine vP_hv (fun hv34 => ?_)
                refine v_ast (r := 126) (hi_X12_readRest_48 hT) rfl rfl (fun ha51 hb52 hf53 => ?_)
                refine v_goto (hi_X12_readRest_49 hT) ?_
                refine v_ret0 (hi_X12_readRest_210 hT) ?_
                show vP D T N 304 132 (zset g34 126 ((((2477 + (9 * (s : Int))) + 2)).toNat) (0, v32)) [some (2, 121), some (0, (d : Int)), some (0, 2), some (0, 0), some (0, (2477 + (9 * (s : Int))))] [] _
                refine v_load (v := (2, 121)) (hi_X12_readStep_132 hT) rfl rfl ?_
                refine v_load (v := (2, 121)) (hi_X12_readStep_133 hT) rfl rfl ?_
                refine v_push (59) (hi_X12_readStep_134 hT) rfl ?_
                refine v_call (w := 2) [some (2, 121), some (0, 59)] hO (hi_X12_readStep_136 hT) rfl rfl (rb_any_isSign hT hO (fun v54 => ?_))
                · show vP D T N 304 139 (zset g34 126 ((((2477 + (9 * (s : Int))) + 2)).toNat) (0, v32)) [some (2, 121), some (0, (d : Int)), some (0, 2), some (0, 0), some (0, (2477 + (9 * (s : Int))))] [(0, v54), (2, 121)] _
                  refine v_call (w := 2) [some (2, 121), some (0, v54)] hO (hi_X12_readStep_139 hT) rfl rfl (rx_mustB hT hO v54 (rE.z (r := 126) (k := ((((2477 + (9 * (s : Int))) + 2)).toNat)) (v := (0, v32)) (by decide) c34) ?_)
                  · show vP D T N 304 142 (zset g34 126 ((((2477 + (9 * (s : Int))) + 2)).toNat) (0, v32)) [some (2, 121), some (0, (d : Int)), some (0, 2), some (0, 0), some (0, (2477 + (9 * (s : Int))))] [] _
                    refine v_load (v := (0, 0)) (hi_X12_readStep_142 hT) rfl rfl ?_
                    refine v_if (hi_X12_readStep_143 hT) (fun _ => ?_) (fun hc55 => absurd (show (0 : Int) = 0 from (by decide)) hc55)
                    refine v_load (v := (0, 0)) (hi_X12_readStep_170 hT) rfl rfl ?_
                    refine v_if (hi_X12_readStep_171 hT) (fun _ => ?_) (fun hc56 => absurd (show (0 : Int) = 0 from (by decide)) hc56)
                    refine v_load (v := (2, 121)) (hi_X12_readStep_192 hT) rfl rfl ?_
                    refine v_getR (c := 126) (r := 121) (hi_X12_readStep_193 hT) rfl rfl rfl ?_
                    refine v_load (v := (0, (2477 + (9 * (s : Int))))) (hi_X12_readStep_196 hT) rfl rfl ?_
                    refine v_push (8) (hi_X12_readStep_198 hT) rfl ?_
                    refine v_bin (w := ((2477 + (9 * (s : Int))) + 8)) (hi_X12_readStep_200 hT) (hq_add (by omega) (by omega)) ?_
                    refine v_load (v := (2, 121)) (hi_X12_readStep_201 hT) rfl rfl ?_
                    refine v_getf (v := (0, ((s : Int) + 1))) (r := 121) (hi_X12_readStep_202 hT) rfl rfl (fun _ => Eq.trans (zset_ne (fun c => absurd c.1 (by decide))) ((Eq.trans (ft34 121 25 (by first | decide | exact fun c => by omega)) (Eq.trans (ft30 121 25 (by first | decide | exact fun c => by omega)) (Eq.trans (zset_ne (fun c => absurd c.1 (by decide))) ((Eq.trans (ft24 121 25 (by first | decide | exact fun c => by omega)) (Eq.trans (zset_ne (fun c => absurd c.1 (by decide))) ((Eq.trans (ft13 121 25 (by first | decide | exact fun c => by omega)) (zset_same))))))))))) ?_
                    refine v_ast (r := 126) (hi_X12_readStep_205 hT) rfl rfl (fun ha57 hb58 hf59 => ?_)
                    refine v_ret0 (hi_X12_readStep_206 hT) ?_
                    exact er _ _ (by simp only [pStep, hE, hsw, hop, h15, opW15, harg, pNm, pWord, pSg, Bool.false_eq_true, (show ¬ 30 ≤ s from by omega), q24, hc29, q34, ne_eq, not_true_eq_false, not_false_eq_true, if_true, if_false, eq_self, eb_l, eb_r, and_true, true_and, and_false, false_and]) (rE.z (r := 126) (k := ((((2477 + (9 * (s : Int))) + 8)).toNat)) (v := (0, ((s : Int) + 1))) (by decide) (rE.z (r := 126) (k := ((((2477 + (9 * (s : Int))) + 2)).toNat)) (v := (0, v32)) (by decide) c34)) (roF.z (a := 126) (b := ((((2477 + (9 * (s : Int))) + 8)).toNat)) (v := (0, ((s : Int) + 1))) (by omega) (roF.z (a := 126) (b := ((((2477 + (9 * (s : Int))) + 2)).toNat)) (v := (0, v32)) (by omega) (roF.t (roF.t (roF.z (a := 126) (b := ((((2477 + (9 * (s : Int))) + 1)).toNat)) (v := (0, x23)) (by omega) (roF.t (roF.z (a := 126) (b := (((2477 + (9 * (s : Int)))).toNat)) (v := (0, 2)) (by omega) (roF.t (roF.z (a := 121) (b := 25) (v := (0, ((s : Int) + 1))) (by omega) roF.rfl) ft13)) ft24)) ft30) ft34)))
            · show vP D T N 301 36 g31 [some (2, 121), some (0, (2477 + (9 * (s : Int)))), some (0, 2)] [] _
              refine vP_hv (fun hv31 => ?_)
              refine v_load (v := (2, 121)) (hi_X12_readRest_36 hT) rfl rfl ?_
              refine v_getR (c := 126) (r := 121) (hi_X12_readRest_37 hT) rfl rfl rfl ?_
              refine v_load (v := (0, (2477 + (9 * (s : Int))))) (hi_X12_readRest_40 hT) rfl rfl ?_
              refine v_push (2) (hi_X12_readRest_41 hT) rfl ?_
              refine v_bin (w := ((2477 + (9 * (s : Int))) + 2)) (hi_X12_readRest_42 hT) (hq_add (by omega) (by omega)) ?_
              refine v_load (v := (2, 121)) (hi_X12_readRest_43 hT) rfl rfl ?_
              refine v_push (0) (hi_X12_readRest_44 hT) rfl ?_
              refine v_call (w := 4) [some (2, 121), some (0, 0), none, none] hO (hi_X12_readRest_45 hT) rfl rfl (rx_cellB_0 hT hO ((P 0 0)) ((P 0 1)) c31 (Eq.trans (ft31 126 0 (by first | decide | exact fun c => by omega)) (Eq.trans (zset_ne (fun c => by omega)) ((Eq.trans (ft24 126 0 (by first | decide | exact fun c => by omega)) (Eq.trans (zset_ne (fun c => by omega)) ((Eq.trans (ft13 126 0 (by first | decide | exact fun c => by omega)) (Eq.trans (zset_ne (fun c => absurd c.1 (by decide))) (e0))))))))) (Eq.trans (ft31 126 1 (by first | decide | exact fun c => by omega)) (Eq.trans (zset_ne (fun c => by omega)) ((Eq.trans (ft24 126 1 (by first | decide | exact fun c => by omega)) (Eq.trans (zset_ne (fun c => by omega)) ((Eq.trans (ft13 126 1 (by first | decide | exact fun c => by omega)) (Eq.trans (zset_ne (fun c => absurd c.1 (by decide))) (e1))))))))) (by omega) (by omega) (fun v60 bva60 bvb60 => ?_))
              · show vP D T N 301 48 g31 [some (2, 121), some (0, (2477 + (9 * (s : Int)))), some (0, 2)] [(0, v60), (0, ((2477 + (9 * (s : Int))) + 2)), (2, 126)] _
                refine v_ast (r := 126) (hi_X12_readRest_48 hT) rfl rfl (fun ha61 hb62 hf63 => ?_)
                refine v_goto (hi_X12_readRest_49 hT) ?_
                refine v_ret0 (hi_X12_readRest_210 hT) ?_
                show vP D T N 304 132 (zset g31 126 ((((2477 + (9 * (s : Int))) + 2)).toNat) (0, v60)) [some (2, 121), some (0, (d : Int)), some (0, 2), some (0, 0), some (0, (2477 + (9 * (s : Int))))] [] _
                refine v_load (v := (2, 121)) (hi_X12_readStep_132 hT) rfl rfl ?_
                refine v_load (v := (2, 121)) (hi_X12_readStep_133 hT) rfl rfl ?_
                refine v_push (59) (hi_X12_readStep_134 hT) rfl ?_
                refine v_call (w := 2) [some (2, 121), some (0, 59)] hO (hi_X12_readStep_136 hT) rfl rfl (rb_any_isSign hT hO (fun v64 => ?_))
                · show vP D T N 304 139 (zset g31 126 ((((2477 + (9 * (s : Int))) + 2)).toNat) (0, v60)) [some (2, 121), some (0, (d : Int)), some (0, 2), some (0, 0), some (0, (2477 + (9 * (s : Int))))] [(0, v64), (2, 121)] _
                  refine v_call (w := 2) [some (2, 121), some (0, v64)] hO (hi_X12_readStep_139 hT) rfl rfl (rx_mustB hT hO v64 (rE.z (r := 126) (k := ((((2477 + (9 * (s : Int))) + 2)).toNat)) (v := (0, v60)) (by decide) c31) ?_)
                  · show vP D T N 304 142 (zset g31 126 ((((2477 + (9 * (s : Int))) + 2)).toNat) (0, v60)) [some (2, 121), some (0, (d : Int)), some (0, 2), some (0, 0), some (0, (2477 + (9 * (s : Int))))] [] _
                    refine v_load (v := (0, 0)) (hi_X12_readStep_142 hT) rfl rfl ?_
                    refine v_if (hi_X12_readStep_143 hT) (fun _ => ?_) (fun hc65 => absurd (show (0 : Int) = 0 from (by decide)) hc65)
                    refine v_load (v := (0, 0)) (hi_X12_readStep_170 hT) rfl rfl ?_
                    refine v_if (hi_X12_readStep_171 hT) (fun _ => ?_) (fun hc66 => absurd (show (0 : Int) = 0 from (by decide)) hc66)
                    refine v_load (v := (2, 121)) (hi_X12_readStep_192 hT) rfl rfl ?_
                    refine v_getR (c := 126) (r := 121) (hi_X12_readStep_193 hT) rfl rfl rfl ?_
                    refine v_load (v := (0, (2477 + (9 * (s : Int))))) (hi_X12_readStep_196 hT) rfl rfl ?_
                    refine v_push (8) (hi_X12_readStep_198 hT) rfl ?_
                    refine v_bin (w := ((2477 + (9 * (s : Int))) + 8)) (hi_X12_readStep_200 hT) (hq_add (by omega) (by omega)) ?_
                    refine v_load (v := (2, 121)) (hi_X12_readStep_201 hT) rfl rfl ?_
                    refine v_getf (v := (0, ((s : Int) + 1))) (r := 121) (hi_X12_readStep_202 hT) rfl rfl (fun _ => Eq.trans (zset_ne (fun c => absurd c.1 (by decide))) ((Eq.trans (ft31 121 25 (by first | decide | exact fun c => by omega)) (Eq.trans (zset_ne (fun c => absurd c.1 (by decide))) ((Eq.trans (ft24 121 25 (by first | decide | exact fun c => by omega)) (Eq.trans (zset_ne (fun c => absurd c.1 (by decide))) ((Eq.trans (ft13 121 25 (by first | decide | exact fun c => by omega)) (zset_same)))))))))) ?_
                    refine v_ast (r := 126) (hi_X12_readStep_205 hT) rfl rfl (fun ha67 hb68 hf69 => ?_)
                    refine v_ret0 (hi_X12_readStep_206 hT) ?_
                    exact er _ _ (by simp only [pStep, hE, hsw, hop, h15, opW15, harg, pNm, pWord, pSg, Bool.false_eq_true, (show ¬ 30 ≤ s from by omega), q24, hc31, ne_eq, not_true_eq_false, not_false_eq_true, if_true, if_false, eq_self, eb_l, eb_r, and_true, true_and, and_false, false_and]) (rE.z (r := 126) (k := ((((2477 + (9 * (s : Int))) + 8)).toNat)) (v := (0, ((s : Int) + 1))) (by decide) (rE.z (r := 126) (k := ((((2477 + (9 * (s : Int))) + 2)).toNat)) (v := (0, v60)) (by decide) c31)) (roF.z (a := 126) (b := ((((2477 + (9 * (s : Int))) + 8)).toNat)) (v := (0, ((s : Int) + 1))) (by omega) (roF.z (a := 126) (b := ((((2477 + (9 * (s : Int))) + 2)).toNat)) (v := (0, v60)) (by omega) (roF.t (roF.z (a := 126) (b := ((((2477 + (9 * (s : Int))) + 1)).toNat)) (v := (0, x23)) (by omega) (roF.t (roF.z (a := 126) (b := (((2477 + (9 * (s : Int)))).toNat)) (v := (0, 2)) (by omega) (roF.t (roF.z (a := 121) (b := 25) (v := (0, ((s : Int) + 1))) (by omega) roF.rfl) ft13)) ft24)) ft31)))
        · show vP D T N 299 13 g25 [some (2, 121)] [(0, 0)] _
          refine vP_hv (fun hv25 => ?_)
          refine v_ret (hi_X12_readCopy_13 hT) (Or.inl rfl) ?_
          show vP D T N 301 27 g25 [some (2, 121), some (0, (2477 + (9 * (s : Int)))), some (0, 2)] [(0, 0), (0, ((2477 + (9 * (s : Int))) + 1)), (2, 126)] _
          refine v_ast (r := 126) (hi_X12_readRest_27 hT) rfl rfl (fun ha70 hb71 hf72 => ?_)
          refine v_load (v := (2, 121)) (hi_X12_readRest_28 hT) rfl rfl ?_
          refine v_load (v := (2, 121)) (hi_X12_readRest_29 hT) rfl rfl ?_
          refine v_call (w := 1) [some (2, 121)] hO (hi_X12_readRest_30 hT) rfl rfl (rb_any_isAtWord hT hO (fun v73 => ?_))
          · show vP D T N 301 33 (zset g25 126 ((((2477 + (9 * (s : Int))) + 1)).toNat) (0, 0)) [some (2, 121), some (0, (2477 + (9 * (s : Int)))), some (0, 2)] [(0, v73), (2, 121)] _
            refine v_call (w := 2) [some (2, 121), some (0, v73)] hO (hi_X12_readRest_33 hT) rfl rfl (rx_mustB hT hO v73 (rE.z (r := 126) (k := ((((2477 + (9 * (s : Int))) + 1)).toNat)) (v := (0, 0)) (by decide) c25) ?_)
            · show vP D T N 301 36 (zset g25 126 ((((2477 + (9 * (s : Int))) + 1)).toNat) (0, 0)) [some (2, 121), some (0, (2477 + (9 * (s : Int)))), some (0, 2)] [] _
              refine v_load (v := (2, 121)) (hi_X12_readRest_36 hT) rfl rfl ?_
              refine v_getR (c := 126) (r := 121) (hi_X12_readRest_37 hT) rfl rfl rfl ?_
              refine v_load (v := (0, (2477 + (9 * (s : Int))))) (hi_X12_readRest_40 hT) rfl rfl ?_
              refine v_push (2) (hi_X12_readRest_41 hT) rfl ?_
              refine v_bin (w := ((2477 + (9 * (s : Int))) + 2)) (hi_X12_readRest_42 hT) (hq_add (by omega) (by omega)) ?_
              refine v_load (v := (2, 121)) (hi_X12_readRest_43 hT) rfl rfl ?_
              refine v_push (0) (hi_X12_readRest_44 hT) rfl ?_
              refine v_call (w := 4) [some (2, 121), some (0, 0), none, none] hO (hi_X12_readRest_45 hT) rfl rfl (rx_cellB_0 hT hO ((P 0 0)) ((P 0 1)) (rE.z (r := 126) (k := ((((2477 + (9 * (s : Int))) + 1)).toNat)) (v := (0, 0)) (by decide) c25) (Eq.trans (zset_ne (fun c => by omega)) ((Eq.trans (ft25 126 0 (by first | decide | exact fun c => by omega)) (Eq.trans (zset_ne (fun c => by omega)) ((Eq.trans (ft13 126 0 (by first | decide | exact fun c => by omega)) (Eq.trans (zset_ne (fun c => absurd c.1 (by decide))) (e0)))))))) (Eq.trans (zset_ne (fun c => by omega)) ((Eq.trans (ft25 126 1 (by first | decide | exact fun c => by omega)) (Eq.trans (zset_ne (fun c => by omega)) ((Eq.trans (ft13 126 1 (by first | decide | exact fun c => by omega)) (Eq.trans (zset_ne (fun c => absurd c.1 (by decide))) (e1)))))))) (by omega) (by omega) (fun v74 bva74 bvb74 => ?_))
              · show vP D T N 301 48 (zset g25 126 ((((2477 + (9 * (s : Int))) + 1)).toNat) (0, 0)) [some (2, 121), some (0, (2477 + (9 * (s : Int)))), some (0, 2)] [(0, v74), (0, ((2477 + (9 * (s : Int))) + 2)), (2, 126)] _
                refine v_ast (r := 126) (hi_X12_readRest_48 hT) rfl rfl (fun ha75 hb76 hf77 => ?_)
                refine v_goto (hi_X12_readRest_49 hT) ?_
                refine v_ret0 (hi_X12_readRest_210 hT) ?_
                show vP D T N 304 132 (zset (zset g25 126 ((((2477 + (9 * (s : Int))) + 1)).toNat) (0, 0)) 126 ((((2477 + (9 * (s : Int))) + 2)).toNat) (0, v74)) [some (2, 121), some (0, (d : Int)), some (0, 2), some (0, 0), some (0, (2477 + (9 * (s : Int))))] [] _
                refine v_load (v := (2, 121)) (hi_X12_readStep_132 hT) rfl rfl ?_
                refine v_load (v := (2, 121)) (hi_X12_readStep_133 hT) rfl rfl ?_
                refine v_push (59) (hi_X12_readStep_134 hT) rfl ?_
                refine v_call (w := 2) [some (2, 121), some (0, 59)] hO (hi_X12_readStep_136 hT) rfl rfl (rb_any_isSign hT hO (fun v78 => ?_))
                · show vP D T N 304 139 (zset (zset g25 126 ((((2477 + (9 * (s : Int))) + 1)).toNat) (0, 0)) 126 ((((2477 + (9 * (s : Int))) + 2)).toNat) (0, v74)) [some (2, 121), some (0, (d : Int)), some (0, 2), some (0, 0), some (0, (2477 + (9 * (s : Int))))] [(0, v78), (2, 121)] _
                  refine v_call (w := 2) [some (2, 121), some (0, v78)] hO (hi_X12_readStep_139 hT) rfl rfl (rx_mustB hT hO v78 (rE.z (r := 126) (k := ((((2477 + (9 * (s : Int))) + 2)).toNat)) (v := (0, v74)) (by decide) (rE.z (r := 126) (k := ((((2477 + (9 * (s : Int))) + 1)).toNat)) (v := (0, 0)) (by decide) c25)) ?_)
                  · show vP D T N 304 142 (zset (zset g25 126 ((((2477 + (9 * (s : Int))) + 1)).toNat) (0, 0)) 126 ((((2477 + (9 * (s : Int))) + 2)).toNat) (0, v74)) [some (2, 121), some (0, (d : Int)), some (0, 2), some (0, 0), some (0, (2477 + (9 * (s : Int))))] [] _
                    refine v_load (v := (0, 0)) (hi_X12_readStep_142 hT) rfl rfl ?_
                    refine v_if (hi_X12_readStep_143 hT) (fun _ => ?_) (fun hc79 => absurd (show (0 : Int) = 0 from (by decide)) hc79)
                    refine v_load (v := (0, 0)) (hi_X12_readStep_170 hT) rfl rfl ?_
                    refine v_if (hi_X12_readStep_171 hT) (fun _ => ?_) (fun hc80 => absurd (show (0 : Int) = 0 from (by decide)) hc80)
                    refine v_load (v := (2, 121)) (hi_X12_readStep_192 hT) rfl rfl ?_
                    refine v_getR (c := 126) (r := 121) (hi_X12_readStep_193 hT) rfl rfl rfl ?_
                    refine v_load (v := (0, (2477 + (9 * (s : Int))))) (hi_X12_readStep_196 hT) rfl rfl ?_
                    refine v_push (8) (hi_X12_readStep_198 hT) rfl ?_
                    refine v_bin (w := ((2477 + (9 * (s : Int))) + 8)) (hi_X12_readStep_200 hT) (hq_add (by omega) (by omega)) ?_
                    refine v_load (v := (2, 121)) (hi_X12_readStep_201 hT) rfl rfl ?_
                    refine v_getf (v := (0, ((s : Int) + 1))) (r := 121) (hi_X12_readStep_202 hT) rfl rfl (fun _ => Eq.trans (Eq.trans (zset_ne (fun c => absurd c.1 (by decide))) (zset_ne (fun c => absurd c.1 (by decide)))) ((Eq.trans (ft25 121 25 (by first | decide | exact fun c => by omega)) (Eq.trans (zset_ne (fun c => absurd c.1 (by decide))) ((Eq.trans (ft13 121 25 (by first | decide | exact fun c => by omega)) (zset_same))))))) ?_
                    refine v_ast (r := 126) (hi_X12_readStep_205 hT) rfl rfl (fun ha81 hb82 hf83 => ?_)
                    refine v_ret0 (hi_X12_readStep_206 hT) ?_
                    exact er _ _ (by simp only [pStep, hE, hsw, hop, h15, opW15, harg, pNm, pWord, pSg, Bool.false_eq_true, (show ¬ 30 ≤ s from by omega), q25, ne_eq, not_true_eq_false, not_false_eq_true, if_true, if_false, eq_self, eb_l, eb_r, and_true, true_and, and_false, false_and]) (rE.z (r := 126) (k := ((((2477 + (9 * (s : Int))) + 8)).toNat)) (v := (0, ((s : Int) + 1))) (by decide) (rE.z (r := 126) (k := ((((2477 + (9 * (s : Int))) + 2)).toNat)) (v := (0, v74)) (by decide) (rE.z (r := 126) (k := ((((2477 + (9 * (s : Int))) + 1)).toNat)) (v := (0, 0)) (by decide) c25))) (roF.z (a := 126) (b := ((((2477 + (9 * (s : Int))) + 8)).toNat)) (v := (0, ((s : Int) + 1))) (by omega) (roF.z (a := 126) (b := ((((2477 + (9 * (s : Int))) + 2)).toNat)) (v := (0, v74)) (by omega) (roF.z (a := 126) (b := ((((2477 + (9 * (s : Int))) + 1)).toNat)) (v := (0, 0)) (by omega) (roF.t (roF.z (a := 126) (b := (((2477 + (9 * (s : Int)))).toNat)) (v := (0, 2)) (by omega) (roF.t (roF.z (a := 121) (b := 25) (v := (0, ((s : Int) + 1))) (by omega) roF.rfl) ft13)) ft25))))
theorem ro7_11 {D : zD} {T : zT} (hT : hTab T) (hO : vOK T) {N : Nat} {h : zH} {Q : zR → Prop} {B : Nat → Int} {n m i s d : Nat} {τ P : PT} (hv0 : zHv h) (hX : rX B n m τ i h) (e0 : h 126 0 = (0, P 0 0)) (e1 : h 126 1 = (0, P 0 1)) (e2 : h 126 2 = (0, P 0 2)) (e3 : h 126 3 = (0, P 0 3)) (hN : rNm P h) (hb : (0 ≤ P 0 0 ∧ P 0 0 ≤ 8) ∧ (0 ≤ P 0 1 ∧ P 0 1 ≤ 6) ∧ (0 ≤ P 0 2 ∧ P 0 2 ≤ 3) ∧ (0 ≤ P 0 3 ∧ P 0 3 ≤ 6)) (hs : h 121 25 = (0, (s : Int))) (bs : s ≤ 30) (bd : d ≤ 3) (h1 : τ 0 i = 1) (h3 : τ 3 i = 11) (ih : ∀ g s' d' i' a K u v j, pStep τ P s d i = .inr (s', d', i') → rX B n m τ i' g → g 121 25 = (0, a) → a = (s' : Int) → s' ≤ 30 → roF h g → pItV τ P i = .inr (K, u, v, j) → (∀ e, ¬ (2477 + 9 * s ≤ e ∧ e < 2486 + 9 * s) → g 126 e = h 126 e) → rI7 (P 0 0) g s K u v → g 126 (2485 + 9 * s) = (0, (s : Int) + 1) → Q (g, none)) (er : ∀ g e, pStep τ P s d i = .inl e → rE e g → roF h g → Q (g, none)) :
    vP D T (N + 1) 304 0 h [some (2, 121), some (0, (d : Int)), none, none, none] [] Q := by
  have h0 : τ 0 i ≠ 0 := by omega
  have hE : (bW τ 20 i) = 0 := bW_0.mpr (fun c => absurd (h3.symm.trans c.2) (by decide))
  have hsw : ¬ swd τ i < 0 := by rw [swd_v h1, h3]; decide
  have hop : opW (τ 3 i) = false := by rw [h3]; rfl
  have h15 : ¬ τ 3 i = 15 := by rw [h3]; decide
  have harg : ∀ j, oArg τ P (τ 3 i) j = (eb (pNum τ 0 (P 0 2 - 1) j) fun a => eb (pWord τ 7 a.2) fun j => eb (pNum τ 0 (P 0 2 - 1) j) fun b => .inr b.2) := fun j => by rw [h3]; rfl
  have hargV : ∀ j, oArV τ P 11 j = (eb (pNum τ 0 (P 0 2 - 1) j) fun a => eb (pWord τ 7 a.2) fun j => eb (pNum τ 0 (P 0 2 - 1) j) fun b => .inr (a.1, b.1, b.2)) := fun _ => rfl
  refine v_loadS (v := (2, 121)) (hi_X12_readStep_0 hT) rfl rfl ?_
  refine v_call (w := 1) [some (2, 121)] hO (hi_X12_readStep_1 hT) rfl rfl (rx_stepK hT hO 3 hX h1 h3 (by decide) ?_)
  · show vP D T N 304 4 h [some (2, 121), some (0, (d : Int)), none, none, none] [(0, 3)] _
    refine v_store1 [some (2, 121), some (0, (d : Int)), some (0, 3), none, none] (hi_X12_readStep_4 hT) ⟨rfl, Nat.ne_of_beq_eq_false rfl⟩ (Nat.le_of_ble_eq_true rfl) rfl ?_
    refine v_load (v := (0, 3)) (hi_X12_readStep_5 hT) rfl rfl ?_
    refine v_push (7) (hi_X12_readStep_6 hT) rfl ?_
    refine v_ic (hi_X12_readStep_8 hT) (fun hc1 => absurd (show (3 : Int) = 7 from hc1) (by decide)) (fun _ => ?_)
    refine v_load (v := (0, 3)) (hi_X12_readStep_11 hT) rfl rfl ?_
    refine v_push (8) (hi_X12_readStep_12 hT) rfl ?_
    refine v_ic (hi_X12_readStep_14 hT) (fun hc2 => absurd (show (3 : Int) = 8 from hc2) (by decide)) (fun _ => ?_)
    refine v_push (0) (hi_X12_readStep_21 hT) rfl ?_
    refine v_store1 [some (2, 121), some (0, (d : Int)), some (0, 3), some (0, 0), none] (hi_X12_readStep_22 hT) ⟨rfl, Nat.ne_of_beq_eq_false rfl⟩ (Nat.le_of_ble_eq_true rfl) rfl ?_
    refine v_load (v := (0, 3)) (hi_X12_readStep_23 hT) rfl rfl ?_
    refine v_if (hi_X12_readStep_24 hT) (fun hc3 => absurd (show (3 : Int) < 0 from hc3) (by decide)) (fun _ => ?_)
    refine v_load (v := (2, 121)) (hi_X12_readStep_31 hT) rfl rfl ?_
    refine v_getf (v := (0, 0)) (r := 121) (hi_X12_readStep_32 hT) rfl rfl (fun _ => hX.b) ?_
    refine v_if (hi_X12_readStep_35 hT) (fun _ => ?_) (fun hc4 => absurd (show (0 : Int) = 0 from (by decide)) hc4)
    refine v_load (v := (2, 121)) (hi_X12_readStep_38 hT) rfl rfl ?_
    refine v_getf (v := (0, (s : Int))) (r := 121) (hi_X12_readStep_39 hT) rfl rfl (fun _ => hs) ?_
    refine v_push (30) (hi_X12_readStep_42 hT) rfl ?_
    refine v_ic (hi_X12_readStep_44 hT) (fun hc5 => ?_) (fun hc5 => ?_)
    · have hc5 : (s : Int) = 30 := hc5
      refine v_load (v := (2, 121)) (hi_X12_readStep_47 hT) rfl rfl ?_
      refine v_push (6) (hi_X12_readStep_48 hT) rfl ?_
      refine v_load (v := (2, 121)) (hi_X12_readStep_50 hT) rfl rfl ?_
      refine v_getf (v := (0, (τ 1 i))) (r := 121) (hi_X12_readStep_51 hT) rfl rfl (fun _ => hX.ps) ?_
      refine v_call (w := 3) [some (2, 121), some (0, 6), some (0, (τ 1 i))] hO (hi_X12_readStep_54 hT) rfl rfl (rx_fail hT hO 6 hX h1 (by decide) (fun g6 ft6 c6 => ?_))
      · show vP D T N 304 57 g6 [some (2, 121), some (0, (d : Int)), some (0, 3), some (0, 0), none] [] _
        refine vP_hv (fun hv6 => ?_)
        refine v_load (v := (2, 121)) (hi_X12_readStep_57 hT) rfl rfl ?_
        refine v_getf (v := (0, (eF τ i 6).1)) (r := 121) (hi_X12_readStep_58 hT) rfl rfl (fun _ => c6.1) ?_
        refine v_if (hi_X12_readStep_61 hT) (fun hc7 => absurd (show (eF τ i 6).1 = 0 from hc7) (by have := c6.2.1; omega)) (fun _ => ?_)
        refine v_load (v := (2, 121)) (hi_X12_readStep_83 hT) rfl rfl ?_
        refine v_getf (v := (0, (eF τ i 6).1)) (r := 121) (hi_X12_readStep_84 hT) rfl rfl (fun _ => c6.1) ?_
        refine v_if (hi_X12_readStep_87 hT) (fun _ => ?_) (fun hc8 => absurd (show 0 < (eF τ i 6).1 from c6.2.1) hc8)
        refine v_ret0 (hi_X12_readStep_90 hT) ?_
        exact er _ _ (by simp only [pStep, hE, hsw, hop, h15, opW15, harg, pNm, pWord, pSg, Bool.false_eq_true, (show 30 ≤ s from by omega), ne_eq, not_true_eq_false, not_false_eq_true, if_true, if_false, eq_self, eb_l, eb_r, and_true, true_and, and_false, false_and]) c6 (roF.t roF.rfl ft6)
    · have hc5 : (s : Int) ≠ 30 := hc5
      refine v_load (v := (2, 121)) (hi_X12_readStep_57 hT) rfl rfl ?_
      refine v_getf (v := (0, 0)) (r := 121) (hi_X12_readStep_58 hT) rfl rfl (fun _ => hX.b) ?_
      refine v_if (hi_X12_readStep_61 hT) (fun _ => ?_) (fun hc9 => absurd (show (0 : Int) = 0 from (by decide)) hc9)
      refine v_load (v := (0, 0)) (hi_X12_readStep_64 hT) rfl rfl ?_
      refine v_if (hi_X12_readStep_65 hT) (fun _ => ?_) (fun hc10 => absurd (show (0 : Int) = 0 from (by decide)) hc10)
      refine v_load (v := (2, 121)) (hi_X12_readStep_83 hT) rfl rfl ?_
      refine v_getf (v := (0, 0)) (r := 121) (hi_X12_readStep_84 hT) rfl rfl (fun _ => hX.b) ?_
      refine v_if (hi_X12_readStep_87 hT) (fun hc11 => absurd (show 0 < (0 : Int) from hc11) (by decide)) (fun _ => ?_)
      refine v_push (2477) (hi_X12_readStep_91 hT) rfl ?_
      refine v_push (9) (hi_X12_readStep_94 hT) rfl ?_
      refine v_load (v := (2, 121)) (hi_X12_readStep_96 hT) rfl rfl ?_
      refine v_getf (v := (0, (s : Int))) (r := 121) (hi_X12_readStep_97 hT) rfl rfl (fun _ => hs) ?_
      refine v_bin (w := (9 * (s : Int))) (hi_X12_readStep_100 hT) (hq_mul (by omega) (by omega)) ?_
      refine v_bin (w := (2477 + (9 * (s : Int)))) (hi_X12_readStep_101 hT) (hq_add (by omega) (by omega)) ?_
      refine v_store1 [some (2, 121), some (0, (d : Int)), some (0, 3), some (0, 0), some (0, (2477 + (9 * (s : Int))))] (hi_X12_readStep_102 hT) ⟨rfl, Nat.ne_of_beq_eq_false rfl⟩ (Nat.le_of_ble_eq_true rfl) rfl ?_
      refine v_load (v := (2, 121)) (hi_X12_readStep_104 hT) rfl rfl ?_
      refine v_dup (hi_X12_readStep_105 hT) (Nat.ne_of_beq_eq_false rfl) ?_
      refine v_getf (v := (0, (s : Int))) (r := 121) (hi_X12_readStep_106 hT) rfl rfl (fun _ => hs) ?_
      refine v_push (1) (hi_X12_readStep_109 hT) rfl ?_
      refine v_bin (w := ((s : Int) + 1)) (hi_X12_readStep_110 hT) (hq_add (by omega) (by omega)) ?_
      refine v_putf (r := 121) hO (hi_X12_readStep_111 hT) rfl (fun hf12 => ?_)
      refine v_load (v := (2, 121)) (hi_X12_readStep_114 hT) rfl rfl ?_
      refine v_call (w := 2) [some (2, 121), none] hO (hi_X12_readStep_115 hT) rfl rfl (rx_next hT hO (rX.zf (k := 25) (v := (0, ((s : Int) + 1))) (by decide) hX) (ne_10 h1) (ne_14 h1) (fun g13 ft13 hX13 => ?_))
      · show vP D T N 304 118 g13 [some (2, 121), some (0, (d : Int)), some (0, 3), some (0, 0), some (0, (2477 + (9 * (s : Int))))] [] _
        refine vP_hv (fun hv13 => ?_)
        refine v_load (v := (2, 121)) (hi_X12_readStep_118 hT) rfl rfl ?_
        refine v_getR (c := 126) (r := 121) (hi_X12_readStep_119 hT) rfl rfl rfl ?_
        refine v_load (v := (0, (2477 + (9 * (s : Int))))) (hi_X12_readStep_122 hT) rfl rfl ?_
        refine v_load (v := (0, 3)) (hi_X12_readStep_124 hT) rfl rfl ?_
        refine v_ast (r := 126) (hi_X12_readStep_125 hT) rfl rfl (fun ha14 hb15 hf16 => ?_)
        refine v_load (v := (2, 121)) (hi_X12_readStep_126 hT) rfl rfl ?_
        refine v_load (v := (0, (2477 + (9 * (s : Int))))) (hi_X12_readStep_127 hT) rfl rfl ?_
        refine v_call (w := 3) [some (2, 121), some (0, (2477 + (9 * (s : Int)))), none] hO (hi_X12_readStep_129 hT) rfl rfl ?_
        refine v_load (v := (2, 121)) (hi_X12_readRest_0 hT) rfl rfl ?_
        refine v_getR (c := 126) (r := 121) (hi_X12_readRest_1 hT) rfl rfl rfl ?_
        refine v_load (v := (0, (2477 + (9 * (s : Int))))) (hi_X12_readRest_4 hT) rfl rfl ?_
        refine v_aldV (v := (0, 3)) (r := 126) (hi_X12_readRest_5 hT) rfl rfl (fun _ _ _ => zset_same) (fun ha17 hb18 => ?_)
        refine v_store1 [some (2, 121), some (0, (2477 + (9 * (s : Int)))), some (0, 3)] (hi_X12_readRest_6 hT) ⟨rfl, Nat.ne_of_beq_eq_false rfl⟩ (Nat.le_of_ble_eq_true rfl) rfl ?_
        refine v_load (v := (0, 3)) (hi_X12_readRest_7 hT) rfl rfl ?_
        refine v_if (hi_X12_readRest_8 hT) (fun hc19 => absurd (show (3 : Int) = 0 from hc19) (by decide)) (fun _ => ?_)
        refine v_load (v := (0, 3)) (hi_X12_readRest_11 hT) rfl rfl ?_
        refine v_push (2) (hi_X12_readRest_12 hT) rfl ?_
        refine v_ic (hi_X12_readRest_13 hT) (fun hc20 => absurd (show (3 : Int) = 2 from hc20) (by decide)) (fun _ => ?_)
        refine v_load (v := (0, 3)) (hi_X12_readRest_52 hT) rfl rfl ?_
        refine v_push (1) (hi_X12_readRest_53 hT) rfl ?_
        refine v_ic (hi_X12_readRest_54 hT) (fun hc21 => absurd (show (3 : Int) = 1 from hc21) (by decide)) (fun _ => ?_)
        refine v_load (v := (0, 3)) (hi_X12_readRest_72 hT) rfl rfl ?_
        refine v_push (3) (hi_X12_readRest_73 hT) rfl ?_
        refine v_ic (hi_X12_readRest_74 hT) (fun _ => ?_) (fun hc22 => absurd (show (3 : Int) = 3 from (by decide)) hc22)
        refine v_load (v := (2, 121)) (hz_X12_readRest hT _ _ rfl) rfl rfl ?_
        refine v_getR (c := 126) (r := 121) (hz_X12_readRest hT _ _ rfl) rfl rfl rfl ?_
        refine v_load (v := (0, (2477 + (9 * (s : Int))))) (hz_X12_readRest hT _ _ rfl) rfl rfl ?_
        refine v_push (1) (hz_X12_readRest hT _ _ rfl) rfl ?_
        refine v_bin (w := ((2477 + (9 * (s : Int))) + 1)) (hz_X12_readRest hT _ _ rfl) (hq_add (by omega) (by omega)) ?_
        refine v_load (v := (2, 121)) (hz_X12_readRest hT _ _ rfl) rfl rfl ?_
        refine v_call (w := 1) [some (2, 121)] hO (hz_X12_readRest hT _ _ rfl) rfl rfl ?_
        refine v_load (v := (2, 121)) (hi_X12_readCopy_0 hT) rfl rfl ?_
        refine v_push (0) (hi_X12_readCopy_1 hT) rfl ?_
        refine v_load (v := (2, 121)) (hi_X12_readCopy_2 hT) rfl rfl ?_
        refine v_getR (c := 126) (r := 121) (hi_X12_readCopy_3 hT) rfl rfl rfl ?_
        refine v_push (2) (hi_X12_readCopy_6 hT) rfl ?_
        refine v_aldV (v := (0, (P 0 2))) (r := 126) (hi_X12_readCopy_7 hT) rfl rfl (fun _ _ _ => (Eq.trans (zset_ne (fun c => by omega)) ((Eq.trans (ft13 126 2 (by first | decide | exact fun c => by omega)) (Eq.trans (zset_ne (fun c => absurd c.1 (by decide))) (e2)))))) (fun ha23 hb24 => ?_)
        refine v_push (1) (hi_X12_readCopy_8 hT) rfl ?_
        refine v_bin (w := ((P 0 2) - 1)) (hi_X12_readCopy_9 hT) (hq_sub (by omega) (by omega)) ?_
        refine v_call (w := 4) [some (2, 121), some (0, 0), some (0, ((P 0 2) - 1)), none] hO (hi_X12_readCopy_10 hT) rfl rfl (rx_num hT hO 0 (((P 0 2) - 1)) (rX.z (r := 126) (k := (((2477 + (9 * (s : Int)))).toNat)) (v := (0, 3)) (by decide) hX13) (fun g26 x25 ft26 q26 bux25 bvx25 hX26 => ?_) (fun g27 e27 ft27 q27 c27 => ?_))
        · show vP D T N 299 13 g26 [some (2, 121)] [(0, x25)] _
          refine vP_hv (fun hv26 => ?_)
          refine v_ret (hi_X12_readCopy_13 hT) (Or.inl rfl) ?_
          show vP D T N 301 88 g26 [some (2, 121), some (0, (2477 + (9 * (s : Int)))), some (0, 3)] [(0, x25), (0, ((2477 + (9 * (s : Int))) + 1)), (2, 126)] _
          refine v_ast (r := 126) (hz_X12_readRest hT _ _ rfl) rfl rfl (fun ha28 hb29 hf30 => ?_)
          refine v_load (v := (2, 121)) (hz_X12_readRest hT _ _ rfl) rfl rfl ?_
          refine v_load (v := (2, 121)) (hz_X12_readRest hT _ _ rfl) rfl rfl ?_
          refine v_call (w := 1) [some (2, 121)] hO (hz_X12_readRest hT _ _ rfl) rfl rfl (rx_isTo hT hO (rX.z (r := 126) (k := ((((2477 + (9 * (s : Int))) + 1)).toNat)) (v := (0, x25)) (by decide) hX26) ?_)
          · show vP D T N 301 94 (zset g26 126 ((((2477 + (9 * (s : Int))) + 1)).toNat) (0, x25)) [some (2, 121), some (0, (2477 + (9 * (s : Int)))), some (0, 3)] [(0, (bW τ 7 (i + 1 + 1))), (2, 121)] _
            refine v_call (w := 2) [some (2, 121), some (0, (bW τ 7 (i + 1 + 1)))] hO (hz_X12_readRest hT _ _ rfl) rfl rfl (rx_must hT hO ((bW τ 7 (i + 1 + 1))) (rX.z (r := 126) (k := ((((2477 + (9 * (s : Int))) + 1)).toNat)) (v := (0, x25)) (by decide) hX26) (fun c => ⟨ne_10 (bW_y.mp c).1, ne_14 (bW_y.mp c).1⟩) (fun g32 ft32 hc31 hX32 => ?_) (fun g33 ft33 hc33 c33 => ?_))
            · show vP D T N 301 97 g32 [some (2, 121), some (0, (2477 + (9 * (s : Int)))), some (0, 3)] [] _
              refine vP_hv (fun hv32 => ?_)
              refine v_load (v := (2, 121)) (hz_X12_readRest hT _ _ rfl) rfl rfl ?_
              refine v_getR (c := 126) (r := 121) (hz_X12_readRest hT _ _ rfl) rfl rfl rfl ?_
              refine v_load (v := (0, (2477 + (9 * (s : Int))))) (hz_X12_readRest hT _ _ rfl) rfl rfl ?_
              refine v_push (2) (hz_X12_readRest hT _ _ rfl) rfl ?_
              refine v_bin (w := ((2477 + (9 * (s : Int))) + 2)) (hz_X12_readRest hT _ _ rfl) (hq_add (by omega) (by omega)) ?_
              refine v_load (v := (2, 121)) (hz_X12_readRest hT _ _ rfl) rfl rfl ?_
              refine v_call (w := 1) [some (2, 121)] hO (hz_X12_readRest hT _ _ rfl) rfl rfl ?_
              refine v_load (v := (2, 121)) (hi_X12_readCopy_0 hT) rfl rfl ?_
              refine v_push (0) (hi_X12_readCopy_1 hT) rfl ?_
              refine v_load (v := (2, 121)) (hi_X12_readCopy_2 hT) rfl rfl ?_
              refine v_getR (c := 126) (r := 121) (hi_X12_readCopy_3 hT) rfl rfl rfl ?_
              refine v_push (2) (hi_X12_readCopy_6 hT) rfl ?_
              refine v_aldV (v := (0, (P 0 2))) (r := 126) (hi_X12_readCopy_7 hT) rfl rfl (fun _ _ _ => (Eq.trans (ft32 126 2 (by first | decide | exact fun c => by omega)) (Eq.trans (zset_ne (fun c => by omega)) ((Eq.trans (ft26 126 2 (by first | decide | exact fun c => by omega)) (Eq.trans (zset_ne (fun c => by omega)) ((Eq.trans (ft13 126 2 (by first | decide | exact fun c => by omega)) (Eq.trans (zset_ne (fun c => absurd c.1 (by decide))) (e2)))))))))) (fun ha34 hb35 => ?_)
              refine v_push (1) (hi_X12_readCopy_8 hT) rfl ?_
              refine v_bin (w := ((P 0 2) - 1)) (hi_X12_readCopy_9 hT) (hq_sub (by omega) (by omega)) ?_
              refine v_call (w := 4) [some (2, 121), some (0, 0), some (0, ((P 0 2) - 1)), none] hO (hi_X12_readCopy_10 hT) rfl rfl (rx_num hT hO 0 (((P 0 2) - 1)) hX32 (fun g37 x36 ft37 q37 bux36 bvx36 hX37 => ?_) (fun g38 e38 ft38 q38 c38 => ?_))
              · show vP D T N 299 13 g37 [some (2, 121)] [(0, x36)] _
                refine vP_hv (fun hv37 => ?_)
                refine v_ret (hi_X12_readCopy_13 hT) (Or.inl rfl) ?_
                show vP D T N 301 108 g37 [some (2, 121), some (0, (2477 + (9 * (s : Int)))), some (0, 3)] [(0, x36), (0, ((2477 + (9 * (s : Int))) + 2)), (2, 126)] _
                refine v_ast (r := 126) (hi_X12_readRest_108 hT) rfl rfl (fun ha39 hb40 hf41 => ?_)
                refine v_goto (hi_X12_readRest_109 hT) ?_
                refine v_ret0 (hi_X12_readRest_210 hT) ?_
                show vP D T N 304 132 (zset g37 126 ((((2477 + (9 * (s : Int))) + 2)).toNat) (0, x36)) [some (2, 121), some (0, (d : Int)), some (0, 3), some (0, 0), some (0, (2477 + (9 * (s : Int))))] [] _
                refine v_load (v := (2, 121)) (hi_X12_readStep_132 hT) rfl rfl ?_
                refine v_load (v := (2, 121)) (hi_X12_readStep_133 hT) rfl rfl ?_
                refine v_push (59) (hi_X12_readStep_134 hT) rfl ?_
                refine v_call (w := 2) [some (2, 121), some (0, 59)] hO (hi_X12_readStep_136 hT) rfl rfl (rx_isSign hT hO 59 (rX.z (r := 126) (k := ((((2477 + (9 * (s : Int))) + 2)).toNat)) (v := (0, x36)) (by decide) hX37) ?_)
                · show vP D T N 304 139 (zset g37 126 ((((2477 + (9 * (s : Int))) + 2)).toNat) (0, x36)) [some (2, 121), some (0, (d : Int)), some (0, 3), some (0, 0), some (0, (2477 + (9 * (s : Int))))] [(0, (bG τ 59 (i + 1 + 1 + 1 + 1))), (2, 121)] _
                  refine v_call (w := 2) [some (2, 121), some (0, (bG τ 59 (i + 1 + 1 + 1 + 1)))] hO (hi_X12_readStep_139 hT) rfl rfl (rx_must hT hO ((bG τ 59 (i + 1 + 1 + 1 + 1))) (rX.z (r := 126) (k := ((((2477 + (9 * (s : Int))) + 2)).toNat)) (v := (0, x36)) (by decide) hX37) (fun c => ⟨by have := (bG_y.mp c).1; omega, by have := (bG_y.mp c).1; omega⟩) (fun g43 ft43 hc42 hX43 => ?_) (fun g44 ft44 hc44 c44 => ?_))
                  · show vP D T N 304 142 g43 [some (2, 121), some (0, (d : Int)), some (0, 3), some (0, 0), some (0, (2477 + (9 * (s : Int))))] [] _
                    refine vP_hv (fun hv43 => ?_)
                    refine v_load (v := (0, 0)) (hi_X12_readStep_142 hT) rfl rfl ?_
                    refine v_if (hi_X12_readStep_143 hT) (fun _ => ?_) (fun hc45 => absurd (show (0 : Int) = 0 from (by decide)) hc45)
                    refine v_load (v := (0, 0)) (hi_X12_readStep_170 hT) rfl rfl ?_
                    refine v_if (hi_X12_readStep_171 hT) (fun _ => ?_) (fun hc46 => absurd (show (0 : Int) = 0 from (by decide)) hc46)
                    refine v_load (v := (2, 121)) (hi_X12_readStep_192 hT) rfl rfl ?_
                    refine v_getR (c := 126) (r := 121) (hi_X12_readStep_193 hT) rfl rfl rfl ?_
                    refine v_load (v := (0, (2477 + (9 * (s : Int))))) (hi_X12_readStep_196 hT) rfl rfl ?_
                    refine v_push (8) (hi_X12_readStep_198 hT) rfl ?_
                    refine v_bin (w := ((2477 + (9 * (s : Int))) + 8)) (hi_X12_readStep_200 hT) (hq_add (by omega) (by omega)) ?_
                    refine v_load (v := (2, 121)) (hi_X12_readStep_201 hT) rfl rfl ?_
                    refine v_getf (v := (0, ((s : Int) + 1))) (r := 121) (hi_X12_readStep_202 hT) rfl rfl (fun _ => (Eq.trans (ft43 121 25 (by first | decide | exact fun c => by omega)) (Eq.trans (zset_ne (fun c => absurd c.1 (by decide))) ((Eq.trans (ft37 121 25 (by first | decide | exact fun c => by omega)) (Eq.trans (ft32 121 25 (by first | decide | exact fun c => by omega)) (Eq.trans (zset_ne (fun c => absurd c.1 (by decide))) ((Eq.trans (ft26 121 25 (by first | decide | exact fun c => by omega)) (Eq.trans (zset_ne (fun c => absurd c.1 (by decide))) ((Eq.trans (ft13 121 25 (by first | decide | exact fun c => by omega)) (zset_same))))))))))))) ?_
                    refine v_ast (r := 126) (hi_X12_readStep_205 hT) rfl rfl (fun ha47 hb48 hf49 => ?_)
                    refine v_ret0 (hi_X12_readStep_206 hT) ?_
                    have kp_ : ∀ e, (zset g43 126 ((((2477 + (9 * (s : Int))) + 8)).toNat) (0, ((s : Int) + 1))) 126 e = (zset (zset (zset (zset h 126 (((2477 + (9 * (s : Int)))).toNat) (0, 3)) 126 ((((2477 + (9 * (s : Int))) + 1)).toNat) (0, x25)) 126 ((((2477 + (9 * (s : Int))) + 2)).toNat) (0, x36)) 126 ((((2477 + (9 * (s : Int))) + 8)).toNat) (0, ((s : Int) + 1))) 126 e := (kr_z (k := ((((2477 + (9 * (s : Int))) + 8)).toNat)) (v := (0, ((s : Int) + 1))) (kr_f (fun e => ft43 126 e (fun c => by omega)) (kr_z (k := ((((2477 + (9 * (s : Int))) + 2)).toNat)) (v := (0, x36)) (kr_f (fun e => ft37 126 e (fun c => by omega)) (kr_f (fun e => ft32 126 e (fun c => by omega)) (kr_z (k := ((((2477 + (9 * (s : Int))) + 1)).toNat)) (v := (0, x25)) (kr_f (fun e => ft26 126 e (fun c => by omega)) (kr_z (k := (((2477 + (9 * (s : Int)))).toNat)) (v := (0, 3)) (kr_f (fun e => ft13 126 e (fun c => by omega)) (kr_n (a := 121) (k := 25) (v := (0, ((s : Int) + 1))) (by decide) (fun _ => Eq.refl _)))))))))))
                    exact ih _ (s + 1) (d) (i + 1 + 1 + 1 + 1 + 1) _ 11 x25 x36 (i + 1 + 1 + 1 + 1) (by simp only [pStep, hE, hsw, hop, h15, opW15, harg, pNm, pWord, pSg, Bool.false_eq_true, (show ¬ 30 ≤ s from by omega), q26, hc31, q37, hc42, ne_eq, not_true_eq_false, not_false_eq_true, if_true, if_false, eq_self, eb_l, eb_r, and_true, true_and, and_false, false_and]) (rX.z (r := 126) (k := ((((2477 + (9 * (s : Int))) + 8)).toNat)) (v := (0, ((s : Int) + 1))) (by decide) hX43) (Eq.trans (zset_ne (fun c => absurd c.1 (by decide))) ((Eq.trans (ft43 121 25 (by first | decide | exact fun c => by omega)) (Eq.trans (zset_ne (fun c => absurd c.1 (by decide))) ((Eq.trans (ft37 121 25 (by first | decide | exact fun c => by omega)) (Eq.trans (ft32 121 25 (by first | decide | exact fun c => by omega)) (Eq.trans (zset_ne (fun c => absurd c.1 (by decide))) ((Eq.trans (ft26 121 25 (by first | decide | exact fun c => by omega)) (Eq.trans (zset_ne (fun c => absurd c.1 (by decide))) ((Eq.trans (ft13 121 25 (by first | decide | exact fun c => by omega)) (zset_same)))))))))))))) (by omega) (by omega) (roF.z (a := 126) (b := ((((2477 + (9 * (s : Int))) + 8)).toNat)) (v := (0, ((s : Int) + 1))) (by omega) (roF.t (roF.z (a := 126) (b := ((((2477 + (9 * (s : Int))) + 2)).toNat)) (v := (0, x36)) (by omega) (roF.t (roF.t (roF.z (a := 126) (b := ((((2477 + (9 * (s : Int))) + 1)).toNat)) (v := (0, x25)) (by omega) (roF.t (roF.z (a := 126) (b := (((2477 + (9 * (s : Int)))).toNat)) (v := (0, 3)) (by omega) (roF.t (roF.z (a := 121) (b := 25) (v := (0, ((s : Int) + 1))) (by omega) roF.rfl) ft13)) ft26)) ft32) ft37)) ft43)) (pItV_a h3 (by decide) (by simp only [hargV, pWord, (show ¬ 30 ≤ s from by omega), q26, hc31, q37, hc42, ne_eq, not_true_eq_false, not_false_eq_true, if_true, if_false, eq_self, eb_l, eb_r, and_true, true_and, and_false, false_and])) (fun e_ hn_ => (kp_ e_).trans ((zset_ne (fun c => hn_ (by omega))).trans ((zset_ne (fun c => hn_ (by omega))).trans ((zset_ne (fun c => hn_ (by omega))).trans (zset_ne (fun c => hn_ (by omega))))))) ⟨((kp_ _).trans ((zset_ne (fun c => by omega)).trans ((zset_ne (fun c => by omega)).trans ((zset_ne (fun c => by omega)).trans (zset_e (by omega)))))), (fun _ => ((kp_ _).trans ((zset_ne (fun c => by omega)).trans ((zset_ne (fun c => by omega)).trans (zset_e (by omega)))))), (fun c => absurd c (by decide)), (fun _ => ((kp_ _).trans ((zset_ne (fun c => by omega)).trans (zset_e (by omega))))), (fun c => absurd c (by decide)), (fun c => absurd c (by decide))⟩ ((kp_ _).trans (zset_e (by omega)))
                  · show vP D T N 304 142 g44 [some (2, 121), some (0, (d : Int)), some (0, 3), some (0, 0), some (0, (2477 + (9 * (s : Int))))] [] _
                    refine vP_hv (fun hv44 => ?_)
                    refine v_load (v := (0, 0)) (hi_X12_readStep_142 hT) rfl rfl ?_
                    refine v_if (hi_X12_readStep_143 hT) (fun _ => ?_) (fun hc50 => absurd (show (0 : Int) = 0 from (by decide)) hc50)
                    refine v_load (v := (0, 0)) (hi_X12_readStep_170 hT) rfl rfl ?_
                    refine v_if (hi_X12_readStep_171 hT) (fun _ => ?_) (fun hc51 => absurd (show (0 : Int) = 0 from (by decide)) hc51)
                    refine v_load (v := (2, 121)) (hi_X12_readStep_192 hT) rfl rfl ?_
                    refine v_getR (c := 126) (r := 121) (hi_X12_readStep_193 hT) rfl rfl rfl ?_
                    refine v_load (v := (0, (2477 + (9 * (s : Int))))) (hi_X12_readStep_196 hT) rfl rfl ?_
                    refine v_push (8) (hi_X12_readStep_198 hT) rfl ?_
                    refine v_bin (w := ((2477 + (9 * (s : Int))) + 8)) (hi_X12_readStep_200 hT) (hq_add (by omega) (by omega)) ?_
                    refine v_load (v := (2, 121)) (hi_X12_readStep_201 hT) rfl rfl ?_
                    refine v_getf (v := (0, ((s : Int) + 1))) (r := 121) (hi_X12_readStep_202 hT) rfl rfl (fun _ => (Eq.trans (ft44 121 25 (by first | decide | exact fun c => by omega)) (Eq.trans (zset_ne (fun c => absurd c.1 (by decide))) ((Eq.trans (ft37 121 25 (by first | decide | exact fun c => by omega)) (Eq.trans (ft32 121 25 (by first | decide | exact fun c => by omega)) (Eq.trans (zset_ne (fun c => absurd c.1 (by decide))) ((Eq.trans (ft26 121 25 (by first | decide | exact fun c => by omega)) (Eq.trans (zset_ne (fun c => absurd c.1 (by decide))) ((Eq.trans (ft13 121 25 (by first | decide | exact fun c => by omega)) (zset_same))))))))))))) ?_
                    refine v_ast (r := 126) (hi_X12_readStep_205 hT) rfl rfl (fun ha52 hb53 hf54 => ?_)
                    refine v_ret0 (hi_X12_readStep_206 hT) ?_
                    exact er _ _ (by simp only [pStep, hE, hsw, hop, h15, opW15, harg, pNm, pWord, pSg, Bool.false_eq_true, (show ¬ 30 ≤ s from by omega), q26, hc31, q37, hc44, ne_eq, not_true_eq_false, not_false_eq_true, if_true, if_false, eq_self, eb_l, eb_r, and_true, true_and, and_false, false_and]) (rE.z (r := 126) (k := ((((2477 + (9 * (s : Int))) + 8)).toNat)) (v := (0, ((s : Int) + 1))) (by decide) c44) (roF.z (a := 126) (b := ((((2477 + (9 * (s : Int))) + 8)).toNat)) (v := (0, ((s : Int) + 1))) (by omega) (roF.t (roF.z (a := 126) (b := ((((2477 + (9 * (s : Int))) + 2)).toNat)) (v := (0, x36)) (by omega) (roF.t (roF.t (roF.z (a := 126) (b := ((((2477 + (9 * (s : Int))) + 1)).toNat)) (v := (0, x25)) (by omega) (roF.t (roF.z (a := 126) (b := (((2477 + (9 * (s : Int)))).toNat)) (v := (0, 3)) (by omega) (roF.t (roF.z (a := 121) (b := 25) (v := (0, ((s : Int) + 1))) (by omega) roF.rfl) ft13)) ft26)) ft32) ft37)) ft44))
              · show vP D T N 299 13 g38 [some (2, 121)] [(0, 0)] _
                refine vP_hv (fun hv38 => ?_)
                refine v_ret (hi_X12_readCopy_13 hT) (Or.inl rfl) ?_
                show vP D T N 301 108 g38 [some (2, 121), some (0, (2477 + (9 * (s : Int)))), some (0, 3)] [(0, 0), (0, ((2477 + (9 * (s : Int))) + 2)), (2, 126)] _
                refine v_ast (r := 126) (hi_X12_readRest_108 hT) rfl rfl (fun ha55 hb56 hf57 => ?_)
                refine v_goto (hi_X12_readRest_109 hT) ?_
                refine v_ret0 (hi_X12_readRest_210 hT) ?_
                show vP D T N 304 132 (zset g38 126 ((((2477 + (9 * (s : Int))) + 2)).toNat) (0, 0)) [some (2, 121), some (0, (d : Int)), some (0, 3), some (0, 0), some (0, (2477 + (9 * (s : Int))))] [] _
                refine v_load (v := (2, 121)) (hi_X12_readStep_132 hT) rfl rfl ?_
                refine v_load (v := (2, 121)) (hi_X12_readStep_133 hT) rfl rfl ?_
                refine v_push (59) (hi_X12_readStep_134 hT) rfl ?_
                refine v_call (w := 2) [some (2, 121), some (0, 59)] hO (hi_X12_readStep_136 hT) rfl rfl (rb_any_isSign hT hO (fun v58 => ?_))
                · show vP D T N 304 139 (zset g38 126 ((((2477 + (9 * (s : Int))) + 2)).toNat) (0, 0)) [some (2, 121), some (0, (d : Int)), some (0, 3), some (0, 0), some (0, (2477 + (9 * (s : Int))))] [(0, v58), (2, 121)] _
                  refine v_call (w := 2) [some (2, 121), some (0, v58)] hO (hi_X12_readStep_139 hT) rfl rfl (rx_mustB hT hO v58 (rE.z (r := 126) (k := ((((2477 + (9 * (s : Int))) + 2)).toNat)) (v := (0, 0)) (by decide) c38) ?_)
                  · show vP D T N 304 142 (zset g38 126 ((((2477 + (9 * (s : Int))) + 2)).toNat) (0, 0)) [some (2, 121), some (0, (d : Int)), some (0, 3), some (0, 0), some (0, (2477 + (9 * (s : Int))))] [] _
                    refine v_load (v := (0, 0)) (hi_X12_readStep_142 hT) rfl rfl ?_
                    refine v_if (hi_X12_readStep_143 hT) (fun _ => ?_) (fun hc59 => absurd (show (0 : Int) = 0 from (by decide)) hc59)
                    refine v_load (v := (0, 0)) (hi_X12_readStep_170 hT) rfl rfl ?_
                    refine v_if (hi_X12_readStep_171 hT) (fun _ => ?_) (fun hc60 => absurd (show (0 : Int) = 0 from (by decide)) hc60)
                    refine v_load (v := (2, 121)) (hi_X12_readStep_192 hT) rfl rfl ?_
                    refine v_getR (c := 126) (r := 121) (hi_X12_readStep_193 hT) rfl rfl rfl ?_
                    refine v_load (v := (0, (2477 + (9 * (s : Int))))) (hi_X12_readStep_196 hT) rfl rfl ?_
                    refine v_push (8) (hi_X12_readStep_198 hT) rfl ?_
                    refine v_bin (w := ((2477 + (9 * (s : Int))) + 8)) (hi_X12_readStep_200 hT) (hq_add (by omega) (by omega)) ?_
                    refine v_load (v := (2, 121)) (hi_X12_readStep_201 hT) rfl rfl ?_
                    refine v_getf (v := (0, ((s : Int) + 1))) (r := 121) (hi_X12_readStep_202 hT) rfl rfl (fun _ => Eq.trans (zset_ne (fun c => absurd c.1 (by decide))) ((Eq.trans (ft38 121 25 (by first | decide | exact fun c => by omega)) (Eq.trans (ft32 121 25 (by first | decide | exact fun c => by omega)) (Eq.trans (zset_ne (fun c => absurd c.1 (by decide))) ((Eq.trans (ft26 121 25 (by first | decide | exact fun c => by omega)) (Eq.trans (zset_ne (fun c => absurd c.1 (by decide))) ((Eq.trans (ft13 121 25 (by first | decide | exact fun c => by omega)) (zset_same))))))))))) ?_
                    refine v_ast (r := 126) (hi_X12_readStep_205 hT) rfl rfl (fun ha61 hb62 hf63 => ?_)
                    refine v_ret0 (hi_X12_readStep_206 hT) ?_
                    exact er _ _ (by simp only [pStep, hE, hsw, hop, h15, opW15, harg, pNm, pWord, pSg, Bool.false_eq_true, (show ¬ 30 ≤ s from by omega), q26, hc31, q38, ne_eq, not_true_eq_false, not_false_eq_true, if_true, if_false, eq_self, eb_l, eb_r, and_true, true_and, and_false, false_and]) (rE.z (r := 126) (k := ((((2477 + (9 * (s : Int))) + 8)).toNat)) (v := (0, ((s : Int) + 1))) (by decide) (rE.z (r := 126) (k := ((((2477 + (9 * (s : Int))) + 2)).toNat)) (v := (0, 0)) (by decide) c38)) (roF.z (a := 126) (b := ((((2477 + (9 * (s : Int))) + 8)).toNat)) (v := (0, ((s : Int) + 1))) (by omega) (roF.z (a := 126) (b := ((((2477 + (9 * (s : Int))) + 2)).toNat)) (v := (0, 0)) (by omega) (roF.t (roF.t (roF.z (a := 126) (b := ((((2477 + (9 * (s : Int))) + 1)).toNat)) (v := (0, x25)) (by omega) (roF.t (roF.z (a := 126) (b := (((2477 + (9 * (s : Int)))).toNat)) (v := (0, 3)) (by omega) (roF.t (roF.z (a := 121) (b := 25) (v := (0, ((s : Int) + 1))) (by omega) roF.rfl) ft13)) ft26)) ft32) ft38)))
            · show vP D T N 301 97 g33 [some (2, 121), some (0, (2477 + (9 * (s : Int)))), some (0, 3)] [] _
              refine vP_hv (fun hv33 => ?_)
              refine v_load (v := (2, 121)) (hz_X12_readRest hT _ _ rfl) rfl rfl ?_
              refine v_getR (c := 126) (r := 121) (hz_X12_readRest hT _ _ rfl) rfl rfl rfl ?_
              refine v_load (v := (0, (2477 + (9 * (s : Int))))) (hz_X12_readRest hT _ _ rfl) rfl rfl ?_
              refine v_push (2) (hz_X12_readRest hT _ _ rfl) rfl ?_
              refine v_bin (w := ((2477 + (9 * (s : Int))) + 2)) (hz_X12_readRest hT _ _ rfl) (hq_add (by omega) (by omega)) ?_
              refine v_load (v := (2, 121)) (hz_X12_readRest hT _ _ rfl) rfl rfl ?_
              refine v_call (w := 1) [some (2, 121)] hO (hz_X12_readRest hT _ _ rfl) rfl rfl ?_
              refine v_load (v := (2, 121)) (hi_X12_readCopy_0 hT) rfl rfl ?_
              refine v_push (0) (hi_X12_readCopy_1 hT) rfl ?_
              refine v_load (v := (2, 121)) (hi_X12_readCopy_2 hT) rfl rfl ?_
              refine v_getR (c := 126) (r := 121) (hi_X12_readCopy_3 hT) rfl rfl rfl ?_
              refine v_push (2) (hi_X12_readCopy_6 hT) rfl ?_
              refine v_aldV (v := (0, (P 0 2))) (r := 126) (hi_X12_readCopy_7 hT) rfl rfl (fun _ _ _ => (Eq.trans (ft33 126 2 (by first | decide | exact fun c => by omega)) (Eq.trans (zset_ne (fun c => by omega)) ((Eq.trans (ft26 126 2 (by first | decide | exact fun c => by omega)) (Eq.trans (zset_ne (fun c => by omega)) ((Eq.trans (ft13 126 2 (by first | decide | exact fun c => by omega)) (Eq.trans (zset_ne (fun c => absurd c.1 (by decide))) (e2)))))))))) (fun ha64 hb65 => ?_)
              refine v_push (1) (hi_X12_readCopy_8 hT) rfl ?_
              refine v_bin (w := ((P 0 2) - 1)) (hi_X12_readCopy_9 hT) (hq_sub (by omega) (by omega)) ?_
              refine v_call (w := 4) [some (2, 121), some (0, 0), some (0, ((P 0 2) - 1)), none] hO (hi_X12_readCopy_10 hT) rfl rfl (rx_numB hT hO 0 (((P 0 2) - 1)) c33 ?_)
              · show vP D T N 299 13 g33 [some (2, 121)] [(0, 0)] _
                refine v_ret (hi_X12_readCopy_13 hT) (Or.inl rfl) ?_
                show vP D T N 301 108 g33 [some (2, 121), some (0, (2477 + (9 * (s : Int)))), some (0, 3)] [(0, 0), (0, ((2477 + (9 * (s : Int))) + 2)), (2, 126)] _
                refine v_ast (r := 126) (hi_X12_readRest_108 hT) rfl rfl (fun ha66 hb67 hf68 => ?_)
                refine v_goto (hi_X12_readRest_109 hT) ?_
                refine v_ret0 (hi_X12_readRest_210 hT) ?_
                show vP D T N 304 132 (zset g33 126 ((((2477 + (9 * (s : Int))) + 2)).toNat) (0, 0)) [some (2, 121), some (0, (d : Int)), some (0, 3), some (0, 0), some (0, (2477 + (9 * (s : Int))))] [] _
                refine v_load (v := (2, 121)) (hi_X12_readStep_132 hT) rfl rfl ?_
                refine v_load (v := (2, 121)) (hi_X12_readStep_133 hT) rfl rfl ?_
                refine v_push (59) (hi_X12_readStep_134 hT) rfl ?_
                refine v_call (w := 2) [some (2, 121), some (0, 59)] hO (hi_X12_readStep_136 hT) rfl rfl (rb_any_isSign hT hO (fun v69 => ?_))
                · show vP D T N 304 139 (zset g33 126 ((((2477 + (9 * (s : Int))) + 2)).toNat) (0, 0)) [some (2, 121), some (0, (d : Int)), some (0, 3), some (0, 0), some (0, (2477 + (9 * (s : Int))))] [(0, v69), (2, 121)] _
                  refine v_call (w := 2) [some (2, 121), some (0, v69)] hO (hi_X12_readStep_139 hT) rfl rfl (rx_mustB hT hO v69 (rE.z (r := 126) (k := ((((2477 + (9 * (s : Int))) + 2)).toNat)) (v := (0, 0)) (by decide) c33) ?_)
                  · show vP D T N 304 142 (zset g33 126 ((((2477 + (9 * (s : Int))) + 2)).toNat) (0, 0)) [some (2, 121), some (0, (d : Int)), some (0, 3), some (0, 0), some (0, (2477 + (9 * (s : Int))))] [] _
                    refine v_load (v := (0, 0)) (hi_X12_readStep_142 hT) rfl rfl ?_
                    refine v_if (hi_X12_readStep_143 hT) (fun _ => ?_) (fun hc70 => absurd (show (0 : Int) = 0 from (by decide)) hc70)
                    refine v_load (v := (0, 0)) (hi_X12_readStep_170 hT) rfl rfl ?_
                    refine v_if (hi_X12_readStep_171 hT) (fun _ => ?_) (fun hc71 => absurd (show (0 : Int) = 0 from (by decide)) hc71)
                    refine v_load (v := (2, 121)) (hi_X12_readStep_192 hT) rfl rfl ?_
                    refine v_getR (c := 126) (r := 121) (hi_X12_readStep_193 hT) rfl rfl rfl ?_
                    refine v_load (v := (0, (2477 + (9 * (s : Int))))) (hi_X12_readStep_196 hT) rfl rfl ?_
                    refine v_push (8) (hi_X12_readStep_198 hT) rfl ?_
                    refine v_bin (w := ((2477 + (9 * (s : Int))) + 8)) (hi_X12_readStep_200 hT) (hq_add (by omega) (by omega)) ?_
                    refine v_load (v := (2, 121)) (hi_X12_readStep_201 hT) rfl rfl ?_
                    refine v_getf (v := (0, ((s : Int) + 1))) (r := 121) (hi_X12_readStep_202 hT) rfl rfl (fun _ => Eq.trans (zset_ne (fun c => absurd c.1 (by decide))) ((Eq.trans (ft33 121 25 (by first | decide | exact fun c => by omega)) (Eq.trans (zset_ne (fun c => absurd c.1 (by decide))) ((Eq.trans (ft26 121 25 (by first | decide | exact fun c => by omega)) (Eq.trans (zset_ne (fun c => absurd c.1 (by decide))) ((Eq.trans (ft13 121 25 (by first | decide | exact fun c => by omega)) (zset_same)))))))))) ?_
                    refine v_ast (r := 126) (hi_X12_readStep_205 hT) rfl rfl (fun ha72 hb73 hf74 => ?_)
                    refine v_ret0 (hi_X12_readStep_206 hT) ?_
                    exact er _ _ (by simp only [pStep, hE, hsw, hop, h15, opW15, harg, pNm, pWord, pSg, Bool.false_eq_true, (show ¬ 30 ≤ s from by omega), q26, hc33, ne_eq, not_true_eq_false, not_false_eq_true, if_true, if_false, eq_self, eb_l, eb_r, and_true, true_and, and_false, false_and]) (rE.z (r := 126) (k := ((((2477 + (9 * (s : Int))) + 8)).toNat)) (v := (0, ((s : Int) + 1))) (by decide) (rE.z (r := 126) (k := ((((2477 + (9 * (s : Int))) + 2)).toNat)) (v := (0, 0)) (by decide) c33)) (roF.z (a := 126) (b := ((((2477 + (9 * (s : Int))) + 8)).toNat)) (v := (0, ((s : Int) + 1))) (by omega) (roF.z (a := 126) (b := ((((2477 + (9 * (s : Int))) + 2)).toNat)) (v := (0, 0)) (by omega) (roF.t (roF.z (a := 126) (b := ((((2477 + (9 * (s : Int))) + 1)).toNat)) (v := (0, x25)) (by omega) (roF.t (roF.z (a := 126) (b := (((2477 + (9 * (s : Int)))).toNat)) (v := (0, 3)) (by omega) (roF.t (roF.z (a := 121) (b := 25) (v := (0, ((s : Int) + 1))) (by omega) roF.rfl) ft13)) ft26)) ft33)))
        · show vP D T N 299 13 g27 [some (2, 121)] [(0, 0)] _
          refine vP_hv (fun hv27 => ?_)
          refine v_ret (hi_X12_readCopy_13 hT) (Or.inl rfl) ?_
          show vP D T N 301 88 g27 [some (2, 121), some (0, (2477 + (9 * (s : Int)))), some (0, 3)] [(0, 0), (0, ((2477 + (9 * (s : Int))) + 1)), (2, 126)] _
          refine v_ast (r := 126) (hz_X12_readRest hT _ _ rfl) rfl rfl (fun ha75 hb76 hf77 => ?_)
          refine v_load (v := (2, 121)) (hz_X12_readRest hT _ _ rfl) rfl rfl ?_
          refine v_load (v := (2, 121)) (hz_X12_readRest hT _ _ rfl) rfl rfl ?_
          refine v_call (w := 1) [some (2, 121)] hO (hz_X12_readRest hT _ _ rfl) rfl rfl (rb_any_isTo hT hO (fun v78 => ?_))
          · show vP D T N 301 94 (zset g27 126 ((((2477 + (9 * (s : Int))) + 1)).toNat) (0, 0)) [some (2, 121), some (0, (2477 + (9 * (s : Int)))), some (0, 3)] [(0, v78), (2, 121)] _
            refine v_call (w := 2) [some (2, 121), some (0, v78)] hO (hz_X12_readRest hT _ _ rfl) rfl rfl (rx_mustB hT hO v78 (rE.z (r := 126) (k := ((((2477 + (9 * (s : Int))) + 1)).toNat)) (v := (0, 0)) (by decide) c27) ?_)
            · show vP D T N 301 97 (zset g27 126 ((((2477 + (9 * (s : Int))) + 1)).toNat) (0, 0)) [some (2, 121), some (0, (2477 + (9 * (s : Int)))), some (0, 3)] [] _
              refine v_load (v := (2, 121)) (hz_X12_readRest hT _ _ rfl) rfl rfl ?_
              refine v_getR (c := 126) (r := 121) (hz_X12_readRest hT _ _ rfl) rfl rfl rfl ?_
              refine v_load (v := (0, (2477 + (9 * (s : Int))))) (hz_X12_readRest hT _ _ rfl) rfl rfl ?_
              refine v_push (2) (hz_X12_readRest hT _ _ rfl) rfl ?_
              refine v_bin (w := ((2477 + (9 * (s : Int))) + 2)) (hz_X12_readRest hT _ _ rfl) (hq_add (by omega) (by omega)) ?_
              refine v_load (v := (2, 121)) (hz_X12_readRest hT _ _ rfl) rfl rfl ?_
              refine v_call (w := 1) [some (2, 121)] hO (hz_X12_readRest hT _ _ rfl) rfl rfl ?_
              refine v_load (v := (2, 121)) (hi_X12_readCopy_0 hT) rfl rfl ?_
              refine v_push (0) (hi_X12_readCopy_1 hT) rfl ?_
              refine v_load (v := (2, 121)) (hi_X12_readCopy_2 hT) rfl rfl ?_
              refine v_getR (c := 126) (r := 121) (hi_X12_readCopy_3 hT) rfl rfl rfl ?_
              refine v_push (2) (hi_X12_readCopy_6 hT) rfl ?_
              refine v_aldV (v := (0, (P 0 2))) (r := 126) (hi_X12_readCopy_7 hT) rfl rfl (fun _ _ _ => (Eq.trans (zset_ne (fun c => by omega)) ((Eq.trans (ft27 126 2 (by first | decide | exact fun c => by omega)) (Eq.trans (zset_ne (fun c => by omega)) ((Eq.trans (ft13 126 2 (by first | decide | exact fun c => by omega)) (Eq.trans (zset_ne (fun c => absurd c.1 (by decide))) (e2))))))))) (fun ha79 hb80 => ?_)
              refine v_push (1) (hi_X12_readCopy_8 hT) rfl ?_
              refine v_bin (w := ((P 0 2) - 1)) (hi_X12_readCopy_9 hT) (hq_sub (by omega) (by omega)) ?_
              refine v_call (w := 4) [some (2, 121), some (0, 0), some (0, ((P 0 2) - 1)), none] hO (hi_X12_readCopy_10 hT) rfl rfl (rx_numB hT hO 0 (((P 0 2) - 1)) (rE.z (r := 126) (k := ((((2477 + (9 * (s : Int))) + 1)).toNat)) (v := (0, 0)) (by decide) c27) ?_)
              · show vP D T N 299 13 (zset g27 126 ((((2477 + (9 * (s : Int))) + 1)).toNat) (0, 0)) [some (2, 121)] [(0, 0)] _
                refine v_ret (hi_X12_readCopy_13 hT) (Or.inl rfl) ?_
                show vP D T N 301 108 (zset g27 126 ((((2477 + (9 * (s : Int))) + 1)).toNat) (0, 0)) [some (2, 121), some (0, (2477 + (9 * (s : Int)))), some (0, 3)] [(0, 0), (0, ((2477 + (9 * (s : Int))) + 2)), (2, 126)] _
                refine v_ast (r := 126) (hi_X12_readRest_108 hT) rfl rfl (fun ha81 hb82 hf83 => ?_)
                refine v_goto (hi_X12_readRest_109 hT) ?_
                refine v_ret0 (hi_X12_readRest_210 hT) ?_
                show vP D T N 304 132 (zset (zset g27 126 ((((2477 + (9 * (s : Int))) + 1)).toNat) (0, 0)) 126 ((((2477 + (9 * (s : Int))) + 2)).toNat) (0, 0)) [some (2, 121), some (0, (d : Int)), some (0, 3), some (0, 0), some (0, (2477 + (9 * (s : Int))))] [] _
                refine v_load (v := (2, 121)) (hi_X12_readStep_132 hT) rfl rfl ?_
                refine v_load (v := (2, 121)) (hi_X12_readStep_133 hT) rfl rfl ?_
                refine v_push (59) (hi_X12_readStep_134 hT) rfl ?_
                refine v_call (w := 2) [some (2, 121), some (0, 59)] hO (hi_X12_readStep_136 hT) rfl rfl (rb_any_isSign hT hO (fun v84 => ?_))
                · show vP D T N 304 139 (zset (zset g27 126 ((((2477 + (9 * (s : Int))) + 1)).toNat) (0, 0)) 126 ((((2477 + (9 * (s : Int))) + 2)).toNat) (0, 0)) [some (2, 121), some (0, (d : Int)), some (0, 3), some (0, 0), some (0, (2477 + (9 * (s : Int))))] [(0, v84), (2, 121)] _
                  refine v_call (w := 2) [some (2, 121), some (0, v84)] hO (hi_X12_readStep_139 hT) rfl rfl (rx_mustB hT hO v84 (rE.z (r := 126) (k := ((((2477 + (9 * (s : Int))) + 2)).toNat)) (v := (0, 0)) (by decide) (rE.z (r := 126) (k := ((((2477 + (9 * (s : Int))) + 1)).toNat)) (v := (0, 0)) (by decide) c27)) ?_)
                  · show vP D T N 304 142 (zset (zset g27 126 ((((2477 + (9 * (s : Int))) + 1)).toNat) (0, 0)) 126 ((((2477 + (9 * (s : Int))) + 2)).toNat) (0, 0)) [some (2, 121), some (0, (d : Int)), some (0, 3), some (0, 0), some (0, (2477 + (9 * (s : Int))))] [] _
                    refine v_load (v := (0, 0)) (hi_X12_readStep_142 hT) rfl rfl ?_
                    refine v_if (hi_X12_readStep_143 hT) (fun _ => ?_) (fun hc85 => absurd (show (0 : Int) = 0 from (by decide)) hc85)
                    refine v_load (v := (0, 0)) (hi_X12_readStep_170 hT) rfl rfl ?_
                    refine v_if (hi_X12_readStep_171 hT) (fun _ => ?_) (fun hc86 => absurd (show (0 : Int) = 0 from (by decide)) hc86)
                    refine v_load (v := (2, 121)) (hi_X12_readStep_192 hT) rfl rfl ?_
                    refine v_getR (c := 126) (r := 121) (hi_X12_readStep_193 hT) rfl rfl rfl ?_
                    refine v_load (v := (0, (2477 + (9 * (s : Int))))) (hi_X12_readStep_196 hT) rfl rfl ?_
                    refine v_push (8) (hi_X12_readStep_198 hT) rfl ?_
                    refine v_bin (w := ((2477 + (9 * (s : Int))) + 8)) (hi_X12_readStep_200 hT) (hq_add (by omega) (by omega)) ?_
                    refine v_load (v := (2, 121)) (hi_X12_readStep_201 hT) rfl rfl ?_
                    refine v_getf (v := (0, ((s : Int) + 1))) (r := 121) (hi_X12_readStep_202 hT) rfl rfl (fun _ => Eq.trans (Eq.trans (zset_ne (fun c => absurd c.1 (by decide))) (zset_ne (fun c => absurd c.1 (by decide)))) ((Eq.trans (ft27 121 25 (by first | decide | exact fun c => by omega)) (Eq.trans (zset_ne (fun c => absurd c.1 (by decide))) ((Eq.trans (ft13 121 25 (by first | decide | exact fun c => by omega)) (zset_same))))))) ?_
                    refine v_ast (r := 126) (hi_X12_readStep_205 hT) rfl rfl (fun ha87 hb88 hf89 => ?_)
                    refine v_ret0 (hi_X12_readStep_206 hT) ?_
                    exact er _ _ (by simp only [pStep, hE, hsw, hop, h15, opW15, harg, pNm, pWord, pSg, Bool.false_eq_true, (show ¬ 30 ≤ s from by omega), q27, ne_eq, not_true_eq_false, not_false_eq_true, if_true, if_false, eq_self, eb_l, eb_r, and_true, true_and, and_false, false_and]) (rE.z (r := 126) (k := ((((2477 + (9 * (s : Int))) + 8)).toNat)) (v := (0, ((s : Int) + 1))) (by decide) (rE.z (r := 126) (k := ((((2477 + (9 * (s : Int))) + 2)).toNat)) (v := (0, 0)) (by decide) (rE.z (r := 126) (k := ((((2477 + (9 * (s : Int))) + 1)).toNat)) (v := (0, 0)) (by decide) c27))) (roF.z (a := 126) (b := ((((2477 + (9 * (s : Int))) + 8)).toNat)) (v := (0, ((s : Int) + 1))) (by omega) (roF.z (a := 126) (b := ((((2477 + (9 * (s : Int))) + 2)).toNat)) (v := (0, 0)) (by omega) (roF.z (a := 126) (b := ((((2477 + (9 * (s : Int))) + 1)).toNat)) (v := (0, 0)) (by omega) (roF.t (roF.z (a := 126) (b := (((2477 + (9 * (s : Int)))).toNat)) (v := (0, 3)) (by omega) (roF.t (roF.z (a := 121) (b := 25) (v := (0, ((s : Int) + 1))) (by omega) roF.rfl) ft13)) ft27))))
theorem ro7_12 {D : zD} {T : zT} (hT : hTab T) (hO : vOK T) {N : Nat} {h : zH} {Q : zR → Prop} {B : Nat → Int} {n m i s d : Nat} {τ P : PT} (hv0 : zHv h) (hX : rX B n m τ i h) (e0 : h 126 0 = (0, P 0 0)) (e1 : h 126 1 = (0, P 0 1)) (e2 : h 126 2 = (0, P 0 2)) (e3 : h 126 3 = (0, P 0 3)) (hN : rNm P h) (hb : (0 ≤ P 0 0 ∧ P 0 0 ≤ 8) ∧ (0 ≤ P 0 1 ∧ P 0 1 ≤ 6) ∧ (0 ≤ P 0 2 ∧ P 0 2 ≤ 3) ∧ (0 ≤ P 0 3 ∧ P 0 3 ≤ 6)) (hs : h 121 25 = (0, (s : Int))) (bs : s ≤ 30) (bd : d ≤ 3) (h1 : τ 0 i = 1) (h3 : τ 3 i = 12) (ih : ∀ g s' d' i' a K u v j, pStep τ P s d i = .inr (s', d', i') → rX B n m τ i' g → g 121 25 = (0, a) → a = (s' : Int) → s' ≤ 30 → roF h g → pItV τ P i = .inr (K, u, v, j) → (∀ e, ¬ (2477 + 9 * s ≤ e ∧ e < 2486 + 9 * s) → g 126 e = h 126 e) → rI7 (P 0 0) g s K u v → g 126 (2485 + 9 * s) = (0, (s : Int) + 1) → Q (g, none)) (er : ∀ g e, pStep τ P s d i = .inl e → rE e g → roF h g → Q (g, none)) :
    vP D T (N + 1) 304 0 h [some (2, 121), some (0, (d : Int)), none, none, none] [] Q := by
  have h0 : τ 0 i ≠ 0 := by omega
  have hE : (bW τ 20 i) = 0 := bW_0.mpr (fun c => absurd (h3.symm.trans c.2) (by decide))
  have hsw : ¬ swd τ i < 0 := by rw [swd_v h1, h3]; decide
  have hop : opW (τ 3 i) = false := by rw [h3]; rfl
  have h15 : ¬ τ 3 i = 15 := by rw [h3]; decide
  have harg : ∀ j, oArg τ P (τ 3 i) j = (eb (pNum τ 0 (P 0 2 - 1) j) fun a => eb (pWord τ 3 a.2) fun j => eb (pNum τ 0 12 j) fun b => .inr b.2) := fun j => by rw [h3]; rfl
  have hargV : ∀ j, oArV τ P 12 j = (eb (pNum τ 0 (P 0 2 - 1) j) fun a => eb (pWord τ 3 a.2) fun j => eb (pNum τ 0 12 j) fun b => .inr (a.1, b.1, b.2)) := fun _ => rfl
  refine v_loadS (v := (2, 121)) (hi_X12_readStep_0 hT) rfl rfl ?_
  refine v_call (w := 1) [some (2, 121)] hO (hi_X12_readStep_1 hT) rfl rfl (rx_stepK hT hO 4 hX h1 h3 (by decide) ?_)
  · show vP D T N 304 4 h [some (2, 121), some (0, (d : Int)), none, none, none] [(0, 4)] _
    refine v_store1 [some (2, 121), some (0, (d : Int)), some (0, 4), none, none] (hi_X12_readStep_4 hT) ⟨rfl, Nat.ne_of_beq_eq_false rfl⟩ (Nat.le_of_ble_eq_true rfl) rfl ?_
    refine v_load (v := (0, 4)) (hi_X12_readStep_5 hT) rfl rfl ?_
    refine v_push (7) (hi_X12_readStep_6 hT) rfl ?_
    refine v_ic (hi_X12_readStep_8 hT) (fun hc1 => absurd (show (4 : Int) = 7 from hc1) (by decide)) (fun _ => ?_)
    refine v_load (v := (0, 4)) (hi_X12_readStep_11 hT) rfl rfl ?_
    refine v_push (8) (hi_X12_readStep_12 hT) rfl ?_
    refine v_ic (hi_X12_readStep_14 hT) (fun hc2 => absurd (show (4 : Int) = 8 from hc2) (by decide)) (fun _ => ?_)
    refine v_push (0) (hi_X12_readStep_21 hT) rfl ?_
    refine v_store1 [some (2, 121), some (0, (d : Int)), some (0, 4), some (0, 0), none] (hi_X12_readStep_22 hT) ⟨rfl, Nat.ne_of_beq_eq_false rfl⟩ (Nat.le_of_ble_eq_true rfl) rfl ?_
    refine v_load (v := (0, 4)) (hi_X12_readStep_23 hT) rfl rfl ?_
    refine v_if (hi_X12_readStep_24 hT) (fun hc3 => absurd (show (4 : Int) < 0 from hc3) (by decide)) (fun _ => ?_)
    refine v_load (v := (2, 121)) (hi_X12_readStep_31 hT) rfl rfl ?_
    refine v_getf (v := (0, 0)) (r := 121) (hi_X12_readStep_32 hT) rfl rfl (fun _ => hX.b) ?_
    refine v_if (hi_X12_readStep_35 hT) (fun _ => ?_) (fun hc4 => absurd (show (0 : Int) = 0 from (by decide)) hc4)
    refine v_load (v := (2, 121)) (hi_X12_readStep_38 hT) rfl rfl ?_
    refine v_getf (v := (0, (s : Int))) (r := 121) (hi_X12_readStep_39 hT) rfl rfl (fun _ => hs) ?_
    refine v_push (30) (hi_X12_readStep_42 hT) rfl ?_
    refine v_ic (hi_X12_readStep_44 hT) (fun hc5 => ?_) (fun hc5 => ?_)
    · have hc5 : (s : Int) = 30 := hc5
      refine v_load (v := (2, 121)) (hi_X12_readStep_47 hT) rfl rfl ?_
      refine v_push (6) (hi_X12_readStep_48 hT) rfl ?_
      refine v_load (v := (2, 121)) (hi_X12_readStep_50 hT) rfl rfl ?_
      refine v_getf (v := (0, (τ 1 i))) (r := 121) (hi_X12_readStep_51 hT) rfl rfl (fun _ => hX.ps) ?_
      refine v_call (w := 3) [some (2, 121), some (0, 6), some (0, (τ 1 i))] hO (hi_X12_readStep_54 hT) rfl rfl (rx_fail hT hO 6 hX h1 (by decide) (fun g6 ft6 c6 => ?_))
      · show vP D T N 304 57 g6 [some (2, 121), some (0, (d : Int)), some (0, 4), some (0, 0), none] [] _
        refine vP_hv (fun hv6 => ?_)
        refine v_load (v := (2, 121)) (hi_X12_readStep_57 hT) rfl rfl ?_
        refine v_getf (v := (0, (eF τ i 6).1)) (r := 121) (hi_X12_readStep_58 hT) rfl rfl (fun _ => c6.1) ?_
        refine v_if (hi_X12_readStep_61 hT) (fun hc7 => absurd (show (eF τ i 6).1 = 0 from hc7) (by have := c6.2.1; omega)) (fun _ => ?_)
        refine v_load (v := (2, 121)) (hi_X12_readStep_83 hT) rfl rfl ?_
        refine v_getf (v := (0, (eF τ i 6).1)) (r := 121) (hi_X12_readStep_84 hT) rfl rfl (fun _ => c6.1) ?_
        refine v_if (hi_X12_readStep_87 hT) (fun _ => ?_) (fun hc8 => absurd (show 0 < (eF τ i 6).1 from c6.2.1) hc8)
        refine v_ret0 (hi_X12_readStep_90 hT) ?_
        exact er _ _ (by simp only [pStep, hE, hsw, hop, h15, opW15, harg, pNm, pWord, pSg, Bool.false_eq_true, (show 30 ≤ s from by omega), ne_eq, not_true_eq_false, not_false_eq_true, if_true, if_false, eq_self, eb_l, eb_r, and_true, true_and, and_false, false_and]) c6 (roF.t roF.rfl ft6)
    · have hc5 : (s : Int) ≠ 30 := hc5
      refine v_load (v := (2, 121)) (hi_X12_readStep_57 hT) rfl rfl ?_
      refine v_getf (v := (0, 0)) (r := 121) (hi_X12_readStep_58 hT) rfl rfl (fun _ => hX.b) ?_
      refine v_if (hi_X12_readStep_61 hT) (fun _ => ?_) (fun hc9 => absurd (show (0 : Int) = 0 from (by decide)) hc9)
      refine v_load (v := (0, 0)) (hi_X12_readStep_64 hT) rfl rfl ?_
      refine v_if (hi_X12_readStep_65 hT) (fun _ => ?_) (fun hc10 => absurd (show (0 : Int) = 0 from (by decide)) hc10)
      refine v_load (v := (2, 121)) (hi_X12_readStep_83 hT) rfl rfl ?_
      refine v_getf (v := (0, 0)) (r := 121) (hi_X12_readStep_84 hT) rfl rfl (fun _ => hX.b) ?_
      refine v_if (hi_X12_readStep_87 hT) (fun hc11 => absurd (show 0 < (0 : Int) from hc11) (by decide)) (fun _ => ?_)
      refine v_push (2477) (hi_X12_readStep_91 hT) rfl ?_
      refine v_push (9) (hi_X12_readStep_94 hT) rfl ?_
      refine v_load (v := (2, 121)) (hi_X12_readStep_96 hT) rfl rfl ?_
      refine v_getf (v := (0, (s : Int))) (r := 121) (hi_X12_readStep_97 hT) rfl rfl (fun _ => hs) ?_
      refine v_bin (w := (9 * (s : Int))) (hi_X12_readStep_100 hT) (hq_mul (by omega) (by omega)) ?_
      refine v_bin (w := (2477 + (9 * (s : Int)))) (hi_X12_readStep_101 hT) (hq_add (by omega) (by omega)) ?_
      refine v_store1 [some (2, 121), some (0, (d : Int)), some (0, 4), some (0, 0), some (0, (2477 + (9 * (s : Int))))] (hi_X12_readStep_102 hT) ⟨rfl, Nat.ne_of_beq_eq_false rfl⟩ (Nat.le_of_ble_eq_true rfl) rfl ?_
      refine v_load (v := (2, 121)) (hi_X12_readStep_104 hT) rfl rfl ?_
      refine v_dup (hi_X12_readStep_105 hT) (Nat.ne_of_beq_eq_false rfl) ?_
      refine v_getf (v := (0, (s : Int))) (r := 121) (hi_X12_readStep_106 hT) rfl rfl (fun _ => hs) ?_
      refine v_push (1) (hi_X12_readStep_109 hT) rfl ?_
      refine v_bin (w := ((s : Int) + 1)) (hi_X12_readStep_110 hT) (hq_add (by omega) (by omega)) ?_
      refine v_putf (r := 121) hO (hi_X12_readStep_111 hT) rfl (fun hf12 => ?_)
      refine v_load (v := (2, 121)) (hi_X12_readStep_114 hT) rfl rfl ?_
      refine v_call (w := 2) [some (2, 121), none] hO (hi_X12_readStep_115 hT) rfl rfl (rx_next hT hO (rX.zf (k := 25) (v := (0, ((s : Int) + 1))) (by decide) hX) (ne_10 h1) (ne_14 h1) (fun g13 ft13 hX13 => ?_))
      · show vP D T N 304 118 g13 [some (2, 121), some (0, (d : Int)), some (0, 4), some (0, 0), some (0, (2477 + (9 * (s : Int))))] [] _
        refine vP_hv (fun hv13 => ?_)
        refine v_load (v := (2, 121)) (hi_X12_readStep_118 hT) rfl rfl ?_
        refine v_getR (c := 126) (r := 121) (hi_X12_readStep_119 hT) rfl rfl rfl ?_
        refine v_load (v := (0, (2477 + (9 * (s : Int))))) (hi_X12_readStep_122 hT) rfl rfl ?_
        refine v_load (v := (0, 4)) (hi_X12_readStep_124 hT) rfl rfl ?_
        refine v_ast (r := 126) (hi_X12_readStep_125 hT) rfl rfl (fun ha14 hb15 hf16 => ?_)
        refine v_load (v := (2, 121)) (hi_X12_readStep_126 hT) rfl rfl ?_
        refine v_load (v := (0, (2477 + (9 * (s : Int))))) (hi_X12_readStep_127 hT) rfl rfl ?_
        refine v_call (w := 3) [some (2, 121), some (0, (2477 + (9 * (s : Int)))), none] hO (hi_X12_readStep_129 hT) rfl rfl ?_
        refine v_load (v := (2, 121)) (hi_X12_readRest_0 hT) rfl rfl ?_
        refine v_getR (c := 126) (r := 121) (hi_X12_readRest_1 hT) rfl rfl rfl ?_
        refine v_load (v := (0, (2477 + (9 * (s : Int))))) (hi_X12_readRest_4 hT) rfl rfl ?_
        refine v_aldV (v := (0, 4)) (r := 126) (hi_X12_readRest_5 hT) rfl rfl (fun _ _ _ => zset_same) (fun ha17 hb18 => ?_)
        refine v_store1 [some (2, 121), some (0, (2477 + (9 * (s : Int)))), some (0, 4)] (hi_X12_readRest_6 hT) ⟨rfl, Nat.ne_of_beq_eq_false rfl⟩ (Nat.le_of_ble_eq_true rfl) rfl ?_
        refine v_load (v := (0, 4)) (hi_X12_readRest_7 hT) rfl rfl ?_
        refine v_if (hi_X12_readRest_8 hT) (fun hc19 => absurd (show (4 : Int) = 0 from hc19) (by decide)) (fun _ => ?_)
        refine v_load (v := (0, 4)) (hi_X12_readRest_11 hT) rfl rfl ?_
        refine v_push (2) (hi_X12_readRest_12 hT) rfl ?_
        refine v_ic (hi_X12_readRest_13 hT) (fun hc20 => absurd (show (4 : Int) = 2 from hc20) (by decide)) (fun _ => ?_)
        refine v_load (v := (0, 4)) (hi_X12_readRest_52 hT) rfl rfl ?_
        refine v_push (1) (hi_X12_readRest_53 hT) rfl ?_
        refine v_ic (hi_X12_readRest_54 hT) (fun hc21 => absurd (show (4 : Int) = 1 from hc21) (by decide)) (fun _ => ?_)
        refine v_load (v := (0, 4)) (hi_X12_readRest_72 hT) rfl rfl ?_
        refine v_push (3) (hi_X12_readRest_73 hT) rfl ?_
        refine v_ic (hi_X12_readRest_74 hT) (fun hc22 => absurd (show (4 : Int) = 3 from hc22) (by decide)) (fun _ => ?_)
        refine v_load (v := (0, 4)) (hi_X12_readRest_112 hT) rfl rfl ?_
        refine v_push (4) (hi_X12_readRest_113 hT) rfl ?_
        refine v_ic (hi_X12_readRest_114 hT) (fun _ => ?_) (fun hc23 => absurd (show (4 : Int) = 4 from (by decide)) hc23)
        refine v_load (v := (2, 121)) (hz_X12_readRest hT _ _ rfl) rfl rfl ?_
        refine v_getR (c := 126) (r := 121) (hz_X12_readRest hT _ _ rfl) rfl rfl rfl ?_
        refine v_load (v := (0, (2477 + (9 * (s : Int))))) (hz_X12_readRest hT _ _ rfl) rfl rfl ?_
        refine v_push (1) (hz_X12_readRest hT _ _ rfl) rfl ?_
        refine v_bin (w := ((2477 + (9 * (s : Int))) + 1)) (hz_X12_readRest hT _ _ rfl) (hq_add (by omega) (by omega)) ?_
        refine v_load (v := (2, 121)) (hz_X12_readRest hT _ _ rfl) rfl rfl ?_
        refine v_call (w := 1) [some (2, 121)] hO (hz_X12_readRest hT _ _ rfl) rfl rfl ?_
        refine v_load (v := (2, 121)) (hi_X12_readCopy_0 hT) rfl rfl ?_
        refine v_push (0) (hi_X12_readCopy_1 hT) rfl ?_
        refine v_load (v := (2, 121)) (hi_X12_readCopy_2 hT) rfl rfl ?_
        refine v_getR (c := 126) (r := 121) (hi_X12_readCopy_3 hT) rfl rfl rfl ?_
        refine v_push (2) (hi_X12_readCopy_6 hT) rfl ?_
        refine v_aldV (v := (0, (P 0 2))) (r := 126) (hi_X12_readCopy_7 hT) rfl rfl (fun _ _ _ => (Eq.trans (zset_ne (fun c => by omega)) ((Eq.trans (ft13 126 2 (by first | decide | exact fun c => by omega)) (Eq.trans (zset_ne (fun c => absurd c.1 (by decide))) (e2)))))) (fun ha24 hb25 => ?_)
        refine v_push (1) (hi_X12_readCopy_8 hT) rfl ?_
        refine v_bin (w := ((P 0 2) - 1)) (hi_X12_readCopy_9 hT) (hq_sub (by omega) (by omega)) ?_
        refine v_call (w := 4) [some (2, 121), some (0, 0), some (0, ((P 0 2) - 1)), none] hO (hi_X12_readCopy_10 hT) rfl rfl (rx_num hT hO 0 (((P 0 2) - 1)) (rX.z (r := 126) (k := (((2477 + (9 * (s : Int)))).toNat)) (v := (0, 4)) (by decide) hX13) (fun g27 x26 ft27 q27 bux26 bvx26 hX27 => ?_) (fun g28 e28 ft28 q28 c28 => ?_))
        · show vP D T N 299 13 g27 [some (2, 121)] [(0, x26)] _
          refine vP_hv (fun hv27 => ?_)
          refine v_ret (hi_X12_readCopy_13 hT) (Or.inl rfl) ?_
          show vP D T N 301 128 g27 [some (2, 121), some (0, (2477 + (9 * (s : Int)))), some (0, 4)] [(0, x26), (0, ((2477 + (9 * (s : Int))) + 1)), (2, 126)] _
          refine v_ast (r := 126) (hz_X12_readRest hT _ _ rfl) rfl rfl (fun ha29 hb30 hf31 => ?_)
          refine v_load (v := (2, 121)) (hz_X12_readRest hT _ _ rfl) rfl rfl ?_
          refine v_load (v := (2, 121)) (hz_X12_readRest hT _ _ rfl) rfl rfl ?_
          refine v_call (w := 1) [some (2, 121)] hO (hz_X12_readRest hT _ _ rfl) rfl rfl (rx_isBy hT hO (rX.z (r := 126) (k := ((((2477 + (9 * (s : Int))) + 1)).toNat)) (v := (0, x26)) (by decide) hX27) ?_)
          · show vP D T N 301 134 (zset g27 126 ((((2477 + (9 * (s : Int))) + 1)).toNat) (0, x26)) [some (2, 121), some (0, (2477 + (9 * (s : Int)))), some (0, 4)] [(0, (bW τ 3 (i + 1 + 1))), (2, 121)] _
            refine v_call (w := 2) [some (2, 121), some (0, (bW τ 3 (i + 1 + 1)))] hO (hz_X12_readRest hT _ _ rfl) rfl rfl (rx_must hT hO ((bW τ 3 (i + 1 + 1))) (rX.z (r := 126) (k := ((((2477 + (9 * (s : Int))) + 1)).toNat)) (v := (0, x26)) (by decide) hX27) (fun c => ⟨ne_10 (bW_y.mp c).1, ne_14 (bW_y.mp c).1⟩) (fun g33 ft33 hc32 hX33 => ?_) (fun g34 ft34 hc34 c34 => ?_))
            · show vP D T N 301 137 g33 [some (2, 121), some (0, (2477 + (9 * (s : Int)))), some (0, 4)] [] _
              refine vP_hv (fun hv33 => ?_)
              refine v_load (v := (2, 121)) (hz_X12_readRest hT _ _ rfl) rfl rfl ?_
              refine v_getR (c := 126) (r := 121) (hz_X12_readRest hT _ _ rfl) rfl rfl rfl ?_
              refine v_load (v := (0, (2477 + (9 * (s : Int))))) (hz_X12_readRest hT _ _ rfl) rfl rfl ?_
              refine v_push (2) (hz_X12_readRest hT _ _ rfl) rfl ?_
              refine v_bin (w := ((2477 + (9 * (s : Int))) + 2)) (hz_X12_readRest hT _ _ rfl) (hq_add (by omega) (by omega)) ?_
              refine v_load (v := (2, 121)) (hz_X12_readRest hT _ _ rfl) rfl rfl ?_
              refine v_push (0) (hz_X12_readRest hT _ _ rfl) rfl ?_
              refine v_push (12) (hz_X12_readRest hT _ _ rfl) rfl ?_
              refine v_call (w := 4) [some (2, 121), some (0, 0), some (0, 12), none] hO (hz_X12_readRest hT _ _ rfl) rfl rfl (rx_num hT hO 0 12 hX33 (fun g36 x35 ft36 q36 bux35 bvx35 hX36 => ?_) (fun g37 e37 ft37 q37 c37 => ?_))
              · show vP D T N 301 151 g36 [some (2, 121), some (0, (2477 + (9 * (s : Int)))), some (0, 4)] [(0, x35), (0, ((2477 + (9 * (s : Int))) + 2)), (2, 126)] _
                refine vP_hv (fun hv36 => ?_)
                refine v_ast (r := 126) (hi_X12_readRest_151 hT) rfl rfl (fun ha38 hb39 hf40 => ?_)
                refine v_goto (hi_X12_readRest_152 hT) ?_
                refine v_ret0 (hi_X12_readRest_210 hT) ?_
                show vP D T N 304 132 (zset g36 126 ((((2477 + (9 * (s : Int))) + 2)).toNat) (0, x35)) [some (2, 121), some (0, (d : Int)), some (0, 4), some (0, 0), some (0, (2477 + (9 * (s : Int))))] [] _
                refine v_load (v := (2, 121)) (hi_X12_readStep_132 hT) rfl rfl ?_
                refine v_load (v := (2, 121)) (hi_X12_readStep_133 hT) rfl rfl ?_
                refine v_push (59) (hi_X12_readStep_134 hT) rfl ?_
                refine v_call (w := 2) [some (2, 121), some (0, 59)] hO (hi_X12_readStep_136 hT) rfl rfl (rx_isSign hT hO 59 (rX.z (r := 126) (k := ((((2477 + (9 * (s : Int))) + 2)).toNat)) (v := (0, x35)) (by decide) hX36) ?_)
                · show vP D T N 304 139 (zset g36 126 ((((2477 + (9 * (s : Int))) + 2)).toNat) (0, x35)) [some (2, 121), some (0, (d : Int)), some (0, 4), some (0, 0), some (0, (2477 + (9 * (s : Int))))] [(0, (bG τ 59 (i + 1 + 1 + 1 + 1))), (2, 121)] _
                  refine v_call (w := 2) [some (2, 121), some (0, (bG τ 59 (i + 1 + 1 + 1 + 1)))] hO (hi_X12_readStep_139 hT) rfl rfl (rx_must hT hO ((bG τ 59 (i + 1 + 1 + 1 + 1))) (rX.z (r := 126) (k := ((((2477 + (9 * (s : Int))) + 2)).toNat)) (v := (0, x35)) (by decide) hX36) (fun c => ⟨by have := (bG_y.mp c).1; omega, by have := (bG_y.mp c).1; omega⟩) (fun g42 ft42 hc41 hX42 => ?_) (fun g43 ft43 hc43 c43 => ?_))
                  · show vP D T N 304 142 g42 [some (2, 121), some (0, (d : Int)), some (0, 4), some (0, 0), some (0, (2477 + (9 * (s : Int))))] [] _
                    refine vP_hv (fun hv42 => ?_)
                    refine v_load (v := (0, 0)) (hi_X12_readStep_142 hT) rfl rfl ?_
                    refine v_if (hi_X12_readStep_143 hT) (fun _ => ?_) (fun hc44 => absurd (show (0 : Int) = 0 from (by decide)) hc44)
                    refine v_load (v := (0, 0)) (hi_X12_readStep_170 hT) rfl rfl ?_
                    refine v_if (hi_X12_readStep_171 hT) (fun _ => ?_) (fun hc45 => absurd (show (0 : Int) = 0 from (by decide)) hc45)
                    refine v_load (v := (2, 121)) (hi_X12_readStep_192 hT) rfl rfl ?_
                    refine v_getR (c := 126) (r := 121) (hi_X12_readStep_193 hT) rfl rfl rfl ?_
                    refine v_load (v := (0, (2477 + (9 * (s : Int))))) (hi_X12_readStep_196 hT) rfl rfl ?_
                    refine v_push (8) (hi_X12_readStep_198 hT) rfl ?_
                    refine v_bin (w := ((2477 + (9 * (s : Int))) + 8)) (hi_X12_readStep_200 hT) (hq_add (by omega) (by omega)) ?_
                    refine v_load (v := (2, 121)) (hi_X12_readStep_201 hT) rfl rfl ?_
                    refine v_getf (v := (0, ((s : Int) + 1))) (r := 121) (hi_X12_readStep_202 hT) rfl rfl (fun _ => (Eq.trans (ft42 121 25 (by first | decide | exact fun c => by omega)) (Eq.trans (zset_ne (fun c => absurd c.1 (by decide))) ((Eq.trans (ft36 121 25 (by first | decide | exact fun c => by omega)) (Eq.trans (ft33 121 25 (by first | decide | exact fun c => by omega)) (Eq.trans (zset_ne (fun c => absurd c.1 (by decide))) ((Eq.trans (ft27 121 25 (by first | decide | exact fun c => by omega)) (Eq.trans (zset_ne (fun c => absurd c.1 (by decide))) ((Eq.trans (ft13 121 25 (by first | decide | exact fun c => by omega)) (zset_same))))))))))))) ?_
                    refine v_ast (r := 126) (hi_X12_readStep_205 hT) rfl rfl (fun ha46 hb47 hf48 => ?_)
                    refine v_ret0 (hi_X12_readStep_206 hT) ?_
                    have kp_ : ∀ e, (zset g42 126 ((((2477 + (9 * (s : Int))) + 8)).toNat) (0, ((s : Int) + 1))) 126 e = (zset (zset (zset (zset h 126 (((2477 + (9 * (s : Int)))).toNat) (0, 4)) 126 ((((2477 + (9 * (s : Int))) + 1)).toNat) (0, x26)) 126 ((((2477 + (9 * (s : Int))) + 2)).toNat) (0, x35)) 126 ((((2477 + (9 * (s : Int))) + 8)).toNat) (0, ((s : Int) + 1))) 126 e := (kr_z (k := ((((2477 + (9 * (s : Int))) + 8)).toNat)) (v := (0, ((s : Int) + 1))) (kr_f (fun e => ft42 126 e (fun c => by omega)) (kr_z (k := ((((2477 + (9 * (s : Int))) + 2)).toNat)) (v := (0, x35)) (kr_f (fun e => ft36 126 e (fun c => by omega)) (kr_f (fun e => ft33 126 e (fun c => by omega)) (kr_z (k := ((((2477 + (9 * (s : Int))) + 1)).toNat)) (v := (0, x26)) (kr_f (fun e => ft27 126 e (fun c => by omega)) (kr_z (k := (((2477 + (9 * (s : Int)))).toNat)) (v := (0, 4)) (kr_f (fun e => ft13 126 e (fun c => by omega)) (kr_n (a := 121) (k := 25) (v := (0, ((s : Int) + 1))) (by decide) (fun _ => Eq.refl _)))))))))))
                    exact ih _ (s + 1) (d) (i + 1 + 1 + 1 + 1 + 1) _ 12 x26 x35 (i + 1 + 1 + 1 + 1) (by simp only [pStep, hE, hsw, hop, h15, opW15, harg, pNm, pWord, pSg, Bool.false_eq_true, (show ¬ 30 ≤ s from by omega), q27, hc32, q36, hc41, ne_eq, not_true_eq_false, not_false_eq_true, if_true, if_false, eq_self, eb_l, eb_r, and_true, true_and, and_false, false_and]) (rX.z (r := 126) (k := ((((2477 + (9 * (s : Int))) + 8)).toNat)) (v := (0, ((s : Int) + 1))) (by decide) hX42) (Eq.trans (zset_ne (fun c => absurd c.1 (by decide))) ((Eq.trans (ft42 121 25 (by first | decide | exact fun c => by omega)) (Eq.trans (zset_ne (fun c => absurd c.1 (by decide))) ((Eq.trans (ft36 121 25 (by first | decide | exact fun c => by omega)) (Eq.trans (ft33 121 25 (by first | decide | exact fun c => by omega)) (Eq.trans (zset_ne (fun c => absurd c.1 (by decide))) ((Eq.trans (ft27 121 25 (by first | decide | exact fun c => by omega)) (Eq.trans (zset_ne (fun c => absurd c.1 (by decide))) ((Eq.trans (ft13 121 25 (by first | decide | exact fun c => by omega)) (zset_same)))))))))))))) (by omega) (by omega) (roF.z (a := 126) (b := ((((2477 + (9 * (s : Int))) + 8)).toNat)) (v := (0, ((s : Int) + 1))) (by omega) (roF.t (roF.z (a := 126) (b := ((((2477 + (9 * (s : Int))) + 2)).toNat)) (v := (0, x35)) (by omega) (roF.t (roF.t (roF.z (a := 126) (b := ((((2477 + (9 * (s : Int))) + 1)).toNat)) (v := (0, x26)) (by omega) (roF.t (roF.z (a := 126) (b := (((2477 + (9 * (s : Int)))).toNat)) (v := (0, 4)) (by omega) (roF.t (roF.z (a := 121) (b := 25) (v := (0, ((s : Int) + 1))) (by omega) roF.rfl) ft13)) ft27)) ft33) ft36)) ft42)) (pItV_a h3 (by decide) (by simp only [hargV, pWord, (show ¬ 30 ≤ s from by omega), q27, hc32, q36, hc41, ne_eq, not_true_eq_false, not_false_eq_true, if_true, if_false, eq_self, eb_l, eb_r, and_true, true_and, and_false, false_and])) (fun e_ hn_ => (kp_ e_).trans ((zset_ne (fun c => hn_ (by omega))).trans ((zset_ne (fun c => hn_ (by omega))).trans ((zset_ne (fun c => hn_ (by omega))).trans (zset_ne (fun c => hn_ (by omega))))))) ⟨((kp_ _).trans ((zset_ne (fun c => by omega)).trans ((zset_ne (fun c => by omega)).trans ((zset_ne (fun c => by omega)).trans (zset_e (by omega)))))), (fun _ => ((kp_ _).trans ((zset_ne (fun c => by omega)).trans ((zset_ne (fun c => by omega)).trans (zset_e (by omega)))))), (fun c => absurd c (by decide)), (fun _ => ((kp_ _).trans ((zset_ne (fun c => by omega)).trans (zset_e (by omega))))), (fun c => absurd c (by decide)), (fun c => absurd c (by decide))⟩ ((kp_ _).trans (zset_e (by omega)))
                  · show vP D T N 304 142 g43 [some (2, 121), some (0, (d : Int)), some (0, 4), some (0, 0), some (0, (2477 + (9 * (s : Int))))] [] _
                    refine vP_hv (fun hv43 => ?_)
                    refine v_load (v := (0, 0)) (hi_X12_readStep_142 hT) rfl rfl ?_
                    refine v_if (hi_X12_readStep_143 hT) (fun _ => ?_) (fun hc49 => absurd (show (0 : Int) = 0 from (by decide)) hc49)
                    refine v_load (v := (0, 0)) (hi_X12_readStep_170 hT) rfl rfl ?_
                    refine v_if (hi_X12_readStep_171 hT) (fun _ => ?_) (fun hc50 => absurd (show (0 : Int) = 0 from (by decide)) hc50)
                    refine v_load (v := (2, 121)) (hi_X12_readStep_192 hT) rfl rfl ?_
                    refine v_getR (c := 126) (r := 121) (hi_X12_readStep_193 hT) rfl rfl rfl ?_
                    refine v_load (v := (0, (2477 + (9 * (s : Int))))) (hi_X12_readStep_196 hT) rfl rfl ?_
                    refine v_push (8) (hi_X12_readStep_198 hT) rfl ?_
                    refine v_bin (w := ((2477 + (9 * (s : Int))) + 8)) (hi_X12_readStep_200 hT) (hq_add (by omega) (by omega)) ?_
                    refine v_load (v := (2, 121)) (hi_X12_readStep_201 hT) rfl rfl ?_
                    refine v_getf (v := (0, ((s : Int) + 1))) (r := 121) (hi_X12_readStep_202 hT) rfl rfl (fun _ => (Eq.trans (ft43 121 25 (by first | decide | exact fun c => by omega)) (Eq.trans (zset_ne (fun c => absurd c.1 (by decide))) ((Eq.trans (ft36 121 25 (by first | decide | exact fun c => by omega)) (Eq.trans (ft33 121 25 (by first | decide | exact fun c => by omega)) (Eq.trans (zset_ne (fun c => absurd c.1 (by decide))) ((Eq.trans (ft27 121 25 (by first | decide | exact fun c => by omega)) (Eq.trans (zset_ne (fun c => absurd c.1 (by decide))) ((Eq.trans (ft13 121 25 (by first | decide | exact fun c => by omega)) (zset_same))))))))))))) ?_
                    refine v_ast (r := 126) (hi_X12_readStep_205 hT) rfl rfl (fun ha51 hb52 hf53 => ?_)
                    refine v_ret0 (hi_X12_readStep_206 hT) ?_
                    exact er _ _ (by simp only [pStep, hE, hsw, hop, h15, opW15, harg, pNm, pWord, pSg, Bool.false_eq_true, (show ¬ 30 ≤ s from by omega), q27, hc32, q36, hc43, ne_eq, not_true_eq_false, not_false_eq_true, if_true, if_false, eq_self, eb_l, eb_r, and_true, true_and, and_false, false_and]) (rE.z (r := 126) (k := ((((2477 + (9 * (s : Int))) + 8)).toNat)) (v := (0, ((s : Int) + 1))) (by decide) c43) (roF.z (a := 126) (b := ((((2477 + (9 * (s : Int))) + 8)).toNat)) (v := (0, ((s : Int) + 1))) (by omega) (roF.t (roF.z (a := 126) (b := ((((2477 + (9 * (s : Int))) + 2)).toNat)) (v := (0, x35)) (by omega) (roF.t (roF.t (roF.z (a := 126) (b := ((((2477 + (9 * (s : Int))) + 1)).toNat)) (v := (0, x26)) (by omega) (roF.t (roF.z (a := 126) (b := (((2477 + (9 * (s : Int)))).toNat)) (v := (0, 4)) (by omega) (roF.t (roF.z (a := 121) (b := 25) (v := (0, ((s : Int) + 1))) (by omega) roF.rfl) ft13)) ft27)) ft33) ft36)) ft43))
              · show vP D T N 301 151 g37 [some (2, 121), some (0, (2477 + (9 * (s : Int)))), some (0, 4)] [(0, 0), (0, ((2477 + (9 * (s : Int))) + 2)), (2, 126)] _
                refine vP_hv (fun hv37 => ?_)
                refine v_ast (r := 126) (hi_X12_readRest_151 hT) rfl rfl (fun ha54 hb55 hf56 => ?_)
                refine v_goto (hi_X12_readRest_152 hT) ?_
                refine v_ret0 (hi_X12_readRest_210 hT) ?_
                show vP D T N 304 132 (zset g37 126 ((((2477 + (9 * (s : Int))) + 2)).toNat) (0, 0)) [some (2, 121), some (0, (d : Int)), some (0, 4), some (0, 0), some (0, (2477 + (9 * (s : Int))))] [] _
                refine v_load (v := (2, 121)) (hi_X12_readStep_132 hT) rfl rfl ?_
                refine v_load (v := (2, 121)) (hi_X12_readStep_133 hT) rfl rfl ?_
                refine v_push (59) (hi_X12_readStep_134 hT) rfl ?_
                refine v_call (w := 2) [some (2, 121), some (0, 59)] hO (hi_X12_readStep_136 hT) rfl rfl (rb_any_isSign hT hO (fun v57 => ?_))
                · show vP D T N 304 139 (zset g37 126 ((((2477 + (9 * (s : Int))) + 2)).toNat) (0, 0)) [some (2, 121), some (0, (d : Int)), some (0, 4), some (0, 0), some (0, (2477 + (9 * (s : Int))))] [(0, v57), (2, 121)] _
                  refine v_call (w := 2) [some (2, 121), some (0, v57)] hO (hi_X12_readStep_139 hT) rfl rfl (rx_mustB hT hO v57 (rE.z (r := 126) (k := ((((2477 + (9 * (s : Int))) + 2)).toNat)) (v := (0, 0)) (by decide) c37) ?_)
                  · show vP D T N 304 142 (zset g37 126 ((((2477 + (9 * (s : Int))) + 2)).toNat) (0, 0)) [some (2, 121), some (0, (d : Int)), some (0, 4), some (0, 0), some (0, (2477 + (9 * (s : Int))))] [] _
                    refine v_load (v := (0, 0)) (hi_X12_readStep_142 hT) rfl rfl ?_
                    refine v_if (hi_X12_readStep_143 hT) (fun _ => ?_) (fun hc58 => absurd (show (0 : Int) = 0 from (by decide)) hc58)
                    refine v_load (v := (0, 0)) (hi_X12_readStep_170 hT) rfl rfl ?_
                    refine v_if (hi_X12_readStep_171 hT) (fun _ => ?_) (fun hc59 => absurd (show (0 : Int) = 0 from (by decide)) hc59)
                    refine v_load (v := (2, 121)) (hi_X12_readStep_192 hT) rfl rfl ?_
                    refine v_getR (c := 126) (r := 121) (hi_X12_readStep_193 hT) rfl rfl rfl ?_
                    refine v_load (v := (0, (2477 + (9 * (s : Int))))) (hi_X12_readStep_196 hT) rfl rfl ?_
                    refine v_push (8) (hi_X12_readStep_198 hT) rfl ?_
                    refine v_bin (w := ((2477 + (9 * (s : Int))) + 8)) (hi_X12_readStep_200 hT) (hq_add (by omega) (by omega)) ?_
                    refine v_load (v := (2, 121)) (hi_X12_readStep_201 hT) rfl rfl ?_
                    refine v_getf (v := (0, ((s : Int) + 1))) (r := 121) (hi_X12_readStep_202 hT) rfl rfl (fun _ => Eq.trans (zset_ne (fun c => absurd c.1 (by decide))) ((Eq.trans (ft37 121 25 (by first | decide | exact fun c => by omega)) (Eq.trans (ft33 121 25 (by first | decide | exact fun c => by omega)) (Eq.trans (zset_ne (fun c => absurd c.1 (by decide))) ((Eq.trans (ft27 121 25 (by first | decide | exact fun c => by omega)) (Eq.trans (zset_ne (fun c => absurd c.1 (by decide))) ((Eq.trans (ft13 121 25 (by first | decide | exact fun c => by omega)) (zset_same))))))))))) ?_
                    refine v_ast (r := 126) (hi_X12_readStep_205 hT) rfl rfl (fun ha60 hb61 hf62 => ?_)
                    refine v_ret0 (hi_X12_readStep_206 hT) ?_
                    exact er _ _ (by simp only [pStep, hE, hsw, hop, h15, opW15, harg, pNm, pWord, pSg, Bool.false_eq_true, (show ¬ 30 ≤ s from by omega), q27, hc32, q37, ne_eq, not_true_eq_false, not_false_eq_true, if_true, if_false, eq_self, eb_l, eb_r, and_true, true_and, and_false, false_and]) (rE.z (r := 126) (k := ((((2477 + (9 * (s : Int))) + 8)).toNat)) (v := (0, ((s : Int) + 1))) (by decide) (rE.z (r := 126) (k := ((((2477 + (9 * (s : Int))) + 2)).toNat)) (v := (0, 0)) (by decide) c37)) (roF.z (a := 126) (b := ((((2477 + (9 * (s : Int))) + 8)).toNat)) (v := (0, ((s : Int) + 1))) (by omega) (roF.z (a := 126) (b := ((((2477 + (9 * (s : Int))) + 2)).toNat)) (v := (0, 0)) (by omega) (roF.t (roF.t (roF.z (a := 126) (b := ((((2477 + (9 * (s : Int))) + 1)).toNat)) (v := (0, x26)) (by omega) (roF.t (roF.z (a := 126) (b := (((2477 + (9 * (s : Int)))).toNat)) (v := (0, 4)) (by omega) (roF.t (roF.z (a := 121) (b := 25) (v := (0, ((s : Int) + 1))) (by omega) roF.rfl) ft13)) ft27)) ft33) ft37)))
            · show vP D T N 301 137 g34 [some (2, 121), some (0, (2477 + (9 * (s : Int)))), some (0, 4)] [] _
              refine vP_hv (fun hv34 => ?_)
              refine v_load (v := (2, 121)) (hz_X12_readRest hT _ _ rfl) rfl rfl ?_
              refine v_getR (c := 126) (r := 121) (hz_X12_readRest hT _ _ rfl) rfl rfl rfl ?_
              refine v_load (v := (0, (2477 + (9 * (s : Int))))) (hz_X12_readRest hT _ _ rfl) rfl rfl ?_
              refine v_push (2) (hz_X12_readRest hT _ _ rfl) rfl ?_
              refine v_bin (w := ((2477 + (9 * (s : Int))) + 2)) (hz_X12_readRest hT _ _ rfl) (hq_add (by omega) (by omega)) ?_
              refine v_load (v := (2, 121)) (hz_X12_readRest hT _ _ rfl) rfl rfl ?_
              refine v_push (0) (hz_X12_readRest hT _ _ rfl) rfl ?_
              refine v_push (12) (hz_X12_readRest hT _ _ rfl) rfl ?_
              refine v_call (w := 4) [some (2, 121), some (0, 0), some (0, 12), none] hO (hz_X12_readRest hT _ _ rfl) rfl rfl (rx_numB hT hO 0 12 c34 ?_)
              · show vP D T N 301 151 g34 [some (2, 121), some (0, (2477 + (9 * (s : Int)))), some (0, 4)] [(0, 0), (0, ((2477 + (9 * (s : Int))) + 2)), (2, 126)] _
                refine v_ast (r := 126) (hi_X12_readRest_151 hT) rfl rfl (fun ha63 hb64 hf65 => ?_)
                refine v_goto (hi_X12_readRest_152 hT) ?_
                refine v_ret0 (hi_X12_readRest_210 hT) ?_
                show vP D T N 304 132 (zset g34 126 ((((2477 + (9 * (s : Int))) + 2)).toNat) (0, 0)) [some (2, 121), some (0, (d : Int)), some (0, 4), some (0, 0), some (0, (2477 + (9 * (s : Int))))] [] _
                refine v_load (v := (2, 121)) (hi_X12_readStep_132 hT) rfl rfl ?_
                refine v_load (v := (2, 121)) (hi_X12_readStep_133 hT) rfl rfl ?_
                refine v_push (59) (hi_X12_readStep_134 hT) rfl ?_
                refine v_call (w := 2) [some (2, 121), some (0, 59)] hO (hi_X12_readStep_136 hT) rfl rfl (rb_any_isSign hT hO (fun v66 => ?_))
                · show vP D T N 304 139 (zset g34 126 ((((2477 + (9 * (s : Int))) + 2)).toNat) (0, 0)) [some (2, 121), some (0, (d : Int)), some (0, 4), some (0, 0), some (0, (2477 + (9 * (s : Int))))] [(0, v66), (2, 121)] _
                  refine v_call (w := 2) [some (2, 121), some (0, v66)] hO (hi_X12_readStep_139 hT) rfl rfl (rx_mustB hT hO v66 (rE.z (r := 126) (k := ((((2477 + (9 * (s : Int))) + 2)).toNat)) (v := (0, 0)) (by decide) c34) ?_)
                  · show vP D T N 304 142 (zset g34 126 ((((2477 + (9 * (s : Int))) + 2)).toNat) (0, 0)) [some (2, 121), some (0, (d : Int)), some (0, 4), some (0, 0), some (0, (2477 + (9 * (s : Int))))] [] _
                    refine v_load (v := (0, 0)) (hi_X12_readStep_142 hT) rfl rfl ?_
                    refine v_if (hi_X12_readStep_143 hT) (fun _ => ?_) (fun hc67 => absurd (show (0 : Int) = 0 from (by decide)) hc67)
                    refine v_load (v := (0, 0)) (hi_X12_readStep_170 hT) rfl rfl ?_
                    refine v_if (hi_X12_readStep_171 hT) (fun _ => ?_) (fun hc68 => absurd (show (0 : Int) = 0 from (by decide)) hc68)
                    refine v_load (v := (2, 121)) (hi_X12_readStep_192 hT) rfl rfl ?_
                    refine v_getR (c := 126) (r := 121) (hi_X12_readStep_193 hT) rfl rfl rfl ?_
                    refine v_load (v := (0, (2477 + (9 * (s : Int))))) (hi_X12_readStep_196 hT) rfl rfl ?_
                    refine v_push (8) (hi_X12_readStep_198 hT) rfl ?_
                    refine v_bin (w := ((2477 + (9 * (s : Int))) + 8)) (hi_X12_readStep_200 hT) (hq_add (by omega) (by omega)) ?_
                    refine v_load (v := (2, 121)) (hi_X12_readStep_201 hT) rfl rfl ?_
                    refine v_getf (v := (0, ((s : Int) + 1))) (r := 121) (hi_X12_readStep_202 hT) rfl rfl (fun _ => Eq.trans (zset_ne (fun c => absurd c.1 (by decide))) ((Eq.trans (ft34 121 25 (by first | decide | exact fun c => by omega)) (Eq.trans (zset_ne (fun c => absurd c.1 (by decide))) ((Eq.trans (ft27 121 25 (by first | decide | exact fun c => by omega)) (Eq.trans (zset_ne (fun c => absurd c.1 (by decide))) ((Eq.trans (ft13 121 25 (by first | decide | exact fun c => by omega)) (zset_same)))))))))) ?_
                    refine v_ast (r := 126) (hi_X12_readStep_205 hT) rfl rfl (fun ha69 hb70 hf71 => ?_)
                    refine v_ret0 (hi_X12_readStep_206 hT) ?_
                    exact er _ _ (by simp only [pStep, hE, hsw, hop, h15, opW15, harg, pNm, pWord, pSg, Bool.false_eq_true, (show ¬ 30 ≤ s from by omega), q27, hc34, ne_eq, not_true_eq_false, not_false_eq_true, if_true, if_false, eq_self, eb_l, eb_r, and_true, true_and, and_false, false_and]) (rE.z (r := 126) (k := ((((2477 + (9 * (s : Int))) + 8)).toNat)) (v := (0, ((s : Int) + 1))) (by decide) (rE.z (r := 126) (k := ((((2477 + (9 * (s : Int))) + 2)).toNat)) (v := (0, 0)) (by decide) c34)) (roF.z (a := 126) (b := ((((2477 + (9 * (s : Int))) + 8)).toNat)) (v := (0, ((s : Int) + 1))) (by omega) (roF.z (a := 126) (b := ((((2477 + (9 * (s : Int))) + 2)).toNat)) (v := (0, 0)) (by omega) (roF.t (roF.z (a := 126) (b := ((((2477 + (9 * (s : Int))) + 1)).toNat)) (v := (0, x26)) (by omega) (roF.t (roF.z (a := 126) (b := (((2477 + (9 * (s : Int)))).toNat)) (v := (0, 4)) (by omega) (roF.t (roF.z (a := 121) (b := 25) (v := (0, ((s : Int) + 1))) (by omega) roF.rfl) ft13)) ft27)) ft34)))
        · show vP D T N 299 13 g28 [some (2, 121)] [(0, 0)] _
          refine vP_hv (fun hv28 => ?_)
          refine v_ret (hi_X12_readCopy_13 hT) (Or.inl rfl) ?_
          show vP D T N 301 128 g28 [some (2, 121), some (0, (2477 + (9 * (s : Int)))), some (0, 4)] [(0, 0), (0, ((2477 + (9 * (s : Int))) + 1)), (2, 126)] _
          refine v_ast (r := 126) (hz_X12_readRest hT _ _ rfl) rfl rfl (fun ha72 hb73 hf74 => ?_)
          refine v_load (v := (2, 121)) (hz_X12_readRest hT _ _ rfl) rfl rfl ?_
          refine v_load (v := (2, 121)) (hz_X12_readRest hT _ _ rfl) rfl rfl ?_
          refine v_call (w := 1) [some (2, 121)] hO (hz_X12_readRest hT _ _ rfl) rfl rfl (rb_any_isBy hT hO (fun v75 => ?_))
          · show vP D T N 301 134 (zset g28 126 ((((2477 + (9 * (s : Int))) + 1)).toNat) (0, 0)) [some (2, 121), some (0, (2477 + (9 * (s : Int)))), some (0, 4)] [(0, v75), (2, 121)] _
            refine v_call (w := 2) [some (2, 121), some (0, v75)] hO (hz_X12_readRest hT _ _ rfl) rfl rfl (rx_mustB hT hO v75 (rE.z (r := 126) (k := ((((2477 + (9 * (s : Int))) + 1)).toNat)) (v := (0, 0)) (by decide) c28) ?_)
            · show vP D T N 301 137 (zset g28 126 ((((2477 + (9 * (s : Int))) + 1)).toNat) (0, 0)) [some (2, 121), some (0, (2477 + (9 * (s : Int)))), some (0, 4)] [] _
              refine v_load (v := (2, 121)) (hz_X12_readRest hT _ _ rfl) rfl rfl ?_
              refine v_getR (c := 126) (r := 121) (hz_X12_readRest hT _ _ rfl) rfl rfl rfl ?_
              refine v_load (v := (0, (2477 + (9 * (s : Int))))) (hz_X12_readRest hT _ _ rfl) rfl rfl ?_
              refine v_push (2) (hz_X12_readRest hT _ _ rfl) rfl ?_
              refine v_bin (w := ((2477 + (9 * (s : Int))) + 2)) (hz_X12_readRest hT _ _ rfl) (hq_add (by omega) (by omega)) ?_
              refine v_load (v := (2, 121)) (hz_X12_readRest hT _ _ rfl) rfl rfl ?_
              refine v_push (0) (hz_X12_readRest hT _ _ rfl) rfl ?_
              refine v_push (12) (hz_X12_readRest hT _ _ rfl) rfl ?_
              refine v_call (w := 4) [some (2, 121), some (0, 0), some (0, 12), none] hO (hz_X12_readRest hT _ _ rfl) rfl rfl (rx_numB hT hO 0 12 (rE.z (r := 126) (k := ((((2477 + (9 * (s : Int))) + 1)).toNat)) (v := (0, 0)) (by decide) c28) ?_)
              · show vP D T N 301 151 (zset g28 126 ((((2477 + (9 * (s : Int))) + 1)).toNat) (0, 0)) [some (2, 121), some (0, (2477 + (9 * (s : Int)))), some (0, 4)] [(0, 0), (0, ((2477 + (9 * (s : Int))) + 2)), (2, 126)] _
                refine v_ast (r := 126) (hi_X12_readRest_151 hT) rfl rfl (fun ha76 hb77 hf78 => ?_)
                refine v_goto (hi_X12_readRest_152 hT) ?_
                refine v_ret0 (hi_X12_readRest_210 hT) ?_
                show vP D T N 304 132 (zset (zset g28 126 ((((2477 + (9 * (s : Int))) + 1)).toNat) (0, 0)) 126 ((((2477 + (9 * (s : Int))) + 2)).toNat) (0, 0)) [some (2, 121), some (0, (d : Int)), some (0, 4), some (0, 0), some (0, (2477 + (9 * (s : Int))))] [] _
                refine v_load (v := (2, 121)) (hi_X12_readStep_132 hT) rfl rfl ?_
                refine v_load (v := (2, 121)) (hi_X12_readStep_133 hT) rfl rfl ?_
                refine v_push (59) (hi_X12_readStep_134 hT) rfl ?_
                refine v_call (w := 2) [some (2, 121), some (0, 59)] hO (hi_X12_readStep_136 hT) rfl rfl (rb_any_isSign hT hO (fun v79 => ?_))
                · show vP D T N 304 139 (zset (zset g28 126 ((((2477 + (9 * (s : Int))) + 1)).toNat) (0, 0)) 126 ((((2477 + (9 * (s : Int))) + 2)).toNat) (0, 0)) [some (2, 121), some (0, (d : Int)), some (0, 4), some (0, 0), some (0, (2477 + (9 * (s : Int))))] [(0, v79), (2, 121)] _
                  refine v_call (w := 2) [some (2, 121), some (0, v79)] hO (hi_X12_readStep_139 hT) rfl rfl (rx_mustB hT hO v79 (rE.z (r := 126) (k := ((((2477 + (9 * (s : Int))) + 2)).toNat)) (v := (0, 0)) (by decide) (rE.z (r := 126) (k := ((((2477 + (9 * (s : Int))) + 1)).toNat)) (v := (0, 0)) (by decide) c28)) ?_)
                  · show vP D T N 304 142 (zset (zset g28 126 ((((2477 + (9 * (s : Int))) + 1)).toNat) (0, 0)) 126 ((((2477 + (9 * (s : Int))) + 2)).toNat) (0, 0)) [some (2, 121), some (0, (d : Int)), some (0, 4), some (0, 0), some (0, (2477 + (9 * (s : Int))))] [] _
                    refine v_load (v := (0, 0)) (hi_X12_readStep_142 hT) rfl rfl ?_
                    refine v_if (hi_X12_readStep_143 hT) (fun _ => ?_) (fun hc80 => absurd (show (0 : Int) = 0 from (by decide)) hc80)
                    refine v_load (v := (0, 0)) (hi_X12_readStep_170 hT) rfl rfl ?_
                    refine v_if (hi_X12_readStep_171 hT) (fun _ => ?_) (fun hc81 => absurd (show (0 : Int) = 0 from (by decide)) hc81)
                    refine v_load (v := (2, 121)) (hi_X12_readStep_192 hT) rfl rfl ?_
                    refine v_getR (c := 126) (r := 121) (hi_X12_readStep_193 hT) rfl rfl rfl ?_
                    refine v_load (v := (0, (2477 + (9 * (s : Int))))) (hi_X12_readStep_196 hT) rfl rfl ?_
                    refine v_push (8) (hi_X12_readStep_198 hT) rfl ?_
                    refine v_bin (w := ((2477 + (9 * (s : Int))) + 8)) (hi_X12_readStep_200 hT) (hq_add (by omega) (by omega)) ?_
                    refine v_load (v := (2, 121)) (hi_X12_readStep_201 hT) rfl rfl ?_
                    refine v_getf (v := (0, ((s : Int) + 1))) (r := 121) (hi_X12_readStep_202 hT) rfl rfl (fun _ => Eq.trans (Eq.trans (zset_ne (fun c => absurd c.1 (by decide))) (zset_ne (fun c => absurd c.1 (by decide)))) ((Eq.trans (ft28 121 25 (by first | decide | exact fun c => by omega)) (Eq.trans (zset_ne (fun c => absurd c.1 (by decide))) ((Eq.trans (ft13 121 25 (by first | decide | exact fun c => by omega)) (zset_same))))))) ?_
                    refine v_ast (r := 126) (hi_X12_readStep_205 hT) rfl rfl (fun ha82 hb83 hf84 => ?_)
                    refine v_ret0 (hi_X12_readStep_206 hT) ?_
                    exact er _ _ (by simp only [pStep, hE, hsw, hop, h15, opW15, harg, pNm, pWord, pSg, Bool.false_eq_true, (show ¬ 30 ≤ s from by omega), q28, ne_eq, not_true_eq_false, not_false_eq_true, if_true, if_false, eq_self, eb_l, eb_r, and_true, true_and, and_false, false_and]) (rE.z (r := 126) (k := ((((2477 + (9 * (s : Int))) + 8)).toNat)) (v := (0, ((s : Int) + 1))) (by decide) (rE.z (r := 126) (k := ((((2477 + (9 * (s : Int))) + 2)).toNat)) (v := (0, 0)) (by decide) (rE.z (r := 126) (k := ((((2477 + (9 * (s : Int))) + 1)).toNat)) (v := (0, 0)) (by decide) c28))) (roF.z (a := 126) (b := ((((2477 + (9 * (s : Int))) + 8)).toNat)) (v := (0, ((s : Int) + 1))) (by omega) (roF.z (a := 126) (b := ((((2477 + (9 * (s : Int))) + 2)).toNat)) (v := (0, 0)) (by omega) (roF.z (a := 126) (b := ((((2477 + (9 * (s : Int))) + 1)).toNat)) (v := (0, 0)) (by omega) (roF.t (roF.z (a := 126) (b := (((2477 + (9 * (s : Int)))).toNat)) (v := (0, 4)) (by omega) (roF.t (roF.z (a := 121) (b := 25) (v := (0, ((s : Int) + 1))) (by omega) roF.rfl) ft13)) ft28))))
theorem ro7_13 {D : zD} {T : zT} (hT : hTab T) (hO : vOK T) {N : Nat} {h : zH} {Q : zR → Prop} {B : Nat → Int} {n m i s d : Nat} {τ P : PT} (hv0 : zHv h) (hX : rX B n m τ i h) (e0 : h 126 0 = (0, P 0 0)) (e1 : h 126 1 = (0, P 0 1)) (e2 : h 126 2 = (0, P 0 2)) (e3 : h 126 3 = (0, P 0 3)) (hN : rNm P h) (hb : (0 ≤ P 0 0 ∧ P 0 0 ≤ 8) ∧ (0 ≤ P 0 1 ∧ P 0 1 ≤ 6) ∧ (0 ≤ P 0 2 ∧ P 0 2 ≤ 3) ∧ (0 ≤ P 0 3 ∧ P 0 3 ≤ 6)) (hs : h 121 25 = (0, (s : Int))) (bs : s ≤ 30) (bd : d ≤ 3) (h1 : τ 0 i = 1) (h3 : τ 3 i = 13) (ih : ∀ g s' d' i' a K u v j, pStep τ P s d i = .inr (s', d', i') → rX B n m τ i' g → g 121 25 = (0, a) → a = (s' : Int) → s' ≤ 30 → roF h g → pItV τ P i = .inr (K, u, v, j) → (∀ e, ¬ (2477 + 9 * s ≤ e ∧ e < 2486 + 9 * s) → g 126 e = h 126 e) → rI7 (P 0 0) g s K u v → g 126 (2485 + 9 * s) = (0, (s : Int) + 1) → Q (g, none)) (er : ∀ g e, pStep τ P s d i = .inl e → rE e g → roF h g → Q (g, none)) :
    vP D T (N + 1) 304 0 h [some (2, 121), some (0, (d : Int)), none, none, none] [] Q := by
  have h0 : τ 0 i ≠ 0 := by omega
  have hE : (bW τ 20 i) = 0 := bW_0.mpr (fun c => absurd (h3.symm.trans c.2) (by decide))
  have hsw : ¬ swd τ i < 0 := by rw [swd_v h1, h3]; decide
  have hop : opW (τ 3 i) = false := by rw [h3]; rfl
  have h15 : ¬ τ 3 i = 15 := by rw [h3]; decide
  have harg : ∀ j, oArg τ P (τ 3 i) j = (eb (pNm τ P j) fun a => .inr a.2) := fun j => by rw [h3]; rfl
  have hargV : ∀ j, oArV τ P 13 j = (eb (pNm τ P j) fun a => .inr (a.1, 0, a.2)) := fun _ => rfl
  refine v_loadS (v := (2, 121)) (hi_X12_readStep_0 hT) rfl rfl ?_
  refine v_call (w := 1) [some (2, 121)] hO (hi_X12_readStep_1 hT) rfl rfl (rx_stepK hT hO 5 hX h1 h3 (by decide) ?_)
  · show vP D T N 304 4 h [some (2, 121), some (0, (d : Int)), none, none, none] [(0, 5)] _
    refine v_store1 [some (2, 121), some (0, (d : Int)), some (0, 5), none, none] (hi_X12_readStep_4 hT) ⟨rfl, Nat.ne_of_beq_eq_false rfl⟩ (Nat.le_of_ble_eq_true rfl) rfl ?_
    refine v_load (v := (0, 5)) (hi_X12_readStep_5 hT) rfl rfl ?_
    refine v_push (7) (hi_X12_readStep_6 hT) rfl ?_
    refine v_ic (hi_X12_readStep_8 hT) (fun hc1 => absurd (show (5 : Int) = 7 from hc1) (by decide)) (fun _ => ?_)
    refine v_load (v := (0, 5)) (hi_X12_readStep_11 hT) rfl rfl ?_
    refine v_push (8) (hi_X12_readStep_12 hT) rfl ?_
    refine v_ic (hi_X12_readStep_14 hT) (fun hc2 => absurd (show (5 : Int) = 8 from hc2) (by decide)) (fun _ => ?_)
    refine v_push (0) (hi_X12_readStep_21 hT) rfl ?_
    refine v_store1 [some (2, 121), some (0, (d : Int)), some (0, 5), some (0, 0), none] (hi_X12_readStep_22 hT) ⟨rfl, Nat.ne_of_beq_eq_false rfl⟩ (Nat.le_of_ble_eq_true rfl) rfl ?_
    refine v_load (v := (0, 5)) (hi_X12_readStep_23 hT) rfl rfl ?_
    refine v_if (hi_X12_readStep_24 hT) (fun hc3 => absurd (show (5 : Int) < 0 from hc3) (by decide)) (fun _ => ?_)
    refine v_load (v := (2, 121)) (hi_X12_readStep_31 hT) rfl rfl ?_
    refine v_getf (v := (0, 0)) (r := 121) (hi_X12_readStep_32 hT) rfl rfl (fun _ => hX.b) ?_
    refine v_if (hi_X12_readStep_35 hT) (fun _ => ?_) (fun hc4 => absurd (show (0 : Int) = 0 from (by decide)) hc4)
    refine v_load (v := (2, 121)) (hi_X12_readStep_38 hT) rfl rfl ?_
    refine v_getf (v := (0, (s : Int))) (r := 121) (hi_X12_readStep_39 hT) rfl rfl (fun _ => hs) ?_
    refine v_push (30) (hi_X12_readStep_42 hT) rfl ?_
    refine v_ic (hi_X12_readStep_44 hT) (fun hc5 => ?_) (fun hc5 => ?_)
    · have hc5 : (s : Int) = 30 := hc5
      refine v_load (v := (2, 121)) (hi_X12_readStep_47 hT) rfl rfl ?_
      refine v_push (6) (hi_X12_readStep_48 hT) rfl ?_
      refine v_load (v := (2, 121)) (hi_X12_readStep_50 hT) rfl rfl ?_
      refine v_getf (v := (0, (τ 1 i))) (r := 121) (hi_X12_readStep_51 hT) rfl rfl (fun _ => hX.ps) ?_
      refine v_call (w := 3) [some (2, 121), some (0, 6), some (0, (τ 1 i))] hO (hi_X12_readStep_54 hT) rfl rfl (rx_fail hT hO 6 hX h1 (by decide) (fun g6 ft6 c6 => ?_))
      · show vP D T N 304 57 g6 [some (2, 121), some (0, (d : Int)), some (0, 5), some (0, 0), none] [] _
        refine vP_hv (fun hv6 => ?_)
        refine v_load (v := (2, 121)) (hi_X12_readStep_57 hT) rfl rfl ?_
        refine v_getf (v := (0, (eF τ i 6).1)) (r := 121) (hi_X12_readStep_58 hT) rfl rfl (fun _ => c6.1) ?_
        refine v_if (hi_X12_readStep_61 hT) (fun hc7 => absurd (show (eF τ i 6).1 = 0 from hc7) (by have := c6.2.1; omega)) (fun _ => ?_)
        refine v_load (v := (2, 121)) (hi_X12_readStep_83 hT) rfl rfl ?_
        refine v_getf (v := (0, (eF τ i 6).1)) (r := 121) (hi_X12_readStep_84 hT) rfl rfl (fun _ => c6.1) ?_
        refine v_if (hi_X12_readStep_87 hT) (fun _ => ?_) (fun hc8 => absurd (show 0 < (eF τ i 6).1 from c6.2.1) hc8)
        refine v_ret0 (hi_X12_readStep_90 hT) ?_
        exact er _ _ (by simp only [pStep, hE, hsw, hop, h15, opW15, harg, pNm, pWord, pSg, Bool.false_eq_true, (show 30 ≤ s from by omega), ne_eq, not_true_eq_false, not_false_eq_true, if_true, if_false, eq_self, eb_l, eb_r, and_true, true_and, and_false, false_and]) c6 (roF.t roF.rfl ft6)
    · have hc5 : (s : Int) ≠ 30 := hc5
      refine v_load (v := (2, 121)) (hi_X12_readStep_57 hT) rfl rfl ?_
      refine v_getf (v := (0, 0)) (r := 121) (hi_X12_readStep_58 hT) rfl rfl (fun _ => hX.b) ?_
      refine v_if (hi_X12_readStep_61 hT) (fun _ => ?_) (fun hc9 => absurd (show (0 : Int) = 0 from (by decide)) hc9)
      refine v_load (v := (0, 0)) (hi_X12_readStep_64 hT) rfl rfl ?_
      refine v_if (hi_X12_readStep_65 hT) (fun _ => ?_) (fun hc10 => absurd (show (0 : Int) = 0 from (by decide)) hc10)
      refine v_load (v := (2, 121)) (hi_X12_readStep_83 hT) rfl rfl ?_
      refine v_getf (v := (0, 0)) (r := 121) (hi_X12_readStep_84 hT) rfl rfl (fun _ => hX.b) ?_
      refine v_if (hi_X12_readStep_87 hT) (fun hc11 => absurd (show 0 < (0 : Int) from hc11) (by decide)) (fun _ => ?_)
      refine v_push (2477) (hi_X12_readStep_91 hT) rfl ?_
      refine v_push (9) (hi_X12_readStep_94 hT) rfl ?_
      refine v_load (v := (2, 121)) (hi_X12_readStep_96 hT) rfl rfl ?_
      refine v_getf (v := (0, (s : Int))) (r := 121) (hi_X12_readStep_97 hT) rfl rfl (fun _ => hs) ?_
      refine v_bin (w := (9 * (s : Int))) (hi_X12_readStep_100 hT) (hq_mul (by omega) (by omega)) ?_
      refine v_bin (w := (2477 + (9 * (s : Int)))) (hi_X12_readStep_101 hT) (hq_add (by omega) (by omega)) ?_
      refine v_store1 [some (2, 121), some (0, (d : Int)), some (0, 5), some (0, 0), some (0, (2477 + (9 * (s : Int))))] (hi_X12_readStep_102 hT) ⟨rfl, Nat.ne_of_beq_eq_false rfl⟩ (Nat.le_of_ble_eq_true rfl) rfl ?_
      refine v_load (v := (2, 121)) (hi_X12_readStep_104 hT) rfl rfl ?_
      refine v_dup (hi_X12_readStep_105 hT) (Nat.ne_of_beq_eq_false rfl) ?_
      refine v_getf (v := (0, (s : Int))) (r := 121) (hi_X12_readStep_106 hT) rfl rfl (fun _ => hs) ?_
      refine v_push (1) (hi_X12_readStep_109 hT) rfl ?_
      refine v_bin (w := ((s : Int) + 1)) (hi_X12_readStep_110 hT) (hq_add (by omega) (by omega)) ?_
      refine v_putf (r := 121) hO (hi_X12_readStep_111 hT) rfl (fun hf12 => ?_)
      refine v_load (v := (2, 121)) (hi_X12_readStep_114 hT) rfl rfl ?_
      refine v_call (w := 2) [some (2, 121), none] hO (hi_X12_readStep_115 hT) rfl rfl (rx_next hT hO (rX.zf (k := 25) (v := (0, ((s : Int) + 1))) (by decide) hX) (ne_10 h1) (ne_14 h1) (fun g13 ft13 hX13 => ?_))
      · show vP D T N 304 118 g13 [some (2, 121), some (0, (d : Int)), some (0, 5), some (0, 0), some (0, (2477 + (9 * (s : Int))))] [] _
        refine vP_hv (fun hv13 => ?_)
        refine v_load (v := (2, 121)) (hi_X12_readStep_118 hT) rfl rfl ?_
        refine v_getR (c := 126) (r := 121) (hi_X12_readStep_119 hT) rfl rfl rfl ?_
        refine v_load (v := (0, (2477 + (9 * (s : Int))))) (hi_X12_readStep_122 hT) rfl rfl ?_
        refine v_load (v := (0, 5)) (hi_X12_readStep_124 hT) rfl rfl ?_
        refine v_ast (r := 126) (hi_X12_readStep_125 hT) rfl rfl (fun ha14 hb15 hf16 => ?_)
        refine v_load (v := (2, 121)) (hi_X12_readStep_126 hT) rfl rfl ?_
        refine v_load (v := (0, (2477 + (9 * (s : Int))))) (hi_X12_readStep_127 hT) rfl rfl ?_
        refine v_call (w := 3) [some (2, 121), some (0, (2477 + (9 * (s : Int)))), none] hO (hi_X12_readStep_129 hT) rfl rfl ?_
        refine v_load (v := (2, 121)) (hi_X12_readRest_0 hT) rfl rfl ?_
        refine v_getR (c := 126) (r := 121) (hi_X12_readRest_1 hT) rfl rfl rfl ?_
        refine v_load (v := (0, (2477 + (9 * (s : Int))))) (hi_X12_readRest_4 hT) rfl rfl ?_
        refine v_aldV (v := (0, 5)) (r := 126) (hi_X12_readRest_5 hT) rfl rfl (fun _ _ _ => zset_same) (fun ha17 hb18 => ?_)
        refine v_store1 [some (2, 121), some (0, (2477 + (9 * (s : Int)))), some (0, 5)] (hi_X12_readRest_6 hT) ⟨rfl, Nat.ne_of_beq_eq_false rfl⟩ (Nat.le_of_ble_eq_true rfl) rfl ?_
        refine v_load (v := (0, 5)) (hi_X12_readRest_7 hT) rfl rfl ?_
        refine v_if (hi_X12_readRest_8 hT) (fun hc19 => absurd (show (5 : Int) = 0 from hc19) (by decide)) (fun _ => ?_)
        refine v_load (v := (0, 5)) (hi_X12_readRest_11 hT) rfl rfl ?_
        refine v_push (2) (hi_X12_readRest_12 hT) rfl ?_
        refine v_ic (hi_X12_readRest_13 hT) (fun hc20 => absurd (show (5 : Int) = 2 from hc20) (by decide)) (fun _ => ?_)
        refine v_load (v := (0, 5)) (hi_X12_readRest_52 hT) rfl rfl ?_
        refine v_push (1) (hi_X12_readRest_53 hT) rfl ?_
        refine v_ic (hi_X12_readRest_54 hT) (fun hc21 => absurd (show (5 : Int) = 1 from hc21) (by decide)) (fun _ => ?_)
        refine v_load (v := (0, 5)) (hi_X12_readRest_72 hT) rfl rfl ?_
        refine v_push (3) (hi_X12_readRest_73 hT) rfl ?_
        refine v_ic (hi_X12_readRest_74 hT) (fun hc22 => absurd (show (5 : Int) = 3 from hc22) (by decide)) (fun _ => ?_)
        refine v_load (v := (0, 5)) (hi_X12_readRest_112 hT) rfl rfl ?_
        refine v_push (4) (hi_X12_readRest_113 hT) rfl ?_
        refine v_ic (hi_X12_readRest_114 hT) (fun hc23 => absurd (show (5 : Int) = 4 from hc23) (by decide)) (fun _ => ?_)
        refine v_load (v := (0, 5)) (hi_X12_readRest_155 hT) rfl rfl ?_
        refine v_push (5) (hi_X12_readRest_156 hT) rfl ?_
        refine v_ic (hi_X12_readRest_157 hT) (fun _ => ?_) (fun hc24 => absurd (show (5 : Int) = 5 from (by decide)) hc24)
        refine v_load (v := (2, 121)) (hz_X12_readRest hT _ _ rfl) rfl rfl ?_
        refine v_getR (c := 126) (r := 121) (hz_X12_readRest hT _ _ rfl) rfl rfl rfl ?_
        refine v_load (v := (0, (2477 + (9 * (s : Int))))) (hz_X12_readRest hT _ _ rfl) rfl rfl ?_
        refine v_push (1) (hz_X12_readRest hT _ _ rfl) rfl ?_
        refine v_bin (w := ((2477 + (9 * (s : Int))) + 1)) (hz_X12_readRest hT _ _ rfl) (hq_add (by omega) (by omega)) ?_
        refine v_load (v := (2, 121)) (hz_X12_readRest hT _ _ rfl) rfl rfl ?_
        refine v_call (w := 2) [some (2, 121), none] hO (hz_X12_readRest hT _ _ rfl) rfl rfl ?_
        refine v_load (v := (2, 121)) (hz_X12_readCompanyName hT _ _ rfl) rfl rfl ?_
        refine v_getf (v := (0, 0)) (r := 121) (hz_X12_readCompanyName hT _ _ rfl) rfl rfl (fun _ => Eq.trans (zset_ne (fun c => absurd c.1 (by decide))) (hX13.b)) ?_
        refine v_if (hz_X12_readCompanyName hT _ _ rfl) (fun _ => ?_) (fun hc25 => absurd (show (0 : Int) = 0 from (by decide)) hc25)
        refine v_load (v := (2, 121)) (hz_X12_readCompanyName hT _ _ rfl) rfl rfl ?_
        refine v_call (w := 1) [some (2, 121)] hO (hz_X12_readCompanyName hT _ _ rfl) rfl rfl (rx_isName hT hO (rX.z (r := 126) (k := (((2477 + (9 * (s : Int)))).toNat)) (v := (0, 5)) (by decide) hX13) ?_)
        · show vP D T N 297 11 (zset g13 126 (((2477 + (9 * (s : Int)))).toNat) (0, 5)) [some (2, 121), none] [(0, (bN τ (i + 1)))] _
          refine v_if (hz_X12_readCompanyName hT _ _ rfl) (fun hc26 => ?_) (fun hc26 => ?_)
          · have hc26 : (bN τ (i + 1)) = 0 := hc26
            refine v_load (v := (2, 121)) (hz_X12_readCompanyName hT _ _ rfl) rfl rfl ?_
            refine v_call (w := 1) [some (2, 121)] hO (hz_X12_readCompanyName hT _ _ rfl) rfl rfl (rx_wrong hT hO (rX.z (r := 126) (k := (((2477 + (9 * (s : Int)))).toNat)) (v := (0, 5)) (by decide) hX13) (fun g27 ft27 c27 => ?_))
            · show vP D T N 297 18 g27 [some (2, 121), none] [] _
              refine vP_hv (fun hv27 => ?_)
              refine v_load (v := (2, 121)) (hi_X12_readCompanyName_18 hT) rfl rfl ?_
              refine v_getf (v := (0, (eF τ (i + 1) 2).1)) (r := 121) (hi_X12_readCompanyName_19 hT) rfl rfl (fun _ => c27.1) ?_
              refine v_if (hi_X12_readCompanyName_22 hT) (fun hc28 => absurd (show (eF τ (i + 1) 2).1 = 0 from hc28) (by have := c27.2.1; omega)) (fun _ => ?_)
              refine v_push (0) (hz_X12_readCompanyName hT _ _ rfl) rfl ?_
              refine v_store1 [some (2, 121), some (0, 0)] (hi_X12_readCompanyName_40 hT) ⟨rfl, Nat.ne_of_beq_eq_false rfl⟩ (Nat.le_of_ble_eq_true rfl) rfl ?_
              refine v_load (v := (2, 121)) (hi_X12_readCompanyName_41 hT) rfl rfl ?_
              refine v_getf (v := (0, (eF τ (i + 1) 2).1)) (r := 121) (hi_X12_readCompanyName_42 hT) rfl rfl (fun _ => c27.1) ?_
              refine v_if (hi_X12_readCompanyName_45 hT) (fun hc29 => absurd (show (eF τ (i + 1) 2).1 = 0 from hc29) (by have := c27.2.1; omega)) (fun _ => ?_)
              refine v_load (v := (2, 121)) (hi_X12_readCompanyName_61 hT) rfl rfl ?_
              refine v_push (1) (hi_X12_readCompanyName_62 hT) rfl ?_
              refine v_call (w := 2) [some (2, 121), some (0, 1)] hO (hi_X12_readCompanyName_63 hT) rfl rfl (rx_mustB hT hO 1 c27 ?_)
              · show vP D T N 297 66 g27 [some (2, 121), some (0, 0)] [] _
                refine v_load (v := (0, 0)) (hi_X12_readCompanyName_66 hT) rfl rfl ?_
                refine v_ret (hi_X12_readCompanyName_67 hT) (Or.inl rfl) ?_
                show vP D T N 301 171 g27 [some (2, 121), some (0, (2477 + (9 * (s : Int)))), some (0, 5)] [(0, 0), (0, ((2477 + (9 * (s : Int))) + 1)), (2, 126)] _
                refine v_ast (r := 126) (hz_X12_readRest hT _ _ rfl) rfl rfl (fun ha30 hb31 hf32 => ?_)
                refine v_goto (hz_X12_readRest hT _ _ rfl) ?_
                refine v_ret0 (hi_X12_readRest_210 hT) ?_
                show vP D T N 304 132 (zset g27 126 ((((2477 + (9 * (s : Int))) + 1)).toNat) (0, 0)) [some (2, 121), some (0, (d : Int)), some (0, 5), some (0, 0), some (0, (2477 + (9 * (s : Int))))] [] _
                refine v_load (v := (2, 121)) (hi_X12_readStep_132 hT) rfl rfl ?_
                refine v_load (v := (2, 121)) (hi_X12_readStep_133 hT) rfl rfl ?_
                refine v_push (59) (hi_X12_readStep_134 hT) rfl ?_
                refine v_call (w := 2) [some (2, 121), some (0, 59)] hO (hi_X12_readStep_136 hT) rfl rfl (rb_any_isSign hT hO (fun v33 => ?_))
                · show vP D T N 304 139 (zset g27 126 ((((2477 + (9 * (s : Int))) + 1)).toNat) (0, 0)) [some (2, 121), some (0, (d : Int)), some (0, 5), some (0, 0), some (0, (2477 + (9 * (s : Int))))] [(0, v33), (2, 121)] _
                  refine v_call (w := 2) [some (2, 121), some (0, v33)] hO (hi_X12_readStep_139 hT) rfl rfl (rx_mustB hT hO v33 (rE.z (r := 126) (k := ((((2477 + (9 * (s : Int))) + 1)).toNat)) (v := (0, 0)) (by decide) c27) ?_)
                  · show vP D T N 304 142 (zset g27 126 ((((2477 + (9 * (s : Int))) + 1)).toNat) (0, 0)) [some (2, 121), some (0, (d : Int)), some (0, 5), some (0, 0), some (0, (2477 + (9 * (s : Int))))] [] _
                    refine v_load (v := (0, 0)) (hi_X12_readStep_142 hT) rfl rfl ?_
                    refine v_if (hi_X12_readStep_143 hT) (fun _ => ?_) (fun hc34 => absurd (show (0 : Int) = 0 from (by decide)) hc34)
                    refine v_load (v := (0, 0)) (hi_X12_readStep_170 hT) rfl rfl ?_
                    refine v_if (hi_X12_readStep_171 hT) (fun _ => ?_) (fun hc35 => absurd (show (0 : Int) = 0 from (by decide)) hc35)
                    refine v_load (v := (2, 121)) (hi_X12_readStep_192 hT) rfl rfl ?_
                    refine v_getR (c := 126) (r := 121) (hi_X12_readStep_193 hT) rfl rfl rfl ?_
                    refine v_load (v := (0, (2477 + (9 * (s : Int))))) (hi_X12_readStep_196 hT) rfl rfl ?_
                    refine v_push (8) (hi_X12_readStep_198 hT) rfl ?_
                    refine v_bin (w := ((2477 + (9 * (s : Int))) + 8)) (hi_X12_readStep_200 hT) (hq_add (by omega) (by omega)) ?_
                    refine v_load (v := (2, 121)) (hi_X12_readStep_201 hT) rfl rfl ?_
                    refine v_getf (v := (0, ((s : Int) + 1))) (r := 121) (hi_X12_readStep_202 hT) rfl rfl (fun _ => Eq.trans (zset_ne (fun c => absurd c.1 (by decide))) ((Eq.trans (ft27 121 25 (by first | decide | exact fun c => by omega)) (Eq.trans (zset_ne (fun c => absurd c.1 (by decide))) ((Eq.trans (ft13 121 25 (by first | decide | exact fun c => by omega)) (zset_same))))))) ?_
                    refine v_ast (r := 126) (hi_X12_readStep_205 hT) rfl rfl (fun ha36 hb37 hf38 => ?_)
                    refine v_ret0 (hi_X12_readStep_206 hT) ?_
                    exact er _ _ (by simp only [pStep, hE, hsw, hop, h15, opW15, harg, pNm, pWord, pSg, Bool.false_eq_true, (show ¬ 30 ≤ s from by omega), hc26, ne_eq, not_true_eq_false, not_false_eq_true, if_true, if_false, eq_self, eb_l, eb_r, and_true, true_and, and_false, false_and]) (rE.z (r := 126) (k := ((((2477 + (9 * (s : Int))) + 8)).toNat)) (v := (0, ((s : Int) + 1))) (by decide) (rE.z (r := 126) (k := ((((2477 + (9 * (s : Int))) + 1)).toNat)) (v := (0, 0)) (by decide) c27)) (roF.z (a := 126) (b := ((((2477 + (9 * (s : Int))) + 8)).toNat)) (v := (0, ((s : Int) + 1))) (by omega) (roF.z (a := 126) (b := ((((2477 + (9 * (s : Int))) + 1)).toNat)) (v := (0, 0)) (by omega) (roF.t (roF.z (a := 126) (b := (((2477 + (9 * (s : Int)))).toNat)) (v := (0, 5)) (by omega) (roF.t (roF.z (a := 121) (b := 25) (v := (0, ((s : Int) + 1))) (by omega) roF.rfl) ft13)) ft27)))
          · have hc26 : (bN τ (i + 1)) ≠ 0 := hc26
            refine v_load (v := (2, 121)) (hi_X12_readCompanyName_18 hT) rfl rfl ?_
            refine v_getf (v := (0, 0)) (r := 121) (hi_X12_readCompanyName_19 hT) rfl rfl (fun _ => Eq.trans (zset_ne (fun c => absurd c.1 (by decide))) (hX13.b)) ?_
            refine v_if (hi_X12_readCompanyName_22 hT) (fun _ => ?_) (fun hc39 => absurd (show (0 : Int) = 0 from (by decide)) hc39)
            refine v_load (v := (2, 121)) (hz_X12_readCompanyName hT _ _ rfl) rfl rfl ?_
            refine v_push (0) (hz_X12_readCompanyName hT _ _ rfl) rfl ?_
            refine v_load (v := (2, 121)) (hz_X12_readCompanyName hT _ _ rfl) rfl rfl ?_
            refine v_getR (c := 126) (r := 121) (hz_X12_readCompanyName hT _ _ rfl) rfl rfl rfl ?_
            refine v_push (3) (hz_X12_readCompanyName hT _ _ rfl) rfl ?_
            refine v_aldV (v := (0, (P 0 3))) (r := 126) (hz_X12_readCompanyName hT _ _ rfl) rfl rfl (fun _ _ _ => (Eq.trans (zset_ne (fun c => by omega)) ((Eq.trans (ft13 126 3 (by first | decide | exact fun c => by omega)) (Eq.trans (zset_ne (fun c => absurd c.1 (by decide))) (e3)))))) (fun ha40 hb41 => ?_)
            refine v_call (w := 4) [some (2, 121), some (0, 0), some (0, (P 0 3)), none] hO (hz_X12_readCompanyName hT _ _ rfl) rfl rfl (rx_named_0 hT hO (rX.z (r := 126) (k := (((2477 + (9 * (s : Int)))).toNat)) (v := (0, 5)) (by decide) hX13) (bN_y.mp hc26).1 (rNm.z (a := 126) (b := (((2477 + (9 * (s : Int)))).toNat)) (v := (0, 5)) (by decide) (rNm.qf (rNm.z (a := 121) (b := 25) (v := (0, ((s : Int) + 1))) (by decide) hN) ft13)) (by omega) ?_)
            · show vP D T N 297 36 (zset g13 126 (((2477 + (9 * (s : Int)))).toNat) (0, 5)) [some (2, 121), none] [(0, (pIx (P 4) (τ 4 (i + 1)) (P 0 3).toNat 0))] _
              refine v_goto (hz_X12_readCompanyName hT _ _ rfl) ?_
              refine v_store1 [some (2, 121), some (0, (pIx (P 4) (τ 4 (i + 1)) (P 0 3).toNat 0))] (hi_X12_readCompanyName_40 hT) ⟨rfl, Nat.ne_of_beq_eq_false rfl⟩ (Nat.le_of_ble_eq_true rfl) rfl ?_
              refine v_load (v := (2, 121)) (hi_X12_readCompanyName_41 hT) rfl rfl ?_
              refine v_getf (v := (0, 0)) (r := 121) (hi_X12_readCompanyName_42 hT) rfl rfl (fun _ => Eq.trans (zset_ne (fun c => absurd c.1 (by decide))) (hX13.b)) ?_
              refine v_if (hi_X12_readCompanyName_45 hT) (fun _ => ?_) (fun hc42 => absurd (show (0 : Int) = 0 from (by decide)) hc42)
              refine v_load (v := (0, (pIx (P 4) (τ 4 (i + 1)) (P 0 3).toNat 0))) (hz_X12_readCompanyName hT _ _ rfl) rfl rfl ?_
              refine v_if (hz_X12_readCompanyName hT _ _ rfl) (fun hc43 => ?_) (fun hc43 => ?_)
              · have hc43 : (pIx (P 4) (τ 4 (i + 1)) (P 0 3).toNat 0) < 0 := hc43
                refine v_load (v := (2, 121)) (hz_X12_readCompanyName hT _ _ rfl) rfl rfl ?_
                refine v_push (3) (hz_X12_readCompanyName hT _ _ rfl) rfl ?_
                refine v_load (v := (2, 121)) (hz_X12_readCompanyName hT _ _ rfl) rfl rfl ?_
                refine v_getf (v := (0, (τ 1 (i + 1)))) (r := 121) (hz_X12_readCompanyName hT _ _ rfl) rfl rfl (fun _ => Eq.trans (zset_ne (fun c => absurd c.1 (by decide))) (hX13.ps)) ?_
                refine v_call (w := 3) [some (2, 121), some (0, 3), some (0, (τ 1 (i + 1)))] hO (hz_X12_readCompanyName hT _ _ rfl) rfl rfl (rx_fail hT hO 3 (rX.z (r := 126) (k := (((2477 + (9 * (s : Int)))).toNat)) (v := (0, 5)) (by decide) hX13) (bN_y.mp hc26).1 (by decide) (fun g44 ft44 c44 => ?_))
                · show vP D T N 297 61 g44 [some (2, 121), some (0, (pIx (P 4) (τ 4 (i + 1)) (P 0 3).toNat 0))] [] _
                  refine vP_hv (fun hv44 => ?_)
                  refine v_load (v := (2, 121)) (hi_X12_readCompanyName_61 hT) rfl rfl ?_
                  refine v_push (1) (hi_X12_readCompanyName_62 hT) rfl ?_
                  refine v_call (w := 2) [some (2, 121), some (0, 1)] hO (hi_X12_readCompanyName_63 hT) rfl rfl (rx_mustB hT hO 1 c44 ?_)
                  · show vP D T N 297 66 g44 [some (2, 121), some (0, (pIx (P 4) (τ 4 (i + 1)) (P 0 3).toNat 0))] [] _
                    refine v_load (v := (0, (pIx (P 4) (τ 4 (i + 1)) (P 0 3).toNat 0))) (hi_X12_readCompanyName_66 hT) rfl rfl ?_
                    refine v_ret (hi_X12_readCompanyName_67 hT) (Or.inl rfl) ?_
                    show vP D T N 301 171 g44 [some (2, 121), some (0, (2477 + (9 * (s : Int)))), some (0, 5)] [(0, (pIx (P 4) (τ 4 (i + 1)) (P 0 3).toNat 0)), (0, ((2477 + (9 * (s : Int))) + 1)), (2, 126)] _
                    refine v_ast (r := 126) (hz_X12_readRest hT _ _ rfl) rfl rfl (fun ha45 hb46 hf47 => ?_)
                    refine v_goto (hz_X12_readRest hT _ _ rfl) ?_
                    refine v_ret0 (hi_X12_readRest_210 hT) ?_
                    show vP D T N 304 132 (zset g44 126 ((((2477 + (9 * (s : Int))) + 1)).toNat) (0, (pIx (P 4) (τ 4 (i + 1)) (P 0 3).toNat 0))) [some (2, 121), some (0, (d : Int)), some (0, 5), some (0, 0), some (0, (2477 + (9 * (s : Int))))] [] _
                    refine v_load (v := (2, 121)) (hi_X12_readStep_132 hT) rfl rfl ?_
                    refine v_load (v := (2, 121)) (hi_X12_readStep_133 hT) rfl rfl ?_
                    refine v_push (59) (hi_X12_readStep_134 hT) rfl ?_
                    refine v_call (w := 2) [some (2, 121), some (0, 59)] hO (hi_X12_readStep_136 hT) rfl rfl (rb_any_isSign hT hO (fun v48 => ?_))
                    · show vP D T N 304 139 (zset g44 126 ((((2477 + (9 * (s : Int))) + 1)).toNat) (0, (pIx (P 4) (τ 4 (i + 1)) (P 0 3).toNat 0))) [some (2, 121), some (0, (d : Int)), some (0, 5), some (0, 0), some (0, (2477 + (9 * (s : Int))))] [(0, v48), (2, 121)] _
                      refine v_call (w := 2) [some (2, 121), some (0, v48)] hO (hi_X12_readStep_139 hT) rfl rfl (rx_mustB hT hO v48 (rE.z (r := 126) (k := ((((2477 + (9 * (s : Int))) + 1)).toNat)) (v := (0, (pIx (P 4) (τ 4 (i + 1)) (P 0 3).toNat 0))) (by decide) c44) ?_)
                      · show vP D T N 304 142 (zset g44 126 ((((2477 + (9 * (s : Int))) + 1)).toNat) (0, (pIx (P 4) (τ 4 (i + 1)) (P 0 3).toNat 0))) [some (2, 121), some (0, (d : Int)), some (0, 5), some (0, 0), some (0, (2477 + (9 * (s : Int))))] [] _
                        refine v_load (v := (0, 0)) (hi_X12_readStep_142 hT) rfl rfl ?_
                        refine v_if (hi_X12_readStep_143 hT) (fun _ => ?_) (fun hc49 => absurd (show (0 : Int) = 0 from (by decide)) hc49)
                        refine v_load (v := (0, 0)) (hi_X12_readStep_170 hT) rfl rfl ?_
                        refine v_if (hi_X12_readStep_171 hT) (fun _ => ?_) (fun hc50 => absurd (show (0 : Int) = 0 from (by decide)) hc50)
                        refine v_load (v := (2, 121)) (hi_X12_readStep_192 hT) rfl rfl ?_
                        refine v_getR (c := 126) (r := 121) (hi_X12_readStep_193 hT) rfl rfl rfl ?_
                        refine v_load (v := (0, (2477 + (9 * (s : Int))))) (hi_X12_readStep_196 hT) rfl rfl ?_
                        refine v_push (8) (hi_X12_readStep_198 hT) rfl ?_
                        refine v_bin (w := ((2477 + (9 * (s : Int))) + 8)) (hi_X12_readStep_200 hT) (hq_add (by omega) (by omega)) ?_
                        refine v_load (v := (2, 121)) (hi_X12_readStep_201 hT) rfl rfl ?_
                        refine v_getf (v := (0, ((s : Int) + 1))) (r := 121) (hi_X12_readStep_202 hT) rfl rfl (fun _ => Eq.trans (zset_ne (fun c => absurd c.1 (by decide))) ((Eq.trans (ft44 121 25 (by first | decide | exact fun c => by omega)) (Eq.trans (zset_ne (fun c => absurd c.1 (by decide))) ((Eq.trans (ft13 121 25 (by first | decide | exact fun c => by omega)) (zset_same))))))) ?_
                        refine v_ast (r := 126) (hi_X12_readStep_205 hT) rfl rfl (fun ha51 hb52 hf53 => ?_)
                        refine v_ret0 (hi_X12_readStep_206 hT) ?_
                        exact er _ _ (by simp only [pStep, hE, hsw, hop, h15, opW15, harg, pNm, pWord, pSg, Bool.false_eq_true, (show ¬ 30 ≤ s from by omega), hc26, pIx_n hc43, ne_eq, not_true_eq_false, not_false_eq_true, if_true, if_false, eq_self, eb_l, eb_r, and_true, true_and, and_false, false_and]) (rE.z (r := 126) (k := ((((2477 + (9 * (s : Int))) + 8)).toNat)) (v := (0, ((s : Int) + 1))) (by decide) (rE.z (r := 126) (k := ((((2477 + (9 * (s : Int))) + 1)).toNat)) (v := (0, (pIx (P 4) (τ 4 (i + 1)) (P 0 3).toNat 0))) (by decide) c44)) (roF.z (a := 126) (b := ((((2477 + (9 * (s : Int))) + 8)).toNat)) (v := (0, ((s : Int) + 1))) (by omega) (roF.z (a := 126) (b := ((((2477 + (9 * (s : Int))) + 1)).toNat)) (v := (0, (pIx (P 4) (τ 4 (i + 1)) (P 0 3).toNat 0))) (by omega) (roF.t (roF.z (a := 126) (b := (((2477 + (9 * (s : Int)))).toNat)) (v := (0, 5)) (by omega) (roF.t (roF.z (a := 121) (b := 25) (v := (0, ((s : Int) + 1))) (by omega) roF.rfl) ft13)) ft44)))
              · have hc43 : 0 ≤ (pIx (P 4) (τ 4 (i + 1)) (P 0 3).toNat 0) := Int.not_lt.mp hc43
                refine v_load (v := (2, 121)) (hi_X12_readCompanyName_61 hT) rfl rfl ?_
                refine v_push (1) (hi_X12_readCompanyName_62 hT) rfl ?_
                refine v_call (w := 2) [some (2, 121), some (0, 1)] hO (hi_X12_readCompanyName_63 hT) rfl rfl (rx_must hT hO 1 (rX.z (r := 126) (k := (((2477 + (9 * (s : Int)))).toNat)) (v := (0, 5)) (by decide) hX13) (fun _ => ⟨ne_10 (bN_y.mp hc26).1, ne_14 (bN_y.mp hc26).1⟩) (k2 := fun _ _ c => absurd c (by decide)) (fun g55 ft55 nz54 hX55 => ?_))
                · show vP D T N 297 66 g55 [some (2, 121), some (0, (pIx (P 4) (τ 4 (i + 1)) (P 0 3).toNat 0))] [] _
                  refine vP_hv (fun hv55 => ?_)
                  refine v_load (v := (0, (pIx (P 4) (τ 4 (i + 1)) (P 0 3).toNat 0))) (hi_X12_readCompanyName_66 hT) rfl rfl ?_
                  refine v_ret (hi_X12_readCompanyName_67 hT) (Or.inl rfl) ?_
                  show vP D T N 301 171 g55 [some (2, 121), some (0, (2477 + (9 * (s : Int)))), some (0, 5)] [(0, (pIx (P 4) (τ 4 (i + 1)) (P 0 3).toNat 0)), (0, ((2477 + (9 * (s : Int))) + 1)), (2, 126)] _
                  refine v_ast (r := 126) (hz_X12_readRest hT _ _ rfl) rfl rfl (fun ha56 hb57 hf58 => ?_)
                  refine v_goto (hz_X12_readRest hT _ _ rfl) ?_
                  refine v_ret0 (hi_X12_readRest_210 hT) ?_
                  show vP D T N 304 132 (zset g55 126 ((((2477 + (9 * (s : Int))) + 1)).toNat) (0, (pIx (P 4) (τ 4 (i + 1)) (P 0 3).toNat 0))) [some (2, 121), some (0, (d : Int)), some (0, 5), some (0, 0), some (0, (2477 + (9 * (s : Int))))] [] _
                  refine v_load (v := (2, 121)) (hi_X12_readStep_132 hT) rfl rfl ?_
                  refine v_load (v := (2, 121)) (hi_X12_readStep_133 hT) rfl rfl ?_
                  refine v_push (59) (hi_X12_readStep_134 hT) rfl ?_
                  refine v_call (w := 2) [some (2, 121), some (0, 59)] hO (hi_X12_readStep_136 hT) rfl rfl (rx_isSign hT hO 59 (rX.z (r := 126) (k := ((((2477 + (9 * (s : Int))) + 1)).toNat)) (v := (0, (pIx (P 4) (τ 4 (i + 1)) (P 0 3).toNat 0))) (by decide) hX55) ?_)
                  · show vP D T N 304 139 (zset g55 126 ((((2477 + (9 * (s : Int))) + 1)).toNat) (0, (pIx (P 4) (τ 4 (i + 1)) (P 0 3).toNat 0))) [some (2, 121), some (0, (d : Int)), some (0, 5), some (0, 0), some (0, (2477 + (9 * (s : Int))))] [(0, (bG τ 59 (i + 1 + 1))), (2, 121)] _
                    refine v_call (w := 2) [some (2, 121), some (0, (bG τ 59 (i + 1 + 1)))] hO (hi_X12_readStep_139 hT) rfl rfl (rx_must hT hO ((bG τ 59 (i + 1 + 1))) (rX.z (r := 126) (k := ((((2477 + (9 * (s : Int))) + 1)).toNat)) (v := (0, (pIx (P 4) (τ 4 (i + 1)) (P 0 3).toNat 0))) (by decide) hX55) (fun c => ⟨by have := (bG_y.mp c).1; omega, by have := (bG_y.mp c).1; omega⟩) (fun g60 ft60 hc59 hX60 => ?_) (fun g61 ft61 hc61 c61 => ?_))
                    · show vP D T N 304 142 g60 [some (2, 121), some (0, (d : Int)), some (0, 5), some (0, 0), some (0, (2477 + (9 * (s : Int))))] [] _
                      refine vP_hv (fun hv60 => ?_)
                      refine v_load (v := (0, 0)) (hi_X12_readStep_142 hT) rfl rfl ?_
                      refine v_if (hi_X12_readStep_143 hT) (fun _ => ?_) (fun hc62 => absurd (show (0 : Int) = 0 from (by decide)) hc62)
                      refine v_load (v := (0, 0)) (hi_X12_readStep_170 hT) rfl rfl ?_
                      refine v_if (hi_X12_readStep_171 hT) (fun _ => ?_) (fun hc63 => absurd (show (0 : Int) = 0 from (by decide)) hc63)
                      refine v_load (v := (2, 121)) (hi_X12_readStep_192 hT) rfl rfl ?_
                      refine v_getR (c := 126) (r := 121) (hi_X12_readStep_193 hT) rfl rfl rfl ?_
                      refine v_load (v := (0, (2477 + (9 * (s : Int))))) (hi_X12_readStep_196 hT) rfl rfl ?_
                      refine v_push (8) (hi_X12_readStep_198 hT) rfl ?_
                      refine v_bin (w := ((2477 + (9 * (s : Int))) + 8)) (hi_X12_readStep_200 hT) (hq_add (by omega) (by omega)) ?_
                      refine v_load (v := (2, 121)) (hi_X12_readStep_201 hT) rfl rfl ?_
                      refine v_getf (v := (0, ((s : Int) + 1))) (r := 121) (hi_X12_readStep_202 hT) rfl rfl (fun _ => (Eq.trans (ft60 121 25 (by first | decide | exact fun c => by omega)) (Eq.trans (zset_ne (fun c => absurd c.1 (by decide))) ((Eq.trans (ft55 121 25 (by first | decide | exact fun c => by omega)) (Eq.trans (zset_ne (fun c => absurd c.1 (by decide))) ((Eq.trans (ft13 121 25 (by first | decide | exact fun c => by omega)) (zset_same))))))))) ?_
                      refine v_ast (r := 126) (hi_X12_readStep_205 hT) rfl rfl (fun ha64 hb65 hf66 => ?_)
                      refine v_ret0 (hi_X12_readStep_206 hT) ?_
                      have kp_ : ∀ e, (zset g60 126 ((((2477 + (9 * (s : Int))) + 8)).toNat) (0, ((s : Int) + 1))) 126 e = (zset (zset (zset h 126 (((2477 + (9 * (s : Int)))).toNat) (0, 5)) 126 ((((2477 + (9 * (s : Int))) + 1)).toNat) (0, (pIx (P 4) (τ 4 (i + 1)) (P 0 3).toNat 0))) 126 ((((2477 + (9 * (s : Int))) + 8)).toNat) (0, ((s : Int) + 1))) 126 e := (kr_z (k := ((((2477 + (9 * (s : Int))) + 8)).toNat)) (v := (0, ((s : Int) + 1))) (kr_f (fun e => ft60 126 e (fun c => by omega)) (kr_z (k := ((((2477 + (9 * (s : Int))) + 1)).toNat)) (v := (0, (pIx (P 4) (τ 4 (i + 1)) (P 0 3).toNat 0))) (kr_f (fun e => ft55 126 e (fun c => by omega)) (kr_z (k := (((2477 + (9 * (s : Int)))).toNat)) (v := (0, 5)) (kr_f (fun e => ft13 126 e (fun c => by omega)) (kr_n (a := 121) (k := 25) (v := (0, ((s : Int) + 1))) (by decide) (fun _ => Eq.refl _))))))))
                      exact ih _ (s + 1) (d) (i + 1 + 1 + 1) _ 13 ((pIx (P 4) (τ 4 (i + 1)) (P 0 3).toNat 0)) 0 (i + 1 + 1) (by simp only [pStep, hE, hsw, hop, h15, opW15, harg, pNm, pWord, pSg, Bool.false_eq_true, (show ¬ 30 ≤ s from by omega), hc26, pIx_y hc43, hc59, ne_eq, not_true_eq_false, not_false_eq_true, if_true, if_false, eq_self, eb_l, eb_r, and_true, true_and, and_false, false_and]) (rX.z (r := 126) (k := ((((2477 + (9 * (s : Int))) + 8)).toNat)) (v := (0, ((s : Int) + 1))) (by decide) hX60) (Eq.trans (zset_ne (fun c => absurd c.1 (by decide))) ((Eq.trans (ft60 121 25 (by first | decide | exact fun c => by omega)) (Eq.trans (zset_ne (fun c => absurd c.1 (by decide))) ((Eq.trans (ft55 121 25 (by first | decide | exact fun c => by omega)) (Eq.trans (zset_ne (fun c => absurd c.1 (by decide))) ((Eq.trans (ft13 121 25 (by first | decide | exact fun c => by omega)) (zset_same)))))))))) (by omega) (by omega) (roF.z (a := 126) (b := ((((2477 + (9 * (s : Int))) + 8)).toNat)) (v := (0, ((s : Int) + 1))) (by omega) (roF.t (roF.z (a := 126) (b := ((((2477 + (9 * (s : Int))) + 1)).toNat)) (v := (0, (pIx (P 4) (τ 4 (i + 1)) (P 0 3).toNat 0))) (by omega) (roF.t (roF.z (a := 126) (b := (((2477 + (9 * (s : Int)))).toNat)) (v := (0, 5)) (by omega) (roF.t (roF.z (a := 121) (b := 25) (v := (0, ((s : Int) + 1))) (by omega) roF.rfl) ft13)) ft55)) ft60)) (pItV_a h3 (by decide) (by simp only [hargV, pWord, pNm, (show ¬ 30 ≤ s from by omega), hc26, pIx_y hc43, hc59, ne_eq, not_true_eq_false, not_false_eq_true, if_true, if_false, eq_self, eb_l, eb_r, and_true, true_and, and_false, false_and])) (fun e_ hn_ => (kp_ e_).trans ((zset_ne (fun c => hn_ (by omega))).trans ((zset_ne (fun c => hn_ (by omega))).trans (zset_ne (fun c => hn_ (by omega)))))) ⟨((kp_ _).trans ((zset_ne (fun c => by omega)).trans ((zset_ne (fun c => by omega)).trans (zset_e (by omega))))), (fun _ => ((kp_ _).trans ((zset_ne (fun c => by omega)).trans (zset_e (by omega))))), (fun c => absurd c (by decide)), (fun c => absurd c (by decide)), (fun c => absurd c (by decide)), (fun c => absurd c (by decide))⟩ ((kp_ _).trans (zset_e (by omega)))
                    · show vP D T N 304 142 g61 [some (2, 121), some (0, (d : Int)), some (0, 5), some (0, 0), some (0, (2477 + (9 * (s : Int))))] [] _
                      refine vP_hv (fun hv61 => ?_)
                      refine v_load (v := (0, 0)) (hi_X12_readStep_142 hT) rfl rfl ?_
                      refine v_if (hi_X12_readStep_143 hT) (fun _ => ?_) (fun hc67 => absurd (show (0 : Int) = 0 from (by decide)) hc67)
                      refine v_load (v := (0, 0)) (hi_X12_readStep_170 hT) rfl rfl ?_
                      refine v_if (hi_X12_readStep_171 hT) (fun _ => ?_) (fun hc68 => absurd (show (0 : Int) = 0 from (by decide)) hc68)
                      refine v_load (v := (2, 121)) (hi_X12_readStep_192 hT) rfl rfl ?_
                      refine v_getR (c := 126) (r := 121) (hi_X12_readStep_193 hT) rfl rfl rfl ?_
                      refine v_load (v := (0, (2477 + (9 * (s : Int))))) (hi_X12_readStep_196 hT) rfl rfl ?_
                      refine v_push (8) (hi_X12_readStep_198 hT) rfl ?_
                      refine v_bin (w := ((2477 + (9 * (s : Int))) + 8)) (hi_X12_readStep_200 hT) (hq_add (by omega) (by omega)) ?_
                      refine v_load (v := (2, 121)) (hi_X12_readStep_201 hT) rfl rfl ?_
                      refine v_getf (v := (0, ((s : Int) + 1))) (r := 121) (hi_X12_readStep_202 hT) rfl rfl (fun _ => (Eq.trans (ft61 121 25 (by first | decide | exact fun c => by omega)) (Eq.trans (zset_ne (fun c => absurd c.1 (by decide))) ((Eq.trans (ft55 121 25 (by first | decide | exact fun c => by omega)) (Eq.trans (zset_ne (fun c => absurd c.1 (by decide))) ((Eq.trans (ft13 121 25 (by first | decide | exact fun c => by omega)) (zset_same))))))))) ?_
                      refine v_ast (r := 126) (hi_X12_readStep_205 hT) rfl rfl (fun ha69 hb70 hf71 => ?_)
                      refine v_ret0 (hi_X12_readStep_206 hT) ?_
                      exact er _ _ (by simp only [pStep, hE, hsw, hop, h15, opW15, harg, pNm, pWord, pSg, Bool.false_eq_true, (show ¬ 30 ≤ s from by omega), hc26, pIx_y hc43, hc61, ne_eq, not_true_eq_false, not_false_eq_true, if_true, if_false, eq_self, eb_l, eb_r, and_true, true_and, and_false, false_and]) (rE.z (r := 126) (k := ((((2477 + (9 * (s : Int))) + 8)).toNat)) (v := (0, ((s : Int) + 1))) (by decide) c61) (roF.z (a := 126) (b := ((((2477 + (9 * (s : Int))) + 8)).toNat)) (v := (0, ((s : Int) + 1))) (by omega) (roF.t (roF.z (a := 126) (b := ((((2477 + (9 * (s : Int))) + 1)).toNat)) (v := (0, (pIx (P 4) (τ 4 (i + 1)) (P 0 3).toNat 0))) (by omega) (roF.t (roF.z (a := 126) (b := (((2477 + (9 * (s : Int)))).toNat)) (v := (0, 5)) (by omega) (roF.t (roF.z (a := 121) (b := 25) (v := (0, ((s : Int) + 1))) (by omega) roF.rfl) ft13)) ft55)) ft61))
theorem ro7_14 {D : zD} {T : zT} (hT : hTab T) (hO : vOK T) {N : Nat} {h : zH} {Q : zR → Prop} {B : Nat → Int} {n m i s d : Nat} {τ P : PT} (hv0 : zHv h) (hX : rX B n m τ i h) (e0 : h 126 0 = (0, P 0 0)) (e1 : h 126 1 = (0, P 0 1)) (e2 : h 126 2 = (0, P 0 2)) (e3 : h 126 3 = (0, P 0 3)) (hN : rNm P h) (hb : (0 ≤ P 0 0 ∧ P 0 0 ≤ 8) ∧ (0 ≤ P 0 1 ∧ P 0 1 ≤ 6) ∧ (0 ≤ P 0 2 ∧ P 0 2 ≤ 3) ∧ (0 ≤ P 0 3 ∧ P 0 3 ≤ 6)) (hs : h 121 25 = (0, (s : Int))) (bs : s ≤ 30) (bd : d ≤ 3) (h1 : τ 0 i = 1) (h3 : τ 3 i = 14) (ih : ∀ g s' d' i' a K u v j, pStep τ P s d i = .inr (s', d', i') → rX B n m τ i' g → g 121 25 = (0, a) → a = (s' : Int) → s' ≤ 30 → roF h g → pItV τ P i = .inr (K, u, v, j) → (∀ e, ¬ (2477 + 9 * s ≤ e ∧ e < 2486 + 9 * s) → g 126 e = h 126 e) → rI7 (P 0 0) g s K u v → g 126 (2485 + 9 * s) = (0, (s : Int) + 1) → Q (g, none)) (er : ∀ g e, pStep τ P s d i = .inl e → rE e g → roF h g → Q (g, none)) :
    vP D T (N + 1) 304 0 h [some (2, 121), some (0, (d : Int)), none, none, none] [] Q := by
  have h0 : τ 0 i ≠ 0 := by omega
  have hE : (bW τ 20 i) = 0 := bW_0.mpr (fun c => absurd (h3.symm.trans c.2) (by decide))
  have hsw : ¬ swd τ i < 0 := by rw [swd_v h1, h3]; decide
  have hop : opW (τ 3 i) = false := by rw [h3]; rfl
  have h15 : ¬ τ 3 i = 15 := by rw [h3]; decide
  have harg : ∀ j, oArg τ P (τ 3 i) j = (.inr j) := fun j => by rw [h3]; rfl
  have hargV : ∀ j, oArV τ P 14 j = (.inr (0, 0, j)) := fun _ => rfl
  refine v_loadS (v := (2, 121)) (hi_X12_readStep_0 hT) rfl rfl ?_
  refine v_call (w := 1) [some (2, 121)] hO (hi_X12_readStep_1 hT) rfl rfl (rx_stepK hT hO 6 hX h1 h3 (by decide) ?_)
  · show vP D T N 304 4 h [some (2, 121), some (0, (d : Int)), none, none, none] [(0, 6)] _
    refine v_store1 [some (2, 121), some (0, (d : Int)), some (0, 6), none, none] (hi_X12_readStep_4 hT) ⟨rfl, Nat.ne_of_beq_eq_false rfl⟩ (Nat.le_of_ble_eq_true rfl) rfl ?_
    refine v_load (v := (0, 6)) (hi_X12_readStep_5 hT) rfl rfl ?_
    refine v_push (7) (hi_X12_readStep_6 hT) rfl ?_
    refine v_ic (hi_X12_readStep_8 hT) (fun hc1 => absurd (show (6 : Int) = 7 from hc1) (by decide)) (fun _ => ?_)
    refine v_load (v := (0, 6)) (hi_X12_readStep_11 hT) rfl rfl ?_
    refine v_push (8) (hi_X12_readStep_12 hT) rfl ?_
    refine v_ic (hi_X12_readStep_14 hT) (fun hc2 => absurd (show (6 : Int) = 8 from hc2) (by decide)) (fun _ => ?_)
    refine v_push (0) (hi_X12_readStep_21 hT) rfl ?_
    refine v_store1 [some (2, 121), some (0, (d : Int)), some (0, 6), some (0, 0), none] (hi_X12_readStep_22 hT) ⟨rfl, Nat.ne_of_beq_eq_false rfl⟩ (Nat.le_of_ble_eq_true rfl) rfl ?_
    refine v_load (v := (0, 6)) (hi_X12_readStep_23 hT) rfl rfl ?_
    refine v_if (hi_X12_readStep_24 hT) (fun hc3 => absurd (show (6 : Int) < 0 from hc3) (by decide)) (fun _ => ?_)
    refine v_load (v := (2, 121)) (hi_X12_readStep_31 hT) rfl rfl ?_
    refine v_getf (v := (0, 0)) (r := 121) (hi_X12_readStep_32 hT) rfl rfl (fun _ => hX.b) ?_
    refine v_if (hi_X12_readStep_35 hT) (fun _ => ?_) (fun hc4 => absurd (show (0 : Int) = 0 from (by decide)) hc4)
    refine v_load (v := (2, 121)) (hi_X12_readStep_38 hT) rfl rfl ?_
    refine v_getf (v := (0, (s : Int))) (r := 121) (hi_X12_readStep_39 hT) rfl rfl (fun _ => hs) ?_
    refine v_push (30) (hi_X12_readStep_42 hT) rfl ?_
    refine v_ic (hi_X12_readStep_44 hT) (fun hc5 => ?_) (fun hc5 => ?_)
    · have hc5 : (s : Int) = 30 := hc5
      refine v_load (v := (2, 121)) (hi_X12_readStep_47 hT) rfl rfl ?_
      refine v_push (6) (hi_X12_readStep_48 hT) rfl ?_
      refine v_load (v := (2, 121)) (hi_X12_readStep_50 hT) rfl rfl ?_
      refine v_getf (v := (0, (τ 1 i))) (r := 121) (hi_X12_readStep_51 hT) rfl rfl (fun _ => hX.ps) ?_
      refine v_call (w := 3) [some (2, 121), some (0, 6), some (0, (τ 1 i))] hO (hi_X12_readStep_54 hT) rfl rfl (rx_fail hT hO 6 hX h1 (by decide) (fun g6 ft6 c6 => ?_))
      · show vP D T N 304 57 g6 [some (2, 121), some (0, (d : Int)), some (0, 6), some (0, 0), none] [] _
        refine vP_hv (fun hv6 => ?_)
        refine v_load (v := (2, 121)) (hi_X12_readStep_57 hT) rfl rfl ?_
        refine v_getf (v := (0, (eF τ i 6).1)) (r := 121) (hi_X12_readStep_58 hT) rfl rfl (fun _ => c6.1) ?_
        refine v_if (hi_X12_readStep_61 hT) (fun hc7 => absurd (show (eF τ i 6).1 = 0 from hc7) (by have := c6.2.1; omega)) (fun _ => ?_)
        refine v_load (v := (2, 121)) (hi_X12_readStep_83 hT) rfl rfl ?_
        refine v_getf (v := (0, (eF τ i 6).1)) (r := 121) (hi_X12_readStep_84 hT) rfl rfl (fun _ => c6.1) ?_
        refine v_if (hi_X12_readStep_87 hT) (fun _ => ?_) (fun hc8 => absurd (show 0 < (eF τ i 6).1 from c6.2.1) hc8)
        refine v_ret0 (hi_X12_readStep_90 hT) ?_
        exact er _ _ (by simp only [pStep, hE, hsw, hop, h15, opW15, harg, pNm, pWord, pSg, Bool.false_eq_true, (show 30 ≤ s from by omega), ne_eq, not_true_eq_false, not_false_eq_true, if_true, if_false, eq_self, eb_l, eb_r, and_true, true_and, and_false, false_and]) c6 (roF.t roF.rfl ft6)
    · have hc5 : (s : Int) ≠ 30 := hc5
      refine v_load (v := (2, 121)) (hi_X12_readStep_57 hT) rfl rfl ?_
      refine v_getf (v := (0, 0)) (r := 121) (hi_X12_readStep_58 hT) rfl rfl (fun _ => hX.b) ?_
      refine v_if (hi_X12_readStep_61 hT) (fun _ => ?_) (fun hc9 => absurd (show (0 : Int) = 0 from (by decide)) hc9)
      refine v_load (v := (0, 0)) (hi_X12_readStep_64 hT) rfl rfl ?_
      refine v_if (hi_X12_readStep_65 hT) (fun _ => ?_) (fun hc10 => absurd (show (0 : Int) = 0 from (by decide)) hc10)
      refine v_load (v := (2, 121)) (hi_X12_readStep_83 hT) rfl rfl ?_
      refine v_getf (v := (0, 0)) (r := 121) (hi_X12_readStep_84 hT) rfl rfl (fun _ => hX.b) ?_
      refine v_if (hi_X12_readStep_87 hT) (fun hc11 => absurd (show 0 < (0 : Int) from hc11) (by decide)) (fun _ => ?_)
      refine v_push (2477) (hi_X12_readStep_91 hT) rfl ?_
      refine v_push (9) (hi_X12_readStep_94 hT) rfl ?_
      refine v_load (v := (2, 121)) (hi_X12_readStep_96 hT) rfl rfl ?_
      refine v_getf (v := (0, (s : Int))) (r := 121) (hi_X12_readStep_97 hT) rfl rfl (fun _ => hs) ?_
      refine v_bin (w := (9 * (s : Int))) (hi_X12_readStep_100 hT) (hq_mul (by omega) (by omega)) ?_
      refine v_bin (w := (2477 + (9 * (s : Int)))) (hi_X12_readStep_101 hT) (hq_add (by omega) (by omega)) ?_
      refine v_store1 [some (2, 121), some (0, (d : Int)), some (0, 6), some (0, 0), some (0, (2477 + (9 * (s : Int))))] (hi_X12_readStep_102 hT) ⟨rfl, Nat.ne_of_beq_eq_false rfl⟩ (Nat.le_of_ble_eq_true rfl) rfl ?_
      refine v_load (v := (2, 121)) (hi_X12_readStep_104 hT) rfl rfl ?_
      refine v_dup (hi_X12_readStep_105 hT) (Nat.ne_of_beq_eq_false rfl) ?_
      refine v_getf (v := (0, (s : Int))) (r := 121) (hi_X12_readStep_106 hT) rfl rfl (fun _ => hs) ?_
      refine v_push (1) (hi_X12_readStep_109 hT) rfl ?_
      refine v_bin (w := ((s : Int) + 1)) (hi_X12_readStep_110 hT) (hq_add (by omega) (by omega)) ?_
      refine v_putf (r := 121) hO (hi_X12_readStep_111 hT) rfl (fun hf12 => ?_)
      refine v_load (v := (2, 121)) (hi_X12_readStep_114 hT) rfl rfl ?_
      refine v_call (w := 2) [some (2, 121), none] hO (hi_X12_readStep_115 hT) rfl rfl (rx_next hT hO (rX.zf (k := 25) (v := (0, ((s : Int) + 1))) (by decide) hX) (ne_10 h1) (ne_14 h1) (fun g13 ft13 hX13 => ?_))
      · show vP D T N 304 118 g13 [some (2, 121), some (0, (d : Int)), some (0, 6), some (0, 0), some (0, (2477 + (9 * (s : Int))))] [] _
        refine vP_hv (fun hv13 => ?_)
        refine v_load (v := (2, 121)) (hi_X12_readStep_118 hT) rfl rfl ?_
        refine v_getR (c := 126) (r := 121) (hi_X12_readStep_119 hT) rfl rfl rfl ?_
        refine v_load (v := (0, (2477 + (9 * (s : Int))))) (hi_X12_readStep_122 hT) rfl rfl ?_
        refine v_load (v := (0, 6)) (hi_X12_readStep_124 hT) rfl rfl ?_
        refine v_ast (r := 126) (hi_X12_readStep_125 hT) rfl rfl (fun ha14 hb15 hf16 => ?_)
        refine v_load (v := (2, 121)) (hi_X12_readStep_126 hT) rfl rfl ?_
        refine v_load (v := (0, (2477 + (9 * (s : Int))))) (hi_X12_readStep_127 hT) rfl rfl ?_
        refine v_call (w := 3) [some (2, 121), some (0, (2477 + (9 * (s : Int)))), none] hO (hi_X12_readStep_129 hT) rfl rfl ?_
        refine v_load (v := (2, 121)) (hi_X12_readRest_0 hT) rfl rfl ?_
        refine v_getR (c := 126) (r := 121) (hi_X12_readRest_1 hT) rfl rfl rfl ?_
        refine v_load (v := (0, (2477 + (9 * (s : Int))))) (hi_X12_readRest_4 hT) rfl rfl ?_
        refine v_aldV (v := (0, 6)) (r := 126) (hi_X12_readRest_5 hT) rfl rfl (fun _ _ _ => zset_same) (fun ha17 hb18 => ?_)
        refine v_store1 [some (2, 121), some (0, (2477 + (9 * (s : Int)))), some (0, 6)] (hi_X12_readRest_6 hT) ⟨rfl, Nat.ne_of_beq_eq_false rfl⟩ (Nat.le_of_ble_eq_true rfl) rfl ?_
        refine v_load (v := (0, 6)) (hi_X12_readRest_7 hT) rfl rfl ?_
        refine v_if (hi_X12_readRest_8 hT) (fun hc19 => absurd (show (6 : Int) = 0 from hc19) (by decide)) (fun _ => ?_)
        refine v_load (v := (0, 6)) (hi_X12_readRest_11 hT) rfl rfl ?_
        refine v_push (2) (hi_X12_readRest_12 hT) rfl ?_
        refine v_ic (hi_X12_readRest_13 hT) (fun hc20 => absurd (show (6 : Int) = 2 from hc20) (by decide)) (fun _ => ?_)
        refine v_load (v := (0, 6)) (hi_X12_readRest_52 hT) rfl rfl ?_
        refine v_push (1) (hi_X12_readRest_53 hT) rfl ?_
        refine v_ic (hi_X12_readRest_54 hT) (fun hc21 => absurd (show (6 : Int) = 1 from hc21) (by decide)) (fun _ => ?_)
        refine v_load (v := (0, 6)) (hi_X12_readRest_72 hT) rfl rfl ?_
        refine v_push (3) (hi_X12_readRest_73 hT) rfl ?_
        refine v_ic (hi_X12_readRest_74 hT) (fun hc22 => absurd (show (6 : Int) = 3 from hc22) (by decide)) (fun _ => ?_)
        refine v_load (v := (0, 6)) (hi_X12_readRest_112 hT) rfl rfl ?_
        refine v_push (4) (hi_X12_readRest_113 hT) rfl ?_
        refine v_ic (hi_X12_readRest_114 hT) (fun hc23 => absurd (show (6 : Int) = 4 from hc23) (by decide)) (fun _ => ?_)
        refine v_load (v := (0, 6)) (hi_X12_readRest_155 hT) rfl rfl ?_
        refine v_push (5) (hi_X12_readRest_156 hT) rfl ?_
        refine v_ic (hi_X12_readRest_157 hT) (fun hc24 => absurd (show (6 : Int) = 5 from hc24) (by decide)) (fun _ => ?_)
        refine v_load (v := (0, 6)) (hi_X12_readRest_175 hT) rfl rfl ?_
        refine v_push (7) (hi_X12_readRest_176 hT) rfl ?_
        refine v_ic (hi_X12_readRest_178 hT) (fun hc25 => absurd (show (6 : Int) = 7 from hc25) (by decide)) (fun _ => ?_)
        refine v_load (v := (0, 6)) (hz_X12_readRest hT _ _ rfl) rfl rfl ?_
        refine v_push (8) (hz_X12_readRest hT _ _ rfl) rfl ?_
        refine v_ic (hz_X12_readRest hT _ _ rfl) (fun hc26 => absurd (show (6 : Int) = 8 from hc26) (by decide)) (fun _ => ?_)
        refine v_ret0 (hi_X12_readRest_210 hT) ?_
        show vP D T N 304 132 (zset g13 126 (((2477 + (9 * (s : Int)))).toNat) (0, 6)) [some (2, 121), some (0, (d : Int)), some (0, 6), some (0, 0), some (0, (2477 + (9 * (s : Int))))] [] _
        refine v_load (v := (2, 121)) (hi_X12_readStep_132 hT) rfl rfl ?_
        refine v_load (v := (2, 121)) (hi_X12_readStep_133 hT) rfl rfl ?_
        refine v_push (59) (hi_X12_readStep_134 hT) rfl ?_
        refine v_call (w := 2) [some (2, 121), some (0, 59)] hO (hi_X12_readStep_136 hT) rfl rfl (rx_isSign hT hO 59 (rX.z (r := 126) (k := (((2477 + (9 * (s : Int)))).toNat)) (v := (0, 6)) (by decide) hX13) ?_)
        · show vP D T N 304 139 (zset g13 126 (((2477 + (9 * (s : Int)))).toNat) (0, 6)) [some (2, 121), some (0, (d : Int)), some (0, 6), some (0, 0), some (0, (2477 + (9 * (s : Int))))] [(0, (bG τ 59 (i + 1))), (2, 121)] _
          refine v_call (w := 2) [some (2, 121), some (0, (bG τ 59 (i + 1)))] hO (hi_X12_readStep_139 hT) rfl rfl (rx_must hT hO ((bG τ 59 (i + 1))) (rX.z (r := 126) (k := (((2477 + (9 * (s : Int)))).toNat)) (v := (0, 6)) (by decide) hX13) (fun c => ⟨by have := (bG_y.mp c).1; omega, by have := (bG_y.mp c).1; omega⟩) (fun g28 ft28 hc27 hX28 => ?_) (fun g29 ft29 hc29 c29 => ?_))
          · show vP D T N 304 142 g28 [some (2, 121), some (0, (d : Int)), some (0, 6), some (0, 0), some (0, (2477 + (9 * (s : Int))))] [] _
            refine vP_hv (fun hv28 => ?_)
            refine v_load (v := (0, 0)) (hi_X12_readStep_142 hT) rfl rfl ?_
            refine v_if (hi_X12_readStep_143 hT) (fun _ => ?_) (fun hc30 => absurd (show (0 : Int) = 0 from (by decide)) hc30)
            refine v_load (v := (0, 0)) (hi_X12_readStep_170 hT) rfl rfl ?_
            refine v_if (hi_X12_readStep_171 hT) (fun _ => ?_) (fun hc31 => absurd (show (0 : Int) = 0 from (by decide)) hc31)
            refine v_load (v := (2, 121)) (hi_X12_readStep_192 hT) rfl rfl ?_
            refine v_getR (c := 126) (r := 121) (hi_X12_readStep_193 hT) rfl rfl rfl ?_
            refine v_load (v := (0, (2477 + (9 * (s : Int))))) (hi_X12_readStep_196 hT) rfl rfl ?_
            refine v_push (8) (hi_X12_readStep_198 hT) rfl ?_
            refine v_bin (w := ((2477 + (9 * (s : Int))) + 8)) (hi_X12_readStep_200 hT) (hq_add (by omega) (by omega)) ?_
            refine v_load (v := (2, 121)) (hi_X12_readStep_201 hT) rfl rfl ?_
            refine v_getf (v := (0, ((s : Int) + 1))) (r := 121) (hi_X12_readStep_202 hT) rfl rfl (fun _ => (Eq.trans (ft28 121 25 (by first | decide | exact fun c => by omega)) (Eq.trans (zset_ne (fun c => absurd c.1 (by decide))) ((Eq.trans (ft13 121 25 (by first | decide | exact fun c => by omega)) (zset_same)))))) ?_
            refine v_ast (r := 126) (hi_X12_readStep_205 hT) rfl rfl (fun ha32 hb33 hf34 => ?_)
            refine v_ret0 (hi_X12_readStep_206 hT) ?_
            have kp_ : ∀ e, (zset g28 126 ((((2477 + (9 * (s : Int))) + 8)).toNat) (0, ((s : Int) + 1))) 126 e = (zset (zset h 126 (((2477 + (9 * (s : Int)))).toNat) (0, 6)) 126 ((((2477 + (9 * (s : Int))) + 8)).toNat) (0, ((s : Int) + 1))) 126 e := (kr_z (k := ((((2477 + (9 * (s : Int))) + 8)).toNat)) (v := (0, ((s : Int) + 1))) (kr_f (fun e => ft28 126 e (fun c => by omega)) (kr_z (k := (((2477 + (9 * (s : Int)))).toNat)) (v := (0, 6)) (kr_f (fun e => ft13 126 e (fun c => by omega)) (kr_n (a := 121) (k := 25) (v := (0, ((s : Int) + 1))) (by decide) (fun _ => Eq.refl _))))))
            exact ih _ (s + 1) (d) (i + 1 + 1) _ 14 0 0 (i + 1) (by simp only [pStep, hE, hsw, hop, h15, opW15, harg, pNm, pWord, pSg, Bool.false_eq_true, (show ¬ 30 ≤ s from by omega), hc27, ne_eq, not_true_eq_false, not_false_eq_true, if_true, if_false, eq_self, eb_l, eb_r, and_true, true_and, and_false, false_and]) (rX.z (r := 126) (k := ((((2477 + (9 * (s : Int))) + 8)).toNat)) (v := (0, ((s : Int) + 1))) (by decide) hX28) (Eq.trans (zset_ne (fun c => absurd c.1 (by decide))) ((Eq.trans (ft28 121 25 (by first | decide | exact fun c => by omega)) (Eq.trans (zset_ne (fun c => absurd c.1 (by decide))) ((Eq.trans (ft13 121 25 (by first | decide | exact fun c => by omega)) (zset_same))))))) (by omega) (by omega) (roF.z (a := 126) (b := ((((2477 + (9 * (s : Int))) + 8)).toNat)) (v := (0, ((s : Int) + 1))) (by omega) (roF.t (roF.z (a := 126) (b := (((2477 + (9 * (s : Int)))).toNat)) (v := (0, 6)) (by omega) (roF.t (roF.z (a := 121) (b := 25) (v := (0, ((s : Int) + 1))) (by omega) roF.rfl) ft13)) ft28)) (pItV_a h3 (by decide) (by simp only [hargV, pWord, (show ¬ 30 ≤ s from by omega), hc27, ne_eq, not_true_eq_false, not_false_eq_true, if_true, if_false, eq_self, eb_l, eb_r, and_true, true_and, and_false, false_and])) (fun e_ hn_ => (kp_ e_).trans ((zset_ne (fun c => hn_ (by omega))).trans (zset_ne (fun c => hn_ (by omega))))) ⟨((kp_ _).trans ((zset_ne (fun c => by omega)).trans (zset_e (by omega)))), (fun c => by omega), (fun c => absurd c (by decide)), (fun c => absurd c (by decide)), (fun c => absurd c (by decide)), (fun c => absurd c (by decide))⟩ ((kp_ _).trans (zset_e (by omega)))
          · show vP D T N 304 142 g29 [some (2, 121), some (0, (d : Int)), some (0, 6), some (0, 0), some (0, (2477 + (9 * (s : Int))))] [] _
            refine vP_hv (fun hv29 => ?_)
            refine v_load (v := (0, 0)) (hi_X12_readStep_142 hT) rfl rfl ?_
            refine v_if (hi_X12_readStep_143 hT) (fun _ => ?_) (fun hc35 => absurd (show (0 : Int) = 0 from (by decide)) hc35)
            refine v_load (v := (0, 0)) (hi_X12_readStep_170 hT) rfl rfl ?_
            refine v_if (hi_X12_readStep_171 hT) (fun _ => ?_) (fun hc36 => absurd (show (0 : Int) = 0 from (by decide)) hc36)
            refine v_load (v := (2, 121)) (hi_X12_readStep_192 hT) rfl rfl ?_
            refine v_getR (c := 126) (r := 121) (hi_X12_readStep_193 hT) rfl rfl rfl ?_
            refine v_load (v := (0, (2477 + (9 * (s : Int))))) (hi_X12_readStep_196 hT) rfl rfl ?_
            refine v_push (8) (hi_X12_readStep_198 hT) rfl ?_
            refine v_bin (w := ((2477 + (9 * (s : Int))) + 8)) (hi_X12_readStep_200 hT) (hq_add (by omega) (by omega)) ?_
            refine v_load (v := (2, 121)) (hi_X12_readStep_201 hT) rfl rfl ?_
            refine v_getf (v := (0, ((s : Int) + 1))) (r := 121) (hi_X12_readStep_202 hT) rfl rfl (fun _ => (Eq.trans (ft29 121 25 (by first | decide | exact fun c => by omega)) (Eq.trans (zset_ne (fun c => absurd c.1 (by decide))) ((Eq.trans (ft13 121 25 (by first | decide | exact fun c => by omega)) (zset_same)))))) ?_
            refine v_ast (r := 126) (hi_X12_readStep_205 hT) rfl rfl (fun ha37 hb38 hf39 => ?_)
            refine v_ret0 (hi_X12_readStep_206 hT) ?_
            exact er _ _ (by simp only [pStep, hE, hsw, hop, h15, opW15, harg, pNm, pWord, pSg, Bool.false_eq_true, (show ¬ 30 ≤ s from by omega), hc29, ne_eq, not_true_eq_false, not_false_eq_true, if_true, if_false, eq_self, eb_l, eb_r, and_true, true_and, and_false, false_and]) (rE.z (r := 126) (k := ((((2477 + (9 * (s : Int))) + 8)).toNat)) (v := (0, ((s : Int) + 1))) (by decide) c29) (roF.z (a := 126) (b := ((((2477 + (9 * (s : Int))) + 8)).toNat)) (v := (0, ((s : Int) + 1))) (by omega) (roF.t (roF.z (a := 126) (b := (((2477 + (9 * (s : Int)))).toNat)) (v := (0, 6)) (by omega) (roF.t (roF.z (a := 121) (b := 25) (v := (0, ((s : Int) + 1))) (by omega) roF.rfl) ft13)) ft29))
theorem ro7_19 {D : zD} {T : zT} (hT : hTab T) (hO : vOK T) {N : Nat} {h : zH} {Q : zR → Prop} {B : Nat → Int} {n m i s d : Nat} {τ P : PT} (hv0 : zHv h) (hX : rX B n m τ i h) (e0 : h 126 0 = (0, P 0 0)) (e1 : h 126 1 = (0, P 0 1)) (e2 : h 126 2 = (0, P 0 2)) (e3 : h 126 3 = (0, P 0 3)) (hN : rNm P h) (hb : (0 ≤ P 0 0 ∧ P 0 0 ≤ 8) ∧ (0 ≤ P 0 1 ∧ P 0 1 ≤ 6) ∧ (0 ≤ P 0 2 ∧ P 0 2 ≤ 3) ∧ (0 ≤ P 0 3 ∧ P 0 3 ≤ 6)) (hs : h 121 25 = (0, (s : Int))) (bs : s ≤ 30) (bd : d ≤ 3) (h1 : τ 0 i = 1) (h3 : τ 3 i = 19) (ih : ∀ g s' d' i' a K u v j, pStep τ P s d i = .inr (s', d', i') → rX B n m τ i' g → g 121 25 = (0, a) → a = (s' : Int) → s' ≤ 30 → roF h g → pItV τ P i = .inr (K, u, v, j) → (∀ e, ¬ (2477 + 9 * s ≤ e ∧ e < 2486 + 9 * s) → g 126 e = h 126 e) → rI7 (P 0 0) g s K u v → vP D T N 304 142 g [some (2, 121), some (0, (d : Int)), some (0, 8), some (0, 1), some (0, 2477 + 9 * (s : Int))] [] Q) (er : ∀ g e, pStep τ P s d i = .inl e → rE e g → roF h g → Q (g, none)) :
    vP D T (N + 1) 304 0 h [some (2, 121), some (0, (d : Int)), none, none, none] [] Q := by
  have h0 : τ 0 i ≠ 0 := by omega
  have hE : (bW τ 20 i) = 0 := bW_0.mpr (fun c => absurd (h3.symm.trans c.2) (by decide))
  have hsw : ¬ swd τ i < 0 := by rw [swd_v h1, h3]; decide
  have hop : opW (τ 3 i) = true := by rw [h3]; rfl
  have h15 : ¬ τ 3 i = 15 := by rw [h3]; decide
  have harg : ∀ j, oArg τ P (τ 3 i) j = (eb (pNum τ 1 99 j) fun a => .inr a.2) := fun j => by rw [h3]; rfl
  have hargV : ∀ j, oArV τ P 19 j = (eb (pNum τ 1 99 j) fun a => .inr (a.1, 0, a.2)) := fun _ => rfl
  refine v_loadS (v := (2, 121)) (hi_X12_readStep_0 hT) rfl rfl ?_
  refine v_call (w := 1) [some (2, 121)] hO (hi_X12_readStep_1 hT) rfl rfl (rx_stepK hT hO 8 hX h1 h3 (by decide) ?_)
  · show vP D T N 304 4 h [some (2, 121), some (0, (d : Int)), none, none, none] [(0, 8)] _
    refine v_store1 [some (2, 121), some (0, (d : Int)), some (0, 8), none, none] (hi_X12_readStep_4 hT) ⟨rfl, Nat.ne_of_beq_eq_false rfl⟩ (Nat.le_of_ble_eq_true rfl) rfl ?_
    refine v_load (v := (0, 8)) (hi_X12_readStep_5 hT) rfl rfl ?_
    refine v_push (7) (hi_X12_readStep_6 hT) rfl ?_
    refine v_ic (hi_X12_readStep_8 hT) (fun hc1 => absurd (show (8 : Int) = 7 from hc1) (by decide)) (fun _ => ?_)
    refine v_load (v := (0, 8)) (hi_X12_readStep_11 hT) rfl rfl ?_
    refine v_push (8) (hi_X12_readStep_12 hT) rfl ?_
    refine v_ic (hi_X12_readStep_14 hT) (fun _ => ?_) (fun hc2 => absurd (show (8 : Int) = 8 from (by decide)) hc2)
    refine v_push (1) (hi_X12_readStep_17 hT) rfl ?_
    refine v_goto (hi_X12_readStep_18 hT) ?_
    refine v_store1 [some (2, 121), some (0, (d : Int)), some (0, 8), some (0, 1), none] (hi_X12_readStep_22 hT) ⟨rfl, Nat.ne_of_beq_eq_false rfl⟩ (Nat.le_of_ble_eq_true rfl) rfl ?_
    refine v_load (v := (0, 8)) (hi_X12_readStep_23 hT) rfl rfl ?_
    refine v_if (hi_X12_readStep_24 hT) (fun hc3 => absurd (show (8 : Int) < 0 from hc3) (by decide)) (fun _ => ?_)
    refine v_load (v := (2, 121)) (hi_X12_readStep_31 hT) rfl rfl ?_
    refine v_getf (v := (0, 0)) (r := 121) (hi_X12_readStep_32 hT) rfl rfl (fun _ => hX.b) ?_
    refine v_if (hi_X12_readStep_35 hT) (fun _ => ?_) (fun hc4 => absurd (show (0 : Int) = 0 from (by decide)) hc4)
    refine v_load (v := (2, 121)) (hi_X12_readStep_38 hT) rfl rfl ?_
    refine v_getf (v := (0, (s : Int))) (r := 121) (hi_X12_readStep_39 hT) rfl rfl (fun _ => hs) ?_
    refine v_push (30) (hi_X12_readStep_42 hT) rfl ?_
    refine v_ic (hi_X12_readStep_44 hT) (fun hc5 => ?_) (fun hc5 => ?_)
    · have hc5 : (s : Int) = 30 := hc5
      refine v_load (v := (2, 121)) (hi_X12_readStep_47 hT) rfl rfl ?_
      refine v_push (6) (hi_X12_readStep_48 hT) rfl ?_
      refine v_load (v := (2, 121)) (hi_X12_readStep_50 hT) rfl rfl ?_
      refine v_getf (v := (0, (τ 1 i))) (r := 121) (hi_X12_readStep_51 hT) rfl rfl (fun _ => hX.ps) ?_
      refine v_call (w := 3) [some (2, 121), some (0, 6), some (0, (τ 1 i))] hO (hi_X12_readStep_54 hT) rfl rfl (rx_fail hT hO 6 hX h1 (by decide) (fun g6 ft6 c6 => ?_))
      · show vP D T N 304 57 g6 [some (2, 121), some (0, (d : Int)), some (0, 8), some (0, 1), none] [] _
        refine vP_hv (fun hv6 => ?_)
        refine v_load (v := (2, 121)) (hi_X12_readStep_57 hT) rfl rfl ?_
        refine v_getf (v := (0, (eF τ i 6).1)) (r := 121) (hi_X12_readStep_58 hT) rfl rfl (fun _ => c6.1) ?_
        refine v_if (hi_X12_readStep_61 hT) (fun hc7 => absurd (show (eF τ i 6).1 = 0 from hc7) (by have := c6.2.1; omega)) (fun _ => ?_)
        refine v_load (v := (2, 121)) (hi_X12_readStep_83 hT) rfl rfl ?_
        refine v_getf (v := (0, (eF τ i 6).1)) (r := 121) (hi_X12_readStep_84 hT) rfl rfl (fun _ => c6.1) ?_
        refine v_if (hi_X12_readStep_87 hT) (fun _ => ?_) (fun hc8 => absurd (show 0 < (eF τ i 6).1 from c6.2.1) hc8)
        refine v_ret0 (hi_X12_readStep_90 hT) ?_
        exact er _ _ (by simp only [pStep, hE, hsw, hop, h15, opW15, harg, pNm, pWord, pSg, (show 30 ≤ s from by omega), ne_eq, not_true_eq_false, not_false_eq_true, if_true, if_false, eq_self, eb_l, eb_r, and_true, true_and, and_false, false_and]) c6 (roF.t roF.rfl ft6)
    · have hc5 : (s : Int) ≠ 30 := hc5
      refine v_load (v := (2, 121)) (hi_X12_readStep_57 hT) rfl rfl ?_
      refine v_getf (v := (0, 0)) (r := 121) (hi_X12_readStep_58 hT) rfl rfl (fun _ => hX.b) ?_
      refine v_if (hi_X12_readStep_61 hT) (fun _ => ?_) (fun hc9 => absurd (show (0 : Int) = 0 from (by decide)) hc9)
      refine v_load (v := (0, 1)) (hi_X12_readStep_64 hT) rfl rfl ?_
      refine v_if (hi_X12_readStep_65 hT) (fun hc10 => absurd (show (1 : Int) = 0 from hc10) (by decide)) (fun _ => ?_)
      refine v_load (v := (0, (d : Int))) (hi_X12_readStep_68 hT) rfl rfl ?_
      refine v_push (3) (hi_X12_readStep_69 hT) rfl ?_
      refine v_ic (hi_X12_readStep_70 hT) (fun hc11 => ?_) (fun hc11 => ?_)
      · have hc11 : (d : Int) = 3 := hc11
        refine v_load (v := (2, 121)) (hi_X12_readStep_73 hT) rfl rfl ?_
        refine v_push (7) (hi_X12_readStep_74 hT) rfl ?_
        refine v_load (v := (2, 121)) (hi_X12_readStep_76 hT) rfl rfl ?_
        refine v_getf (v := (0, (τ 1 i))) (r := 121) (hi_X12_readStep_77 hT) rfl rfl (fun _ => hX.ps) ?_
        refine v_call (w := 3) [some (2, 121), some (0, 7), some (0, (τ 1 i))] hO (hi_X12_readStep_80 hT) rfl rfl (rx_fail hT hO 7 hX h1 (by decide) (fun g12 ft12 c12 => ?_))
        · show vP D T N 304 83 g12 [some (2, 121), some (0, (d : Int)), some (0, 8), some (0, 1), none] [] _
          refine vP_hv (fun hv12 => ?_)
          refine v_load (v := (2, 121)) (hi_X12_readStep_83 hT) rfl rfl ?_
          refine v_getf (v := (0, (eF τ i 7).1)) (r := 121) (hi_X12_readStep_84 hT) rfl rfl (fun _ => c12.1) ?_
          refine v_if (hi_X12_readStep_87 hT) (fun _ => ?_) (fun hc13 => absurd (show 0 < (eF τ i 7).1 from c12.2.1) hc13)
          refine v_ret0 (hi_X12_readStep_90 hT) ?_
          exact er _ _ (by simp only [pStep, hE, hsw, hop, h15, opW15, harg, pNm, pWord, pSg, (show ¬ 30 ≤ s from by omega), (show 3 ≤ d from by omega), ne_eq, not_true_eq_false, not_false_eq_true, if_true, if_false, eq_self, eb_l, eb_r, and_true, true_and, and_false, false_and]) c12 (roF.t roF.rfl ft12)
      · have hc11 : (d : Int) ≠ 3 := hc11
        refine v_load (v := (2, 121)) (hi_X12_readStep_83 hT) rfl rfl ?_
        refine v_getf (v := (0, 0)) (r := 121) (hi_X12_readStep_84 hT) rfl rfl (fun _ => hX.b) ?_
        refine v_if (hi_X12_readStep_87 hT) (fun hc14 => absurd (show 0 < (0 : Int) from hc14) (by decide)) (fun _ => ?_)
        refine v_push (2477) (hi_X12_readStep_91 hT) rfl ?_
        refine v_push (9) (hi_X12_readStep_94 hT) rfl ?_
        refine v_load (v := (2, 121)) (hi_X12_readStep_96 hT) rfl rfl ?_
        refine v_getf (v := (0, (s : Int))) (r := 121) (hi_X12_readStep_97 hT) rfl rfl (fun _ => hs) ?_
        refine v_bin (w := (9 * (s : Int))) (hi_X12_readStep_100 hT) (hq_mul (by omega) (by omega)) ?_
        refine v_bin (w := (2477 + (9 * (s : Int)))) (hi_X12_readStep_101 hT) (hq_add (by omega) (by omega)) ?_
        refine v_store1 [some (2, 121), some (0, (d : Int)), some (0, 8), some (0, 1), some (0, (2477 + (9 * (s : Int))))] (hi_X12_readStep_102 hT) ⟨rfl, Nat.ne_of_beq_eq_false rfl⟩ (Nat.le_of_ble_eq_true rfl) rfl ?_
        refine v_load (v := (2, 121)) (hi_X12_readStep_104 hT) rfl rfl ?_
        refine v_dup (hi_X12_readStep_105 hT) (Nat.ne_of_beq_eq_false rfl) ?_
        refine v_getf (v := (0, (s : Int))) (r := 121) (hi_X12_readStep_106 hT) rfl rfl (fun _ => hs) ?_
        refine v_push (1) (hi_X12_readStep_109 hT) rfl ?_
        refine v_bin (w := ((s : Int) + 1)) (hi_X12_readStep_110 hT) (hq_add (by omega) (by omega)) ?_
        refine v_putf (r := 121) hO (hi_X12_readStep_111 hT) rfl (fun hf15 => ?_)
        refine v_load (v := (2, 121)) (hi_X12_readStep_114 hT) rfl rfl ?_
        refine v_call (w := 2) [some (2, 121), none] hO (hi_X12_readStep_115 hT) rfl rfl (rx_next hT hO (rX.zf (k := 25) (v := (0, ((s : Int) + 1))) (by decide) hX) (ne_10 h1) (ne_14 h1) (fun g16 ft16 hX16 => ?_))
        · show vP D T N 304 118 g16 [some (2, 121), some (0, (d : Int)), some (0, 8), some (0, 1), some (0, (2477 + (9 * (s : Int))))] [] _
          refine vP_hv (fun hv16 => ?_)
          refine v_load (v := (2, 121)) (hi_X12_readStep_118 hT) rfl rfl ?_
          refine v_getR (c := 126) (r := 121) (hi_X12_readStep_119 hT) rfl rfl rfl ?_
          refine v_load (v := (0, (2477 + (9 * (s : Int))))) (hi_X12_readStep_122 hT) rfl rfl ?_
          refine v_load (v := (0, 8)) (hi_X12_readStep_124 hT) rfl rfl ?_
          refine v_ast (r := 126) (hi_X12_readStep_125 hT) rfl rfl (fun ha17 hb18 hf19 => ?_)
          refine v_load (v := (2, 121)) (hi_X12_readStep_126 hT) rfl rfl ?_
          refine v_load (v := (0, (2477 + (9 * (s : Int))))) (hi_X12_readStep_127 hT) rfl rfl ?_
          refine v_call (w := 3) [some (2, 121), some (0, (2477 + (9 * (s : Int)))), none] hO (hi_X12_readStep_129 hT) rfl rfl ?_
          refine v_load (v := (2, 121)) (hi_X12_readRest_0 hT) rfl rfl ?_
          refine v_getR (c := 126) (r := 121) (hi_X12_readRest_1 hT) rfl rfl rfl ?_
          refine v_load (v := (0, (2477 + (9 * (s : Int))))) (hi_X12_readRest_4 hT) rfl rfl ?_
          refine v_aldV (v := (0, 8)) (r := 126) (hi_X12_readRest_5 hT) rfl rfl (fun _ _ _ => zset_same) (fun ha20 hb21 => ?_)
          refine v_store1 [some (2, 121), some (0, (2477 + (9 * (s : Int)))), some (0, 8)] (hi_X12_readRest_6 hT) ⟨rfl, Nat.ne_of_beq_eq_false rfl⟩ (Nat.le_of_ble_eq_true rfl) rfl ?_
          refine v_load (v := (0, 8)) (hi_X12_readRest_7 hT) rfl rfl ?_
          refine v_if (hi_X12_readRest_8 hT) (fun hc22 => absurd (show (8 : Int) = 0 from hc22) (by decide)) (fun _ => ?_)
          refine v_load (v := (0, 8)) (hi_X12_readRest_11 hT) rfl rfl ?_
          refine v_push (2) (hi_X12_readRest_12 hT) rfl ?_
          refine v_ic (hi_X12_readRest_13 hT) (fun hc23 => absurd (show (8 : Int) = 2 from hc23) (by decide)) (fun _ => ?_)
          refine v_load (v := (0, 8)) (hi_X12_readRest_52 hT) rfl rfl ?_
          refine v_push (1) (hi_X12_readRest_53 hT) rfl ?_
          refine v_ic (hi_X12_readRest_54 hT) (fun hc24 => absurd (show (8 : Int) = 1 from hc24) (by decide)) (fun _ => ?_)
          refine v_load (v := (0, 8)) (hi_X12_readRest_72 hT) rfl rfl ?_
          refine v_push (3) (hi_X12_readRest_73 hT) rfl ?_
          refine v_ic (hi_X12_readRest_74 hT) (fun hc25 => absurd (show (8 : Int) = 3 from hc25) (by decide)) (fun _ => ?_)
          refine v_load (v := (0, 8)) (hi_X12_readRest_112 hT) rfl rfl ?_
          refine v_push (4) (hi_X12_readRest_113 hT) rfl ?_
          refine v_ic (hi_X12_readRest_114 hT) (fun hc26 => absurd (show (8 : Int) = 4 from hc26) (by decide)) (fun _ => ?_)
          refine v_load (v := (0, 8)) (hi_X12_readRest_155 hT) rfl rfl ?_
          refine v_push (5) (hi_X12_readRest_156 hT) rfl ?_
          refine v_ic (hi_X12_readRest_157 hT) (fun hc27 => absurd (show (8 : Int) = 5 from hc27) (by decide)) (fun _ => ?_)
          refine v_load (v := (0, 8)) (hi_X12_readRest_175 hT) rfl rfl ?_
          refine v_push (7) (hi_X12_readRest_176 hT) rfl ?_
          refine v_ic (hi_X12_readRest_178 hT) (fun hc28 => absurd (show (8 : Int) = 7 from hc28) (by decide)) (fun _ => ?_)
          refine v_load (v := (0, 8)) (hz_X12_readRest hT _ _ rfl) rfl rfl ?_
          refine v_push (8) (hz_X12_readRest hT _ _ rfl) rfl ?_
          refine v_ic (hz_X12_readRest hT _ _ rfl) (fun _ => ?_) (fun hc29 => absurd (show (8 : Int) = 8 from (by decide)) hc29)
          refine v_load (v := (2, 121)) (hz_X12_readRest hT _ _ rfl) rfl rfl ?_
          refine v_getR (c := 126) (r := 121) (hz_X12_readRest hT _ _ rfl) rfl rfl rfl ?_
          refine v_load (v := (0, (2477 + (9 * (s : Int))))) (hz_X12_readRest hT _ _ rfl) rfl rfl ?_
          refine v_push (1) (hz_X12_readRest hT _ _ rfl) rfl ?_
          refine v_bin (w := ((2477 + (9 * (s : Int))) + 1)) (hz_X12_readRest hT _ _ rfl) (hq_add (by omega) (by omega)) ?_
          refine v_load (v := (2, 121)) (hz_X12_readRest hT _ _ rfl) rfl rfl ?_
          refine v_push (1) (hz_X12_readRest hT _ _ rfl) rfl ?_
          refine v_push (99) (hz_X12_readRest hT _ _ rfl) rfl ?_
          refine v_call (w := 4) [some (2, 121), some (0, 1), some (0, 99), none] hO (hz_X12_readRest hT _ _ rfl) rfl rfl (rx_num hT hO 1 99 (rX.z (r := 126) (k := (((2477 + (9 * (s : Int)))).toNat)) (v := (0, 8)) (by decide) hX16) (fun g31 x30 ft31 q31 bux30 bvx30 hX31 => ?_) (fun g32 e32 ft32 q32 c32 => ?_))
          · show vP D T N 301 209 g31 [some (2, 121), some (0, (2477 + (9 * (s : Int)))), some (0, 8)] [(0, x30), (0, ((2477 + (9 * (s : Int))) + 1)), (2, 126)] _
            refine vP_hv (fun hv31 => ?_)
            refine v_ast (r := 126) (hz_X12_readRest hT _ _ rfl) rfl rfl (fun ha33 hb34 hf35 => ?_)
            refine v_ret0 (hi_X12_readRest_210 hT) ?_
            show vP D T N 304 132 (zset g31 126 ((((2477 + (9 * (s : Int))) + 1)).toNat) (0, x30)) [some (2, 121), some (0, (d : Int)), some (0, 8), some (0, 1), some (0, (2477 + (9 * (s : Int))))] [] _
            refine v_load (v := (2, 121)) (hi_X12_readStep_132 hT) rfl rfl ?_
            refine v_load (v := (2, 121)) (hi_X12_readStep_133 hT) rfl rfl ?_
            refine v_push (59) (hi_X12_readStep_134 hT) rfl ?_
            refine v_call (w := 2) [some (2, 121), some (0, 59)] hO (hi_X12_readStep_136 hT) rfl rfl (rx_isSign hT hO 59 (rX.z (r := 126) (k := ((((2477 + (9 * (s : Int))) + 1)).toNat)) (v := (0, x30)) (by decide) hX31) ?_)
            · show vP D T N 304 139 (zset g31 126 ((((2477 + (9 * (s : Int))) + 1)).toNat) (0, x30)) [some (2, 121), some (0, (d : Int)), some (0, 8), some (0, 1), some (0, (2477 + (9 * (s : Int))))] [(0, (bG τ 59 (i + 1 + 1))), (2, 121)] _
              refine v_call (w := 2) [some (2, 121), some (0, (bG τ 59 (i + 1 + 1)))] hO (hi_X12_readStep_139 hT) rfl rfl (rx_must hT hO ((bG τ 59 (i + 1 + 1))) (rX.z (r := 126) (k := ((((2477 + (9 * (s : Int))) + 1)).toNat)) (v := (0, x30)) (by decide) hX31) (fun c => ⟨by have := (bG_y.mp c).1; omega, by have := (bG_y.mp c).1; omega⟩) (fun g37 ft37 hc36 hX37 => ?_) (fun g38 ft38 hc38 c38 => ?_))
              · show vP D T N 304 142 g37 [some (2, 121), some (0, (d : Int)), some (0, 8), some (0, 1), some (0, (2477 + (9 * (s : Int))))] [] _
                refine vP_hv (fun hv37 => ?_)
                have kp_ : ∀ e, g37 126 e = (zset (zset h 126 (((2477 + (9 * (s : Int)))).toNat) (0, 8)) 126 ((((2477 + (9 * (s : Int))) + 1)).toNat) (0, x30)) 126 e := (kr_f (fun e => ft37 126 e (fun c => by omega)) (kr_z (k := ((((2477 + (9 * (s : Int))) + 1)).toNat)) (v := (0, x30)) (kr_f (fun e => ft31 126 e (fun c => by omega)) (kr_z (k := (((2477 + (9 * (s : Int)))).toNat)) (v := (0, 8)) (kr_f (fun e => ft16 126 e (fun c => by omega)) (kr_n (a := 121) (k := 25) (v := (0, ((s : Int) + 1))) (by decide) (fun _ => Eq.refl _)))))))
                exact ih _ (s + 1) (d + 1) (i + 1 + 1 + 1) _ 19 x30 0 (i + 1 + 1) (by simp only [pStep, hE, hsw, hop, h15, opW15, harg, pNm, pWord, pSg, (show ¬ 30 ≤ s from by omega), (show ¬ 3 ≤ d from by omega), q31, hc36, ne_eq, not_true_eq_false, not_false_eq_true, if_true, if_false, eq_self, eb_l, eb_r, and_true, true_and, and_false, false_and]) hX37 (Eq.trans (ft37 121 25 (by first | decide | exact fun c => by omega)) (Eq.trans (zset_ne (fun c => absurd c.1 (by decide))) ((Eq.trans (ft31 121 25 (by first | decide | exact fun c => by omega)) (Eq.trans (zset_ne (fun c => absurd c.1 (by decide))) ((Eq.trans (ft16 121 25 (by first | decide | exact fun c => by omega)) (zset_same)))))))) (by omega) (by omega) (roF.t (roF.z (a := 126) (b := ((((2477 + (9 * (s : Int))) + 1)).toNat)) (v := (0, x30)) (by omega) (roF.t (roF.z (a := 126) (b := (((2477 + (9 * (s : Int)))).toNat)) (v := (0, 8)) (by omega) (roF.t (roF.z (a := 121) (b := 25) (v := (0, ((s : Int) + 1))) (by omega) roF.rfl) ft16)) ft31)) ft37) (pItV_a h3 (by decide) (by simp only [hargV, pWord, (show ¬ 30 ≤ s from by omega), (show ¬ 3 ≤ d from by omega), q31, hc36, ne_eq, not_true_eq_false, not_false_eq_true, if_true, if_false, eq_self, eb_l, eb_r, and_true, true_and, and_false, false_and])) (fun e_ hn_ => (kp_ e_).trans ((zset_ne (fun c => hn_ (by omega))).trans (zset_ne (fun c => hn_ (by omega))))) ⟨((kp_ _).trans ((zset_ne (fun c => by omega)).trans (zset_e (by omega)))), (fun _ => ((kp_ _).trans (zset_e (by omega)))), (fun c => absurd c (by decide)), (fun c => absurd c (by decide)), (fun c => absurd c (by decide)), (fun c => absurd c (by decide))⟩
              · show vP D T N 304 142 g38 [some (2, 121), some (0, (d : Int)), some (0, 8), some (0, 1), some (0, (2477 + (9 * (s : Int))))] [] _
                refine vP_hv (fun hv38 => ?_)
                refine v_load (v := (0, 1)) (hi_X12_readStep_142 hT) rfl rfl ?_
                refine v_if (hi_X12_readStep_143 hT) (fun hc39 => absurd (show (1 : Int) = 0 from hc39) (by decide)) (fun _ => ?_)
                refine v_load (v := (2, 121)) (hi_X12_readStep_146 hT) rfl rfl ?_
                refine v_getf (v := (0, (eF τ (i + 1 + 1) 2).1)) (r := 121) (hi_X12_readStep_147 hT) rfl rfl (fun _ => c38.1) ?_
                refine v_if (hi_X12_readStep_150 hT) (fun hc40 => absurd (show (eF τ (i + 1 + 1) 2).1 = 0 from hc40) (by have := c38.2.1; omega)) (fun _ => ?_)
                refine v_load (v := (0, 1)) (hi_X12_readStep_170 hT) rfl rfl ?_
                refine v_if (hi_X12_readStep_171 hT) (fun hc41 => absurd (show (1 : Int) = 0 from hc41) (by decide)) (fun _ => ?_)
                refine v_load (v := (2, 121)) (hi_X12_readStep_174 hT) rfl rfl ?_
                refine v_load (v := (2, 121)) (hi_X12_readStep_175 hT) rfl rfl ?_
                refine v_call (w := 1) [some (2, 121)] hO (hi_X12_readStep_176 hT) rfl rfl (rb_any_isEnd hT hO (fun v42 => ?_))
                · show vP D T N 304 179 g38 [some (2, 121), some (0, (d : Int)), some (0, 8), some (0, 1), some (0, (2477 + (9 * (s : Int))))] [(0, v42), (2, 121)] _
                  refine v_call (w := 2) [some (2, 121), some (0, v42)] hO (hi_X12_readStep_179 hT) rfl rfl (rx_mustB hT hO v42 c38 ?_)
                  · show vP D T N 304 182 g38 [some (2, 121), some (0, (d : Int)), some (0, 8), some (0, 1), some (0, (2477 + (9 * (s : Int))))] [] _
                    refine v_load (v := (2, 121)) (hi_X12_readStep_182 hT) rfl rfl ?_
                    refine v_load (v := (2, 121)) (hi_X12_readStep_183 hT) rfl rfl ?_
                    refine v_push (59) (hi_X12_readStep_184 hT) rfl ?_
                    refine v_call (w := 2) [some (2, 121), some (0, 59)] hO (hi_X12_readStep_186 hT) rfl rfl (rb_any_isSign hT hO (fun v43 => ?_))
                    · show vP D T N 304 189 g38 [some (2, 121), some (0, (d : Int)), some (0, 8), some (0, 1), some (0, (2477 + (9 * (s : Int))))] [(0, v43), (2, 121)] _
                      refine v_call (w := 2) [some (2, 121), some (0, v43)] hO (hi_X12_readStep_189 hT) rfl rfl (rx_mustB hT hO v43 c38 ?_)
                      · show vP D T N 304 192 g38 [some (2, 121), some (0, (d : Int)), some (0, 8), some (0, 1), some (0, (2477 + (9 * (s : Int))))] [] _
                        refine v_load (v := (2, 121)) (hi_X12_readStep_192 hT) rfl rfl ?_
                        refine v_getR (c := 126) (r := 121) (hi_X12_readStep_193 hT) rfl rfl rfl ?_
                        refine v_load (v := (0, (2477 + (9 * (s : Int))))) (hi_X12_readStep_196 hT) rfl rfl ?_
                        refine v_push (8) (hi_X12_readStep_198 hT) rfl ?_
                        refine v_bin (w := ((2477 + (9 * (s : Int))) + 8)) (hi_X12_readStep_200 hT) (hq_add (by omega) (by omega)) ?_
                        refine v_load (v := (2, 121)) (hi_X12_readStep_201 hT) rfl rfl ?_
                        refine v_getf (v := (0, ((s : Int) + 1))) (r := 121) (hi_X12_readStep_202 hT) rfl rfl (fun _ => (Eq.trans (ft38 121 25 (by first | decide | exact fun c => by omega)) (Eq.trans (zset_ne (fun c => absurd c.1 (by decide))) ((Eq.trans (ft31 121 25 (by first | decide | exact fun c => by omega)) (Eq.trans (zset_ne (fun c => absurd c.1 (by decide))) ((Eq.trans (ft16 121 25 (by first | decide | exact fun c => by omega)) (zset_same))))))))) ?_
                        refine v_ast (r := 126) (hi_X12_readStep_205 hT) rfl rfl (fun ha44 hb45 hf46 => ?_)
                        refine v_ret0 (hi_X12_readStep_206 hT) ?_
                        exact er _ _ (by simp only [pStep, hE, hsw, hop, h15, opW15, harg, pNm, pWord, pSg, (show ¬ 30 ≤ s from by omega), (show ¬ 3 ≤ d from by omega), q31, hc38, ne_eq, not_true_eq_false, not_false_eq_true, if_true, if_false, eq_self, eb_l, eb_r, and_true, true_and, and_false, false_and]) (rE.z (r := 126) (k := ((((2477 + (9 * (s : Int))) + 8)).toNat)) (v := (0, ((s : Int) + 1))) (by decide) c38) (roF.z (a := 126) (b := ((((2477 + (9 * (s : Int))) + 8)).toNat)) (v := (0, ((s : Int) + 1))) (by omega) (roF.t (roF.z (a := 126) (b := ((((2477 + (9 * (s : Int))) + 1)).toNat)) (v := (0, x30)) (by omega) (roF.t (roF.z (a := 126) (b := (((2477 + (9 * (s : Int)))).toNat)) (v := (0, 8)) (by omega) (roF.t (roF.z (a := 121) (b := 25) (v := (0, ((s : Int) + 1))) (by omega) roF.rfl) ft16)) ft31)) ft38))
          · show vP D T N 301 209 g32 [some (2, 121), some (0, (2477 + (9 * (s : Int)))), some (0, 8)] [(0, 0), (0, ((2477 + (9 * (s : Int))) + 1)), (2, 126)] _
            refine vP_hv (fun hv32 => ?_)
            refine v_ast (r := 126) (hz_X12_readRest hT _ _ rfl) rfl rfl (fun ha47 hb48 hf49 => ?_)
            refine v_ret0 (hi_X12_readRest_210 hT) ?_
            show vP D T N 304 132 (zset g32 126 ((((2477 + (9 * (s : Int))) + 1)).toNat) (0, 0)) [some (2, 121), some (0, (d : Int)), some (0, 8), some (0, 1), some (0, (2477 + (9 * (s : Int))))] [] _
            refine v_load (v := (2, 121)) (hi_X12_readStep_132 hT) rfl rfl ?_
            refine v_load (v := (2, 121)) (hi_X12_readStep_133 hT) rfl rfl ?_
            refine v_push (59) (hi_X12_readStep_134 hT) rfl ?_
            refine v_call (w := 2) [some (2, 121), some (0, 59)] hO (hi_X12_readStep_136 hT) rfl rfl (rb_any_isSign hT hO (fun v50 => ?_))
            · show vP D T N 304 139 (zset g32 126 ((((2477 + (9 * (s : Int))) + 1)).toNat) (0, 0)) [some (2, 121), some (0, (d : Int)), some (0, 8), some (0, 1), some (0, (2477 + (9 * (s : Int))))] [(0, v50), (2, 121)] _
              refine v_call (w := 2) [some (2, 121), some (0, v50)] hO (hi_X12_readStep_139 hT) rfl rfl (rx_mustB hT hO v50 (rE.z (r := 126) (k := ((((2477 + (9 * (s : Int))) + 1)).toNat)) (v := (0, 0)) (by decide) c32) ?_)
              · show vP D T N 304 142 (zset g32 126 ((((2477 + (9 * (s : Int))) + 1)).toNat) (0, 0)) [some (2, 121), some (0, (d : Int)), some (0, 8), some (0, 1), some (0, (2477 + (9 * (s : Int))))] [] _
                refine v_load (v := (0, 1)) (hi_X12_readStep_142 hT) rfl rfl ?_
                refine v_if (hi_X12_readStep_143 hT) (fun hc51 => absurd (show (1 : Int) = 0 from hc51) (by decide)) (fun _ => ?_)
                refine v_load (v := (2, 121)) (hi_X12_readStep_146 hT) rfl rfl ?_
                refine v_getf (v := (0, e32.1)) (r := 121) (hi_X12_readStep_147 hT) rfl rfl (fun _ => Eq.trans (zset_ne (fun c => absurd c.1 (by decide))) (c32.1)) ?_
                refine v_if (hi_X12_readStep_150 hT) (fun hc52 => absurd (show e32.1 = 0 from hc52) (by have := c32.2.1; omega)) (fun _ => ?_)
                refine v_load (v := (0, 1)) (hi_X12_readStep_170 hT) rfl rfl ?_
                refine v_if (hi_X12_readStep_171 hT) (fun hc53 => absurd (show (1 : Int) = 0 from hc53) (by decide)) (fun _ => ?_)
                refine v_load (v := (2, 121)) (hi_X12_readStep_174 hT) rfl rfl ?_
                refine v_load (v := (2, 121)) (hi_X12_readStep_175 hT) rfl rfl ?_
                refine v_call (w := 1) [some (2, 121)] hO (hi_X12_readStep_176 hT) rfl rfl (rb_any_isEnd hT hO (fun v54 => ?_))
                · show vP D T N 304 179 (zset g32 126 ((((2477 + (9 * (s : Int))) + 1)).toNat) (0, 0)) [some (2, 121), some (0, (d : Int)), some (0, 8), some (0, 1), some (0, (2477 + (9 * (s : Int))))] [(0, v54), (2, 121)] _
                  refine v_call (w := 2) [some (2, 121), some (0, v54)] hO (hi_X12_readStep_179 hT) rfl rfl (rx_mustB hT hO v54 (rE.z (r := 126) (k := ((((2477 + (9 * (s : Int))) + 1)).toNat)) (v := (0, 0)) (by decide) c32) ?_)
                  · show vP D T N 304 182 (zset g32 126 ((((2477 + (9 * (s : Int))) + 1)).toNat) (0, 0)) [some (2, 121), some (0, (d : Int)), some (0, 8), some (0, 1), some (0, (2477 + (9 * (s : Int))))] [] _
                    refine v_load (v := (2, 121)) (hi_X12_readStep_182 hT) rfl rfl ?_
                    refine v_load (v := (2, 121)) (hi_X12_readStep_183 hT) rfl rfl ?_
                    refine v_push (59) (hi_X12_readStep_184 hT) rfl ?_
                    refine v_call (w := 2) [some (2, 121), some (0, 59)] hO (hi_X12_readStep_186 hT) rfl rfl (rb_any_isSign hT hO (fun v55 => ?_))
                    · show vP D T N 304 189 (zset g32 126 ((((2477 + (9 * (s : Int))) + 1)).toNat) (0, 0)) [some (2, 121), some (0, (d : Int)), some (0, 8), some (0, 1), some (0, (2477 + (9 * (s : Int))))] [(0, v55), (2, 121)] _
                      refine v_call (w := 2) [some (2, 121), some (0, v55)] hO (hi_X12_readStep_189 hT) rfl rfl (rx_mustB hT hO v55 (rE.z (r := 126) (k := ((((2477 + (9 * (s : Int))) + 1)).toNat)) (v := (0, 0)) (by decide) c32) ?_)
                      · show vP D T N 304 192 (zset g32 126 ((((2477 + (9 * (s : Int))) + 1)).toNat) (0, 0)) [some (2, 121), some (0, (d : Int)), some (0, 8), some (0, 1), some (0, (2477 + (9 * (s : Int))))] [] _
                        refine v_load (v := (2, 121)) (hi_X12_readStep_192 hT) rfl rfl ?_
                        refine v_getR (c := 126) (r := 121) (hi_X12_readStep_193 hT) rfl rfl rfl ?_
                        refine v_load (v := (0, (2477 + (9 * (s : Int))))) (hi_X12_readStep_196 hT) rfl rfl ?_
                        refine v_push (8) (hi_X12_readStep_198 hT) rfl ?_
                        refine v_bin (w := ((2477 + (9 * (s : Int))) + 8)) (hi_X12_readStep_200 hT) (hq_add (by omega) (by omega)) ?_
                        refine v_load (v := (2, 121)) (hi_X12_readStep_201 hT) rfl rfl ?_
                        refine v_getf (v := (0, ((s : Int) + 1))) (r := 121) (hi_X12_readStep_202 hT) rfl rfl (fun _ => Eq.trans (zset_ne (fun c => absurd c.1 (by decide))) ((Eq.trans (ft32 121 25 (by first | decide | exact fun c => by omega)) (Eq.trans (zset_ne (fun c => absurd c.1 (by decide))) ((Eq.trans (ft16 121 25 (by first | decide | exact fun c => by omega)) (zset_same))))))) ?_
                        refine v_ast (r := 126) (hi_X12_readStep_205 hT) rfl rfl (fun ha56 hb57 hf58 => ?_)
                        refine v_ret0 (hi_X12_readStep_206 hT) ?_
                        exact er _ _ (by simp only [pStep, hE, hsw, hop, h15, opW15, harg, pNm, pWord, pSg, (show ¬ 30 ≤ s from by omega), (show ¬ 3 ≤ d from by omega), q32, ne_eq, not_true_eq_false, not_false_eq_true, if_true, if_false, eq_self, eb_l, eb_r, and_true, true_and, and_false, false_and]) (rE.z (r := 126) (k := ((((2477 + (9 * (s : Int))) + 8)).toNat)) (v := (0, ((s : Int) + 1))) (by decide) (rE.z (r := 126) (k := ((((2477 + (9 * (s : Int))) + 1)).toNat)) (v := (0, 0)) (by decide) c32)) (roF.z (a := 126) (b := ((((2477 + (9 * (s : Int))) + 8)).toNat)) (v := (0, ((s : Int) + 1))) (by omega) (roF.z (a := 126) (b := ((((2477 + (9 * (s : Int))) + 1)).toNat)) (v := (0, 0)) (by omega) (roF.t (roF.z (a := 126) (b := (((2477 + (9 * (s : Int)))).toNat)) (v := (0, 8)) (by omega) (roF.t (roF.z (a := 121) (b := 25) (v := (0, ((s : Int) + 1))) (by omega) roF.rfl) ft16)) ft32)))
theorem ro7_21 {D : zD} {T : zT} (hT : hTab T) (hO : vOK T) {N : Nat} {h : zH} {Q : zR → Prop} {B : Nat → Int} {n m i s d : Nat} {τ P : PT} (hv0 : zHv h) (hX : rX B n m τ i h) (e0 : h 126 0 = (0, P 0 0)) (e1 : h 126 1 = (0, P 0 1)) (e2 : h 126 2 = (0, P 0 2)) (e3 : h 126 3 = (0, P 0 3)) (hN : rNm P h) (hb : (0 ≤ P 0 0 ∧ P 0 0 ≤ 8) ∧ (0 ≤ P 0 1 ∧ P 0 1 ≤ 6) ∧ (0 ≤ P 0 2 ∧ P 0 2 ≤ 3) ∧ (0 ≤ P 0 3 ∧ P 0 3 ≤ 6)) (hs : h 121 25 = (0, (s : Int))) (bs : s ≤ 30) (bd : d ≤ 3) (h1 : τ 0 i = 1) (h3 : τ 3 i = 21) (ih : ∀ g s' d' i' a K u v j, pStep τ P s d i = .inr (s', d', i') → rX B n m τ i' g → g 121 25 = (0, a) → a = (s' : Int) → s' ≤ 30 → roF h g → pItV τ P i = .inr (K, u, v, j) → (∀ e, ¬ (2477 + 9 * s ≤ e ∧ e < 2486 + 9 * s) → g 126 e = h 126 e) → rI7 (P 0 0) g s K u v → g 126 (2485 + 9 * s) = (0, (s : Int) + 1) → Q (g, none)) (er : ∀ g e, pStep τ P s d i = .inl e → rE e g → roF h g → Q (g, none)) :
    vP D T (N + 1) 304 0 h [some (2, 121), some (0, (d : Int)), none, none, none] [] Q := by
  have h0 : τ 0 i ≠ 0 := by omega
  have hE : (bW τ 20 i) = 0 := bW_0.mpr (fun c => absurd (h3.symm.trans c.2) (by decide))
  have hsw : ¬ swd τ i < 0 := by rw [swd_v h1, h3]; decide
  have hop : opW (τ 3 i) = false := by rw [h3]; rfl
  have h15 : ¬ τ 3 i = 15 := by rw [h3]; decide
  have harg : ∀ j, oArg τ P (τ 3 i) j = (.inr j) := fun j => by rw [h3]; rfl
  have hargV : ∀ j, oArV τ P 21 j = (.inr (0, 0, j)) := fun _ => rfl
  refine v_loadS (v := (2, 121)) (hi_X12_readStep_0 hT) rfl rfl ?_
  refine v_call (w := 1) [some (2, 121)] hO (hi_X12_readStep_1 hT) rfl rfl (rx_stepK hT hO 9 hX h1 h3 (by decide) ?_)
  · show vP D T N 304 4 h [some (2, 121), some (0, (d : Int)), none, none, none] [(0, 9)] _
    refine v_store1 [some (2, 121), some (0, (d : Int)), some (0, 9), none, none] (hi_X12_readStep_4 hT) ⟨rfl, Nat.ne_of_beq_eq_false rfl⟩ (Nat.le_of_ble_eq_true rfl) rfl ?_
    refine v_load (v := (0, 9)) (hi_X12_readStep_5 hT) rfl rfl ?_
    refine v_push (7) (hi_X12_readStep_6 hT) rfl ?_
    refine v_ic (hi_X12_readStep_8 hT) (fun hc1 => absurd (show (9 : Int) = 7 from hc1) (by decide)) (fun _ => ?_)
    refine v_load (v := (0, 9)) (hi_X12_readStep_11 hT) rfl rfl ?_
    refine v_push (8) (hi_X12_readStep_12 hT) rfl ?_
    refine v_ic (hi_X12_readStep_14 hT) (fun hc2 => absurd (show (9 : Int) = 8 from hc2) (by decide)) (fun _ => ?_)
    refine v_push (0) (hi_X12_readStep_21 hT) rfl ?_
    refine v_store1 [some (2, 121), some (0, (d : Int)), some (0, 9), some (0, 0), none] (hi_X12_readStep_22 hT) ⟨rfl, Nat.ne_of_beq_eq_false rfl⟩ (Nat.le_of_ble_eq_true rfl) rfl ?_
    refine v_load (v := (0, 9)) (hi_X12_readStep_23 hT) rfl rfl ?_
    refine v_if (hi_X12_readStep_24 hT) (fun hc3 => absurd (show (9 : Int) < 0 from hc3) (by decide)) (fun _ => ?_)
    refine v_load (v := (2, 121)) (hi_X12_readStep_31 hT) rfl rfl ?_
    refine v_getf (v := (0, 0)) (r := 121) (hi_X12_readStep_32 hT) rfl rfl (fun _ => hX.b) ?_
    refine v_if (hi_X12_readStep_35 hT) (fun _ => ?_) (fun hc4 => absurd (show (0 : Int) = 0 from (by decide)) hc4)
    refine v_load (v := (2, 121)) (hi_X12_readStep_38 hT) rfl rfl ?_
    refine v_getf (v := (0, (s : Int))) (r := 121) (hi_X12_readStep_39 hT) rfl rfl (fun _ => hs) ?_
    refine v_push (30) (hi_X12_readStep_42 hT) rfl ?_
    refine v_ic (hi_X12_readStep_44 hT) (fun hc5 => ?_) (fun hc5 => ?_)
    · have hc5 : (s : Int) = 30 := hc5
      refine v_load (v := (2, 121)) (hi_X12_readStep_47 hT) rfl rfl ?_
      refine v_push (6) (hi_X12_readStep_48 hT) rfl ?_
      refine v_load (v := (2, 121)) (hi_X12_readStep_50 hT) rfl rfl ?_
      refine v_getf (v := (0, (τ 1 i))) (r := 121) (hi_X12_readStep_51 hT) rfl rfl (fun _ => hX.ps) ?_
      refine v_call (w := 3) [some (2, 121), some (0, 6), some (0, (τ 1 i))] hO (hi_X12_readStep_54 hT) rfl rfl (rx_fail hT hO 6 hX h1 (by decide) (fun g6 ft6 c6 => ?_))
      · show vP D T N 304 57 g6 [some (2, 121), some (0, (d : Int)), some (0, 9), some (0, 0), none] [] _
        refine vP_hv (fun hv6 => ?_)
        refine v_load (v := (2, 121)) (hi_X12_readStep_57 hT) rfl rfl ?_
        refine v_getf (v := (0, (eF τ i 6).1)) (r := 121) (hi_X12_readStep_58 hT) rfl rfl (fun _ => c6.1) ?_
        refine v_if (hi_X12_readStep_61 hT) (fun hc7 => absurd (show (eF τ i 6).1 = 0 from hc7) (by have := c6.2.1; omega)) (fun _ => ?_)
        refine v_load (v := (2, 121)) (hi_X12_readStep_83 hT) rfl rfl ?_
        refine v_getf (v := (0, (eF τ i 6).1)) (r := 121) (hi_X12_readStep_84 hT) rfl rfl (fun _ => c6.1) ?_
        refine v_if (hi_X12_readStep_87 hT) (fun _ => ?_) (fun hc8 => absurd (show 0 < (eF τ i 6).1 from c6.2.1) hc8)
        refine v_ret0 (hi_X12_readStep_90 hT) ?_
        exact er _ _ (by simp only [pStep, hE, hsw, hop, h15, opW15, harg, pNm, pWord, pSg, Bool.false_eq_true, (show 30 ≤ s from by omega), ne_eq, not_true_eq_false, not_false_eq_true, if_true, if_false, eq_self, eb_l, eb_r, and_true, true_and, and_false, false_and]) c6 (roF.t roF.rfl ft6)
    · have hc5 : (s : Int) ≠ 30 := hc5
      refine v_load (v := (2, 121)) (hi_X12_readStep_57 hT) rfl rfl ?_
      refine v_getf (v := (0, 0)) (r := 121) (hi_X12_readStep_58 hT) rfl rfl (fun _ => hX.b) ?_
      refine v_if (hi_X12_readStep_61 hT) (fun _ => ?_) (fun hc9 => absurd (show (0 : Int) = 0 from (by decide)) hc9)
      refine v_load (v := (0, 0)) (hi_X12_readStep_64 hT) rfl rfl ?_
      refine v_if (hi_X12_readStep_65 hT) (fun _ => ?_) (fun hc10 => absurd (show (0 : Int) = 0 from (by decide)) hc10)
      refine v_load (v := (2, 121)) (hi_X12_readStep_83 hT) rfl rfl ?_
      refine v_getf (v := (0, 0)) (r := 121) (hi_X12_readStep_84 hT) rfl rfl (fun _ => hX.b) ?_
      refine v_if (hi_X12_readStep_87 hT) (fun hc11 => absurd (show 0 < (0 : Int) from hc11) (by decide)) (fun _ => ?_)
      refine v_push (2477) (hi_X12_readStep_91 hT) rfl ?_
      refine v_push (9) (hi_X12_readStep_94 hT) rfl ?_
      refine v_load (v := (2, 121)) (hi_X12_readStep_96 hT) rfl rfl ?_
      refine v_getf (v := (0, (s : Int))) (r := 121) (hi_X12_readStep_97 hT) rfl rfl (fun _ => hs) ?_
      refine v_bin (w := (9 * (s : Int))) (hi_X12_readStep_100 hT) (hq_mul (by omega) (by omega)) ?_
      refine v_bin (w := (2477 + (9 * (s : Int)))) (hi_X12_readStep_101 hT) (hq_add (by omega) (by omega)) ?_
      refine v_store1 [some (2, 121), some (0, (d : Int)), some (0, 9), some (0, 0), some (0, (2477 + (9 * (s : Int))))] (hi_X12_readStep_102 hT) ⟨rfl, Nat.ne_of_beq_eq_false rfl⟩ (Nat.le_of_ble_eq_true rfl) rfl ?_
      refine v_load (v := (2, 121)) (hi_X12_readStep_104 hT) rfl rfl ?_
      refine v_dup (hi_X12_readStep_105 hT) (Nat.ne_of_beq_eq_false rfl) ?_
      refine v_getf (v := (0, (s : Int))) (r := 121) (hi_X12_readStep_106 hT) rfl rfl (fun _ => hs) ?_
      refine v_push (1) (hi_X12_readStep_109 hT) rfl ?_
      refine v_bin (w := ((s : Int) + 1)) (hi_X12_readStep_110 hT) (hq_add (by omega) (by omega)) ?_
      refine v_putf (r := 121) hO (hi_X12_readStep_111 hT) rfl (fun hf12 => ?_)
      refine v_load (v := (2, 121)) (hi_X12_readStep_114 hT) rfl rfl ?_
      refine v_call (w := 2) [some (2, 121), none] hO (hi_X12_readStep_115 hT) rfl rfl (rx_next hT hO (rX.zf (k := 25) (v := (0, ((s : Int) + 1))) (by decide) hX) (ne_10 h1) (ne_14 h1) (fun g13 ft13 hX13 => ?_))
      · show vP D T N 304 118 g13 [some (2, 121), some (0, (d : Int)), some (0, 9), some (0, 0), some (0, (2477 + (9 * (s : Int))))] [] _
        refine vP_hv (fun hv13 => ?_)
        refine v_load (v := (2, 121)) (hi_X12_readStep_118 hT) rfl rfl ?_
        refine v_getR (c := 126) (r := 121) (hi_X12_readStep_119 hT) rfl rfl rfl ?_
        refine v_load (v := (0, (2477 + (9 * (s : Int))))) (hi_X12_readStep_122 hT) rfl rfl ?_
        refine v_load (v := (0, 9)) (hi_X12_readStep_124 hT) rfl rfl ?_
        refine v_ast (r := 126) (hi_X12_readStep_125 hT) rfl rfl (fun ha14 hb15 hf16 => ?_)
        refine v_load (v := (2, 121)) (hi_X12_readStep_126 hT) rfl rfl ?_
        refine v_load (v := (0, (2477 + (9 * (s : Int))))) (hi_X12_readStep_127 hT) rfl rfl ?_
        refine v_call (w := 3) [some (2, 121), some (0, (2477 + (9 * (s : Int)))), none] hO (hi_X12_readStep_129 hT) rfl rfl ?_
        refine v_load (v := (2, 121)) (hi_X12_readRest_0 hT) rfl rfl ?_
        refine v_getR (c := 126) (r := 121) (hi_X12_readRest_1 hT) rfl rfl rfl ?_
        refine v_load (v := (0, (2477 + (9 * (s : Int))))) (hi_X12_readRest_4 hT) rfl rfl ?_
        refine v_aldV (v := (0, 9)) (r := 126) (hi_X12_readRest_5 hT) rfl rfl (fun _ _ _ => zset_same) (fun ha17 hb18 => ?_)
        refine v_store1 [some (2, 121), some (0, (2477 + (9 * (s : Int)))), some (0, 9)] (hi_X12_readRest_6 hT) ⟨rfl, Nat.ne_of_beq_eq_false rfl⟩ (Nat.le_of_ble_eq_true rfl) rfl ?_
        refine v_load (v := (0, 9)) (hi_X12_readRest_7 hT) rfl rfl ?_
        refine v_if (hi_X12_readRest_8 hT) (fun hc19 => absurd (show (9 : Int) = 0 from hc19) (by decide)) (fun _ => ?_)
        refine v_load (v := (0, 9)) (hi_X12_readRest_11 hT) rfl rfl ?_
        refine v_push (2) (hi_X12_readRest_12 hT) rfl ?_
        refine v_ic (hi_X12_readRest_13 hT) (fun hc20 => absurd (show (9 : Int) = 2 from hc20) (by decide)) (fun _ => ?_)
        refine v_load (v := (0, 9)) (hi_X12_readRest_52 hT) rfl rfl ?_
        refine v_push (1) (hi_X12_readRest_53 hT) rfl ?_
        refine v_ic (hi_X12_readRest_54 hT) (fun hc21 => absurd (show (9 : Int) = 1 from hc21) (by decide)) (fun _ => ?_)
        refine v_load (v := (0, 9)) (hi_X12_readRest_72 hT) rfl rfl ?_
        refine v_push (3) (hi_X12_readRest_73 hT) rfl ?_
        refine v_ic (hi_X12_readRest_74 hT) (fun hc22 => absurd (show (9 : Int) = 3 from hc22) (by decide)) (fun _ => ?_)
        refine v_load (v := (0, 9)) (hi_X12_readRest_112 hT) rfl rfl ?_
        refine v_push (4) (hi_X12_readRest_113 hT) rfl ?_
        refine v_ic (hi_X12_readRest_114 hT) (fun hc23 => absurd (show (9 : Int) = 4 from hc23) (by decide)) (fun _ => ?_)
        refine v_load (v := (0, 9)) (hi_X12_readRest_155 hT) rfl rfl ?_
        refine v_push (5) (hi_X12_readRest_156 hT) rfl ?_
        refine v_ic (hi_X12_readRest_157 hT) (fun hc24 => absurd (show (9 : Int) = 5 from hc24) (by decide)) (fun _ => ?_)
        refine v_load (v := (0, 9)) (hi_X12_readRest_175 hT) rfl rfl ?_
        refine v_push (7) (hi_X12_readRest_176 hT) rfl ?_
        refine v_ic (hi_X12_readRest_178 hT) (fun hc25 => absurd (show (9 : Int) = 7 from hc25) (by decide)) (fun _ => ?_)
        refine v_load (v := (0, 9)) (hz_X12_readRest hT _ _ rfl) rfl rfl ?_
        refine v_push (8) (hz_X12_readRest hT _ _ rfl) rfl ?_
        refine v_ic (hz_X12_readRest hT _ _ rfl) (fun hc26 => absurd (show (9 : Int) = 8 from hc26) (by decide)) (fun _ => ?_)
        refine v_ret0 (hi_X12_readRest_210 hT) ?_
        show vP D T N 304 132 (zset g13 126 (((2477 + (9 * (s : Int)))).toNat) (0, 9)) [some (2, 121), some (0, (d : Int)), some (0, 9), some (0, 0), some (0, (2477 + (9 * (s : Int))))] [] _
        refine v_load (v := (2, 121)) (hi_X12_readStep_132 hT) rfl rfl ?_
        refine v_load (v := (2, 121)) (hi_X12_readStep_133 hT) rfl rfl ?_
        refine v_push (59) (hi_X12_readStep_134 hT) rfl ?_
        refine v_call (w := 2) [some (2, 121), some (0, 59)] hO (hi_X12_readStep_136 hT) rfl rfl (rx_isSign hT hO 59 (rX.z (r := 126) (k := (((2477 + (9 * (s : Int)))).toNat)) (v := (0, 9)) (by decide) hX13) ?_)
        · show vP D T N 304 139 (zset g13 126 (((2477 + (9 * (s : Int)))).toNat) (0, 9)) [some (2, 121), some (0, (d : Int)), some (0, 9), some (0, 0), some (0, (2477 + (9 * (s : Int))))] [(0, (bG τ 59 (i + 1))), (2, 121)] _
          refine v_call (w := 2) [some (2, 121), some (0, (bG τ 59 (i + 1)))] hO (hi_X12_readStep_139 hT) rfl rfl (rx_must hT hO ((bG τ 59 (i + 1))) (rX.z (r := 126) (k := (((2477 + (9 * (s : Int)))).toNat)) (v := (0, 9)) (by decide) hX13) (fun c => ⟨by have := (bG_y.mp c).1; omega, by have := (bG_y.mp c).1; omega⟩) (fun g28 ft28 hc27 hX28 => ?_) (fun g29 ft29 hc29 c29 => ?_))
          · show vP D T N 304 142 g28 [some (2, 121), some (0, (d : Int)), some (0, 9), some (0, 0), some (0, (2477 + (9 * (s : Int))))] [] _
            refine vP_hv (fun hv28 => ?_)
            refine v_load (v := (0, 0)) (hi_X12_readStep_142 hT) rfl rfl ?_
            refine v_if (hi_X12_readStep_143 hT) (fun _ => ?_) (fun hc30 => absurd (show (0 : Int) = 0 from (by decide)) hc30)
            refine v_load (v := (0, 0)) (hi_X12_readStep_170 hT) rfl rfl ?_
            refine v_if (hi_X12_readStep_171 hT) (fun _ => ?_) (fun hc31 => absurd (show (0 : Int) = 0 from (by decide)) hc31)
            refine v_load (v := (2, 121)) (hi_X12_readStep_192 hT) rfl rfl ?_
            refine v_getR (c := 126) (r := 121) (hi_X12_readStep_193 hT) rfl rfl rfl ?_
            refine v_load (v := (0, (2477 + (9 * (s : Int))))) (hi_X12_readStep_196 hT) rfl rfl ?_
            refine v_push (8) (hi_X12_readStep_198 hT) rfl ?_
            refine v_bin (w := ((2477 + (9 * (s : Int))) + 8)) (hi_X12_readStep_200 hT) (hq_add (by omega) (by omega)) ?_
            refine v_load (v := (2, 121)) (hi_X12_readStep_201 hT) rfl rfl ?_
            refine v_getf (v := (0, ((s : Int) + 1))) (r := 121) (hi_X12_readStep_202 hT) rfl rfl (fun _ => (Eq.trans (ft28 121 25 (by first | decide | exact fun c => by omega)) (Eq.trans (zset_ne (fun c => absurd c.1 (by decide))) ((Eq.trans (ft13 121 25 (by first | decide | exact fun c => by omega)) (zset_same)))))) ?_
            refine v_ast (r := 126) (hi_X12_readStep_205 hT) rfl rfl (fun ha32 hb33 hf34 => ?_)
            refine v_ret0 (hi_X12_readStep_206 hT) ?_
            have kp_ : ∀ e, (zset g28 126 ((((2477 + (9 * (s : Int))) + 8)).toNat) (0, ((s : Int) + 1))) 126 e = (zset (zset h 126 (((2477 + (9 * (s : Int)))).toNat) (0, 9)) 126 ((((2477 + (9 * (s : Int))) + 8)).toNat) (0, ((s : Int) + 1))) 126 e := (kr_z (k := ((((2477 + (9 * (s : Int))) + 8)).toNat)) (v := (0, ((s : Int) + 1))) (kr_f (fun e => ft28 126 e (fun c => by omega)) (kr_z (k := (((2477 + (9 * (s : Int)))).toNat)) (v := (0, 9)) (kr_f (fun e => ft13 126 e (fun c => by omega)) (kr_n (a := 121) (k := 25) (v := (0, ((s : Int) + 1))) (by decide) (fun _ => Eq.refl _))))))
            exact ih _ (s + 1) (d) (i + 1 + 1) _ 21 0 0 (i + 1) (by simp only [pStep, hE, hsw, hop, h15, opW15, harg, pNm, pWord, pSg, Bool.false_eq_true, (show ¬ 30 ≤ s from by omega), hc27, ne_eq, not_true_eq_false, not_false_eq_true, if_true, if_false, eq_self, eb_l, eb_r, and_true, true_and, and_false, false_and]) (rX.z (r := 126) (k := ((((2477 + (9 * (s : Int))) + 8)).toNat)) (v := (0, ((s : Int) + 1))) (by decide) hX28) (Eq.trans (zset_ne (fun c => absurd c.1 (by decide))) ((Eq.trans (ft28 121 25 (by first | decide | exact fun c => by omega)) (Eq.trans (zset_ne (fun c => absurd c.1 (by decide))) ((Eq.trans (ft13 121 25 (by first | decide | exact fun c => by omega)) (zset_same))))))) (by omega) (by omega) (roF.z (a := 126) (b := ((((2477 + (9 * (s : Int))) + 8)).toNat)) (v := (0, ((s : Int) + 1))) (by omega) (roF.t (roF.z (a := 126) (b := (((2477 + (9 * (s : Int)))).toNat)) (v := (0, 9)) (by omega) (roF.t (roF.z (a := 121) (b := 25) (v := (0, ((s : Int) + 1))) (by omega) roF.rfl) ft13)) ft28)) (pItV_a h3 (by decide) (by simp only [hargV, pWord, (show ¬ 30 ≤ s from by omega), hc27, ne_eq, not_true_eq_false, not_false_eq_true, if_true, if_false, eq_self, eb_l, eb_r, and_true, true_and, and_false, false_and])) (fun e_ hn_ => (kp_ e_).trans ((zset_ne (fun c => hn_ (by omega))).trans (zset_ne (fun c => hn_ (by omega))))) ⟨((kp_ _).trans ((zset_ne (fun c => by omega)).trans (zset_e (by omega)))), (fun c => by omega), (fun c => absurd c (by decide)), (fun c => absurd c (by decide)), (fun c => absurd c (by decide)), (fun c => absurd c (by decide))⟩ ((kp_ _).trans (zset_e (by omega)))
          · show vP D T N 304 142 g29 [some (2, 121), some (0, (d : Int)), some (0, 9), some (0, 0), some (0, (2477 + (9 * (s : Int))))] [] _
            refine vP_hv (fun hv29 => ?_)
            refine v_load (v := (0, 0)) (hi_X12_readStep_142 hT) rfl rfl ?_
            refine v_if (hi_X12_readStep_143 hT) (fun _ => ?_) (fun hc35 => absurd (show (0 : Int) = 0 from (by decide)) hc35)
            refine v_load (v := (0, 0)) (hi_X12_readStep_170 hT) rfl rfl ?_
            refine v_if (hi_X12_readStep_171 hT) (fun _ => ?_) (fun hc36 => absurd (show (0 : Int) = 0 from (by decide)) hc36)
            refine v_load (v := (2, 121)) (hi_X12_readStep_192 hT) rfl rfl ?_
            refine v_getR (c := 126) (r := 121) (hi_X12_readStep_193 hT) rfl rfl rfl ?_
            refine v_load (v := (0, (2477 + (9 * (s : Int))))) (hi_X12_readStep_196 hT) rfl rfl ?_
            refine v_push (8) (hi_X12_readStep_198 hT) rfl ?_
            refine v_bin (w := ((2477 + (9 * (s : Int))) + 8)) (hi_X12_readStep_200 hT) (hq_add (by omega) (by omega)) ?_
            refine v_load (v := (2, 121)) (hi_X12_readStep_201 hT) rfl rfl ?_
            refine v_getf (v := (0, ((s : Int) + 1))) (r := 121) (hi_X12_readStep_202 hT) rfl rfl (fun _ => (Eq.trans (ft29 121 25 (by first | decide | exact fun c => by omega)) (Eq.trans (zset_ne (fun c => absurd c.1 (by decide))) ((Eq.trans (ft13 121 25 (by first | decide | exact fun c => by omega)) (zset_same)))))) ?_
            refine v_ast (r := 126) (hi_X12_readStep_205 hT) rfl rfl (fun ha37 hb38 hf39 => ?_)
            refine v_ret0 (hi_X12_readStep_206 hT) ?_
            exact er _ _ (by simp only [pStep, hE, hsw, hop, h15, opW15, harg, pNm, pWord, pSg, Bool.false_eq_true, (show ¬ 30 ≤ s from by omega), hc29, ne_eq, not_true_eq_false, not_false_eq_true, if_true, if_false, eq_self, eb_l, eb_r, and_true, true_and, and_false, false_and]) (rE.z (r := 126) (k := ((((2477 + (9 * (s : Int))) + 8)).toNat)) (v := (0, ((s : Int) + 1))) (by decide) c29) (roF.z (a := 126) (b := ((((2477 + (9 * (s : Int))) + 8)).toNat)) (v := (0, ((s : Int) + 1))) (by omega) (roF.t (roF.z (a := 126) (b := (((2477 + (9 * (s : Int)))).toNat)) (v := (0, 9)) (by omega) (roF.t (roF.z (a := 121) (b := 25) (v := (0, ((s : Int) + 1))) (by omega) roF.rfl) ft13)) ft29))
theorem ro7_15_16 {D : zD} {T : zT} (hT : hTab T) (hO : vOK T) {N : Nat} {h : zH} {Q : zR → Prop} {B : Nat → Int} {n m i s d : Nat} {τ P : PT} (hv0 : zHv h) (hX : rX B n m τ i h) (e0 : h 126 0 = (0, P 0 0)) (e1 : h 126 1 = (0, P 0 1)) (e2 : h 126 2 = (0, P 0 2)) (e3 : h 126 3 = (0, P 0 3)) (hN : rNm P h) (hb : (0 ≤ P 0 0 ∧ P 0 0 ≤ 8) ∧ (0 ≤ P 0 1 ∧ P 0 1 ≤ 6) ∧ (0 ≤ P 0 2 ∧ P 0 2 ≤ 3) ∧ (0 ≤ P 0 3 ∧ P 0 3 ≤ 6)) (hs : h 121 25 = (0, (s : Int))) (bs : s ≤ 30) (bd : d ≤ 3) (h1 : τ 0 i = 1) (h3 : τ 3 i = 15) (h1b : τ 0 (i + 1) = 1) (h3b : τ 3 (i + 1) = 16) (ih : ∀ g s' d' i' a K u v j, pStep τ P s d i = .inr (s', d', i') → rX B n m τ i' g → g 121 25 = (0, a) → a = (s' : Int) → s' ≤ 30 → roF h g → pItV τ P i = .inr (K, u, v, j) → (∀ e, ¬ (2477 + 9 * s ≤ e ∧ e < 2486 + 9 * s) → g 126 e = h 126 e) → rI7 (P 0 0) g s K u v → vP D T N 304 142 g [some (2, 121), some (0, (d : Int)), some (0, 7), some (0, 1), some (0, 2477 + 9 * (s : Int))] [] Q) (er : ∀ g e, pStep τ P s d i = .inl e → rE e g → roF h g → Q (g, none)) :
    vP D T (N + 1) 304 0 h [some (2, 121), some (0, (d : Int)), none, none, none] [] Q := by
  have h0 : τ 0 i ≠ 0 := by omega
  have hE : (bW τ 20 i) = 0 := bW_0.mpr (fun c => absurd (h3.symm.trans c.2) (by decide))
  have hsw : ¬ swd τ i < 0 := by rw [swd_v h1, h3]; decide
  have htw : ¬ twd τ (i + 1) < 0 := by rw [twd_v h1b, h3b]; decide
  have hop : opW (τ 3 i) = true := by rw [h3]; rfl
  have h15 : τ 3 i = 15 := h3
  have harg : ∀ j, oArg τ P (τ 3 (i + 1)) j = (eb (pNum τ 0 (P 0 2 - 1) j) fun a => eb (pWord τ 6 a.2) fun j => eb (pCell τ (P 0 0) (P 0 1) j) fun c => .inr c.2.2) := fun j => by rw [h3b]; rfl
  have hargV : ∀ j, oArV τ P 16 j = (eb (pNum τ 0 (P 0 2 - 1) j) fun a => eb (pWord τ 6 a.2) fun j => eb (pCell τ (P 0 0) (P 0 1) j) fun c => .inr (a.1, c.2.1 * 8 + c.1, c.2.2)) := fun _ => rfl
  refine v_loadS (v := (2, 121)) (hi_X12_readStep_0 hT) rfl rfl ?_
  refine v_call (w := 1) [some (2, 121)] hO (hi_X12_readStep_1 hT) rfl rfl (rx_stepK hT hO 7 hX h1 h3 (by decide) ?_)
  · show vP D T N 304 4 h [some (2, 121), some (0, (d : Int)), none, none, none] [(0, 7)] _
    refine v_store1 [some (2, 121), some (0, (d : Int)), some (0, 7), none, none] (hi_X12_readStep_4 hT) ⟨rfl, Nat.ne_of_beq_eq_false rfl⟩ (Nat.le_of_ble_eq_true rfl) rfl ?_
    refine v_load (v := (0, 7)) (hi_X12_readStep_5 hT) rfl rfl ?_
    refine v_push (7) (hi_X12_readStep_6 hT) rfl ?_
    refine v_ic (hi_X12_readStep_8 hT) (fun _ => ?_) (fun hc1 => absurd (show (7 : Int) = 7 from (by decide)) hc1)
    refine v_push (1) (hi_X12_readStep_17 hT) rfl ?_
    refine v_goto (hi_X12_readStep_18 hT) ?_
    refine v_store1 [some (2, 121), some (0, (d : Int)), some (0, 7), some (0, 1), none] (hi_X12_readStep_22 hT) ⟨rfl, Nat.ne_of_beq_eq_false rfl⟩ (Nat.le_of_ble_eq_true rfl) rfl ?_
    refine v_load (v := (0, 7)) (hi_X12_readStep_23 hT) rfl rfl ?_
    refine v_if (hi_X12_readStep_24 hT) (fun hc2 => absurd (show (7 : Int) < 0 from hc2) (by decide)) (fun _ => ?_)
    refine v_load (v := (2, 121)) (hi_X12_readStep_31 hT) rfl rfl ?_
    refine v_getf (v := (0, 0)) (r := 121) (hi_X12_readStep_32 hT) rfl rfl (fun _ => hX.b) ?_
    refine v_if (hi_X12_readStep_35 hT) (fun _ => ?_) (fun hc3 => absurd (show (0 : Int) = 0 from (by decide)) hc3)
    refine v_load (v := (2, 121)) (hi_X12_readStep_38 hT) rfl rfl ?_
    refine v_getf (v := (0, (s : Int))) (r := 121) (hi_X12_readStep_39 hT) rfl rfl (fun _ => hs) ?_
    refine v_push (30) (hi_X12_readStep_42 hT) rfl ?_
    refine v_ic (hi_X12_readStep_44 hT) (fun hc4 => ?_) (fun hc4 => ?_)
    · have hc4 : (s : Int) = 30 := hc4
      refine v_load (v := (2, 121)) (hi_X12_readStep_47 hT) rfl rfl ?_
      refine v_push (6) (hi_X12_readStep_48 hT) rfl ?_
      refine v_load (v := (2, 121)) (hi_X12_readStep_50 hT) rfl rfl ?_
      refine v_getf (v := (0, (τ 1 i))) (r := 121) (hi_X12_readStep_51 hT) rfl rfl (fun _ => hX.ps) ?_
      refine v_call (w := 3) [some (2, 121), some (0, 6), some (0, (τ 1 i))] hO (hi_X12_readStep_54 hT) rfl rfl (rx_fail hT hO 6 hX h1 (by decide) (fun g5 ft5 c5 => ?_))
      · show vP D T N 304 57 g5 [some (2, 121), some (0, (d : Int)), some (0, 7), some (0, 1), none] [] _
        refine vP_hv (fun hv5 => ?_)
        refine v_load (v := (2, 121)) (hi_X12_readStep_57 hT) rfl rfl ?_
        refine v_getf (v := (0, (eF τ i 6).1)) (r := 121) (hi_X12_readStep_58 hT) rfl rfl (fun _ => c5.1) ?_
        refine v_if (hi_X12_readStep_61 hT) (fun hc6 => absurd (show (eF τ i 6).1 = 0 from hc6) (by have := c5.2.1; omega)) (fun _ => ?_)
        refine v_load (v := (2, 121)) (hi_X12_readStep_83 hT) rfl rfl ?_
        refine v_getf (v := (0, (eF τ i 6).1)) (r := 121) (hi_X12_readStep_84 hT) rfl rfl (fun _ => c5.1) ?_
        refine v_if (hi_X12_readStep_87 hT) (fun _ => ?_) (fun hc7 => absurd (show 0 < (eF τ i 6).1 from c5.2.1) hc7)
        refine v_ret0 (hi_X12_readStep_90 hT) ?_
        exact er _ _ (by simp only [pStep, hE, hsw, htw, hop, h15, opW15, harg, pNm, pWord, pSg, (show 30 ≤ s from by omega), ne_eq, not_true_eq_false, not_false_eq_true, if_true, if_false, eq_self, eb_l, eb_r, and_true, true_and, and_false, false_and]) c5 (roF.t roF.rfl ft5)
    · have hc4 : (s : Int) ≠ 30 := hc4
      refine v_load (v := (2, 121)) (hi_X12_readStep_57 hT) rfl rfl ?_
      refine v_getf (v := (0, 0)) (r := 121) (hi_X12_readStep_58 hT) rfl rfl (fun _ => hX.b) ?_
      refine v_if (hi_X12_readStep_61 hT) (fun _ => ?_) (fun hc8 => absurd (show (0 : Int) = 0 from (by decide)) hc8)
      refine v_load (v := (0, 1)) (hi_X12_readStep_64 hT) rfl rfl ?_
      refine v_if (hi_X12_readStep_65 hT) (fun hc9 => absurd (show (1 : Int) = 0 from hc9) (by decide)) (fun _ => ?_)
      refine v_load (v := (0, (d : Int))) (hi_X12_readStep_68 hT) rfl rfl ?_
      refine v_push (3) (hi_X12_readStep_69 hT) rfl ?_
      refine v_ic (hi_X12_readStep_70 hT) (fun hc10 => ?_) (fun hc10 => ?_)
      · have hc10 : (d : Int) = 3 := hc10
        refine v_load (v := (2, 121)) (hi_X12_readStep_73 hT) rfl rfl ?_
        refine v_push (7) (hi_X12_readStep_74 hT) rfl ?_
        refine v_load (v := (2, 121)) (hi_X12_readStep_76 hT) rfl rfl ?_
        refine v_getf (v := (0, (τ 1 i))) (r := 121) (hi_X12_readStep_77 hT) rfl rfl (fun _ => hX.ps) ?_
        refine v_call (w := 3) [some (2, 121), some (0, 7), some (0, (τ 1 i))] hO (hi_X12_readStep_80 hT) rfl rfl (rx_fail hT hO 7 hX h1 (by decide) (fun g11 ft11 c11 => ?_))
        · show vP D T N 304 83 g11 [some (2, 121), some (0, (d : Int)), some (0, 7), some (0, 1), none] [] _
          refine vP_hv (fun hv11 => ?_)
          refine v_load (v := (2, 121)) (hi_X12_readStep_83 hT) rfl rfl ?_
          refine v_getf (v := (0, (eF τ i 7).1)) (r := 121) (hi_X12_readStep_84 hT) rfl rfl (fun _ => c11.1) ?_
          refine v_if (hi_X12_readStep_87 hT) (fun _ => ?_) (fun hc12 => absurd (show 0 < (eF τ i 7).1 from c11.2.1) hc12)
          refine v_ret0 (hi_X12_readStep_90 hT) ?_
          exact er _ _ (by simp only [pStep, hE, hsw, htw, hop, h15, opW15, harg, pNm, pWord, pSg, (show ¬ 30 ≤ s from by omega), (show 3 ≤ d from by omega), ne_eq, not_true_eq_false, not_false_eq_true, if_true, if_false, eq_self, eb_l, eb_r, and_true, true_and, and_false, false_and]) c11 (roF.t roF.rfl ft11)
      · have hc10 : (d : Int) ≠ 3 := hc10
        refine v_load (v := (2, 121)) (hi_X12_readStep_83 hT) rfl rfl ?_
        refine v_getf (v := (0, 0)) (r := 121) (hi_X12_readStep_84 hT) rfl rfl (fun _ => hX.b) ?_
        refine v_if (hi_X12_readStep_87 hT) (fun hc13 => absurd (show 0 < (0 : Int) from hc13) (by decide)) (fun _ => ?_)
        refine v_push (2477) (hi_X12_readStep_91 hT) rfl ?_
        refine v_push (9) (hi_X12_readStep_94 hT) rfl ?_
        refine v_load (v := (2, 121)) (hi_X12_readStep_96 hT) rfl rfl ?_
        refine v_getf (v := (0, (s : Int))) (r := 121) (hi_X12_readStep_97 hT) rfl rfl (fun _ => hs) ?_
        refine v_bin (w := (9 * (s : Int))) (hi_X12_readStep_100 hT) (hq_mul (by omega) (by omega)) ?_
        refine v_bin (w := (2477 + (9 * (s : Int)))) (hi_X12_readStep_101 hT) (hq_add (by omega) (by omega)) ?_
        refine v_store1 [some (2, 121), some (0, (d : Int)), some (0, 7), some (0, 1), some (0, (2477 + (9 * (s : Int))))] (hi_X12_readStep_102 hT) ⟨rfl, Nat.ne_of_beq_eq_false rfl⟩ (Nat.le_of_ble_eq_true rfl) rfl ?_
        refine v_load (v := (2, 121)) (hi_X12_readStep_104 hT) rfl rfl ?_
        refine v_dup (hi_X12_readStep_105 hT) (Nat.ne_of_beq_eq_false rfl) ?_
        refine v_getf (v := (0, (s : Int))) (r := 121) (hi_X12_readStep_106 hT) rfl rfl (fun _ => hs) ?_
        refine v_push (1) (hi_X12_readStep_109 hT) rfl ?_
        refine v_bin (w := ((s : Int) + 1)) (hi_X12_readStep_110 hT) (hq_add (by omega) (by omega)) ?_
        refine v_putf (r := 121) hO (hi_X12_readStep_111 hT) rfl (fun hf14 => ?_)
        refine v_load (v := (2, 121)) (hi_X12_readStep_114 hT) rfl rfl ?_
        refine v_call (w := 2) [some (2, 121), none] hO (hi_X12_readStep_115 hT) rfl rfl (rx_next hT hO (rX.zf (k := 25) (v := (0, ((s : Int) + 1))) (by decide) hX) (ne_10 h1) (ne_14 h1) (fun g15 ft15 hX15 => ?_))
        · show vP D T N 304 118 g15 [some (2, 121), some (0, (d : Int)), some (0, 7), some (0, 1), some (0, (2477 + (9 * (s : Int))))] [] _
          refine vP_hv (fun hv15 => ?_)
          refine v_load (v := (2, 121)) (hi_X12_readStep_118 hT) rfl rfl ?_
          refine v_getR (c := 126) (r := 121) (hi_X12_readStep_119 hT) rfl rfl rfl ?_
          refine v_load (v := (0, (2477 + (9 * (s : Int))))) (hi_X12_readStep_122 hT) rfl rfl ?_
          refine v_load (v := (0, 7)) (hi_X12_readStep_124 hT) rfl rfl ?_
          refine v_ast (r := 126) (hi_X12_readStep_125 hT) rfl rfl (fun ha16 hb17 hf18 => ?_)
          refine v_load (v := (2, 121)) (hi_X12_readStep_126 hT) rfl rfl ?_
          refine v_load (v := (0, (2477 + (9 * (s : Int))))) (hi_X12_readStep_127 hT) rfl rfl ?_
          refine v_call (w := 3) [some (2, 121), some (0, (2477 + (9 * (s : Int)))), none] hO (hi_X12_readStep_129 hT) rfl rfl ?_
          refine v_load (v := (2, 121)) (hi_X12_readRest_0 hT) rfl rfl ?_
          refine v_getR (c := 126) (r := 121) (hi_X12_readRest_1 hT) rfl rfl rfl ?_
          refine v_load (v := (0, (2477 + (9 * (s : Int))))) (hi_X12_readRest_4 hT) rfl rfl ?_
          refine v_aldV (v := (0, 7)) (r := 126) (hi_X12_readRest_5 hT) rfl rfl (fun _ _ _ => zset_same) (fun ha19 hb20 => ?_)
          refine v_store1 [some (2, 121), some (0, (2477 + (9 * (s : Int)))), some (0, 7)] (hi_X12_readRest_6 hT) ⟨rfl, Nat.ne_of_beq_eq_false rfl⟩ (Nat.le_of_ble_eq_true rfl) rfl ?_
          refine v_load (v := (0, 7)) (hi_X12_readRest_7 hT) rfl rfl ?_
          refine v_if (hi_X12_readRest_8 hT) (fun hc21 => absurd (show (7 : Int) = 0 from hc21) (by decide)) (fun _ => ?_)
          refine v_load (v := (0, 7)) (hi_X12_readRest_11 hT) rfl rfl ?_
          refine v_push (2) (hi_X12_readRest_12 hT) rfl ?_
          refine v_ic (hi_X12_readRest_13 hT) (fun hc22 => absurd (show (7 : Int) = 2 from hc22) (by decide)) (fun _ => ?_)
          refine v_load (v := (0, 7)) (hi_X12_readRest_52 hT) rfl rfl ?_
          refine v_push (1) (hi_X12_readRest_53 hT) rfl ?_
          refine v_ic (hi_X12_readRest_54 hT) (fun hc23 => absurd (show (7 : Int) = 1 from hc23) (by decide)) (fun _ => ?_)
          refine v_load (v := (0, 7)) (hi_X12_readRest_72 hT) rfl rfl ?_
          refine v_push (3) (hi_X12_readRest_73 hT) rfl ?_
          refine v_ic (hi_X12_readRest_74 hT) (fun hc24 => absurd (show (7 : Int) = 3 from hc24) (by decide)) (fun _ => ?_)
          refine v_load (v := (0, 7)) (hi_X12_readRest_112 hT) rfl rfl ?_
          refine v_push (4) (hi_X12_readRest_113 hT) rfl ?_
          refine v_ic (hi_X12_readRest_114 hT) (fun hc25 => absurd (show (7 : Int) = 4 from hc25) (by decide)) (fun _ => ?_)
          refine v_load (v := (0, 7)) (hi_X12_readRest_155 hT) rfl rfl ?_
          refine v_push (5) (hi_X12_readRest_156 hT) rfl ?_
          refine v_ic (hi_X12_readRest_157 hT) (fun hc26 => absurd (show (7 : Int) = 5 from hc26) (by decide)) (fun _ => ?_)
          refine v_load (v := (0, 7)) (hi_X12_readRest_175 hT) rfl rfl ?_
          refine v_push (7) (hi_X12_readRest_176 hT) rfl ?_
          refine v_ic (hi_X12_readRest_178 hT) (fun _ => ?_) (fun hc27 => absurd (show (7 : Int) = 7 from (by decide)) hc27)
          refine v_load (v := (2, 121)) (hi_X12_readRest_181 hT) rfl rfl ?_
          refine v_load (v := (0, (2477 + (9 * (s : Int))))) (hi_X12_readRest_182 hT) rfl rfl ?_
          refine v_call (w := 3) [some (2, 121), some (0, (2477 + (9 * (s : Int)))), none] hO (hi_X12_readRest_183 hT) rfl rfl ?_
          refine v_load (v := (2, 121)) (hi_X12_readTest_0 hT) rfl rfl ?_
          refine v_call (w := 1) [some (2, 121)] hO (hi_X12_readTest_1 hT) rfl rfl (rx_testK hT hO 0 (rX.z (r := 126) (k := (((2477 + (9 * (s : Int)))).toNat)) (v := (0, 7)) (by decide) hX15) h1b h3b (by decide) ?_)
          · show vP D T N 305 4 (zset g15 126 (((2477 + (9 * (s : Int)))).toNat) (0, 7)) [some (2, 121), some (0, (2477 + (9 * (s : Int)))), none] [(0, 0)] _
            refine v_store1 [some (2, 121), some (0, (2477 + (9 * (s : Int)))), some (0, 0)] (hi_X12_readTest_4 hT) ⟨rfl, Nat.ne_of_beq_eq_false rfl⟩ (Nat.le_of_ble_eq_true rfl) rfl ?_
            refine v_load (v := (2, 121)) (hi_X12_readTest_5 hT) rfl rfl ?_
            refine v_load (v := (0, 0)) (hi_X12_readTest_6 hT) rfl rfl ?_
            refine v_if (hi_X12_readTest_7 hT) (fun hc28 => absurd (show (0 : Int) < 0 from hc28) (by decide)) (fun _ => ?_)
            refine v_push (1) (hz_X12_readTest hT _ _ rfl) rfl ?_
            refine v_goto (hz_X12_readTest hT _ _ rfl) ?_
            refine v_call (w := 2) [some (2, 121), some (0, 1)] hO (hi_X12_readTest_15 hT) rfl rfl (rx_must hT hO 1 (rX.z (r := 126) (k := (((2477 + (9 * (s : Int)))).toNat)) (v := (0, 7)) (by decide) hX15) (fun _ => ⟨ne_10 h1b, ne_14 h1b⟩) (k2 := fun _ _ c => absurd c (by decide)) (fun g30 ft30 nz29 hX30 => ?_))
            · show vP D T N 305 18 g30 [some (2, 121), some (0, (2477 + (9 * (s : Int)))), some (0, 0)] [] _
              refine vP_hv (fun hv30 => ?_)
              refine v_load (v := (2, 121)) (hi_X12_readTest_18 hT) rfl rfl ?_
              refine v_getR (c := 126) (r := 121) (hi_X12_readTest_19 hT) rfl rfl rfl ?_
              refine v_load (v := (0, (2477 + (9 * (s : Int))))) (hi_X12_readTest_22 hT) rfl rfl ?_
              refine v_push (6) (hi_X12_readTest_23 hT) rfl ?_
              refine v_bin (w := ((2477 + (9 * (s : Int))) + 6)) (hi_X12_readTest_25 hT) (hq_add (by omega) (by omega)) ?_
              refine v_load (v := (0, 0)) (hi_X12_readTest_26 hT) rfl rfl ?_
              refine v_ast (r := 126) (hi_X12_readTest_27 hT) rfl rfl (fun ha31 hb32 hf33 => ?_)
              refine v_load (v := (0, 0)) (hi_X12_readTest_28 hT) rfl rfl ?_
              refine v_if (hi_X12_readTest_29 hT) (fun _ => ?_) (fun hc34 => absurd (show (0 : Int) = 0 from (by decide)) hc34)
              refine v_load (v := (2, 121)) (hz_X12_readTest hT _ _ rfl) rfl rfl ?_
              refine v_getR (c := 126) (r := 121) (hz_X12_readTest hT _ _ rfl) rfl rfl rfl ?_
              refine v_load (v := (0, (2477 + (9 * (s : Int))))) (hz_X12_readTest hT _ _ rfl) rfl rfl ?_
              refine v_push (1) (hz_X12_readTest hT _ _ rfl) rfl ?_
              refine v_bin (w := ((2477 + (9 * (s : Int))) + 1)) (hz_X12_readTest hT _ _ rfl) (hq_add (by omega) (by omega)) ?_
              refine v_load (v := (2, 121)) (hz_X12_readTest hT _ _ rfl) rfl rfl ?_
              refine v_call (w := 1) [some (2, 121)] hO (hz_X12_readTest hT _ _ rfl) rfl rfl ?_
              refine v_load (v := (2, 121)) (hi_X12_readCopy_0 hT) rfl rfl ?_
              refine v_push (0) (hi_X12_readCopy_1 hT) rfl ?_
              refine v_load (v := (2, 121)) (hi_X12_readCopy_2 hT) rfl rfl ?_
              refine v_getR (c := 126) (r := 121) (hi_X12_readCopy_3 hT) rfl rfl rfl ?_
              refine v_push (2) (hi_X12_readCopy_6 hT) rfl ?_
              refine v_aldV (v := (0, (P 0 2))) (r := 126) (hi_X12_readCopy_7 hT) rfl rfl (fun _ _ _ => (Eq.trans (zset_ne (fun c => by omega)) ((Eq.trans (ft30 126 2 (by first | decide | exact fun c => by omega)) (Eq.trans (zset_ne (fun c => by omega)) ((Eq.trans (ft15 126 2 (by first | decide | exact fun c => by omega)) (Eq.trans (zset_ne (fun c => absurd c.1 (by decide))) (e2))))))))) (fun ha35 hb36 => ?_)
              refine v_push (1) (hi_X12_readCopy_8 hT) rfl ?_
              refine v_bin (w := ((P 0 2) - 1)) (hi_X12_readCopy_9 hT) (hq_sub (by omega) (by omega)) ?_
              refine v_call (w := 4) [some (2, 121), some (0, 0), some (0, ((P 0 2) - 1)), none] hO (hi_X12_readCopy_10 hT) rfl rfl (rx_num hT hO 0 (((P 0 2) - 1)) (rX.z (r := 126) (k := ((((2477 + (9 * (s : Int))) + 6)).toNat)) (v := (0, 0)) (by decide) hX30) (fun g38 x37 ft38 q38 bux37 bvx37 hX38 => ?_) (fun g39 e39 ft39 q39 c39 => ?_))
              · show vP D T N 299 13 g38 [some (2, 121)] [(0, x37)] _
                refine vP_hv (fun hv38 => ?_)
                refine v_ret (hi_X12_readCopy_13 hT) (Or.inl rfl) ?_
                show vP D T N 305 43 g38 [some (2, 121), some (0, (2477 + (9 * (s : Int)))), some (0, 0)] [(0, x37), (0, ((2477 + (9 * (s : Int))) + 1)), (2, 126)] _
                refine v_ast (r := 126) (hz_X12_readTest hT _ _ rfl) rfl rfl (fun ha40 hb41 hf42 => ?_)
                refine v_load (v := (2, 121)) (hz_X12_readTest hT _ _ rfl) rfl rfl ?_
                refine v_load (v := (2, 121)) (hz_X12_readTest hT _ _ rfl) rfl rfl ?_
                refine v_call (w := 1) [some (2, 121)] hO (hz_X12_readTest hT _ _ rfl) rfl rfl (rx_isAtWord hT hO (rX.z (r := 126) (k := ((((2477 + (9 * (s : Int))) + 1)).toNat)) (v := (0, x37)) (by decide) hX38) ?_)
                · show vP D T N 305 49 (zset g38 126 ((((2477 + (9 * (s : Int))) + 1)).toNat) (0, x37)) [some (2, 121), some (0, (2477 + (9 * (s : Int)))), some (0, 0)] [(0, (bW τ 6 (i + 1 + 1 + 1))), (2, 121)] _
                  refine v_call (w := 2) [some (2, 121), some (0, (bW τ 6 (i + 1 + 1 + 1)))] hO (hz_X12_readTest hT _ _ rfl) rfl rfl (rx_must hT hO ((bW τ 6 (i + 1 + 1 + 1))) (rX.z (r := 126) (k := ((((2477 + (9 * (s : Int))) + 1)).toNat)) (v := (0, x37)) (by decide) hX38) (fun c => ⟨ne_10 (bW_y.mp c).1, ne_14 (bW_y.mp c).1⟩) (fun g44 ft44 hc43 hX44 => ?_) (fun g45 ft45 hc45 c45 => ?_))
                  · show vP D T N 305 52 g44 [some (2, 121), some (0, (2477 + (9 * (s : Int)))), some (0, 0)] [] _
                    refine vP_hv (fun hv44 => ?_)
                    refine v_load (v := (2, 121)) (hz_X12_readTest hT _ _ rfl) rfl rfl ?_
                    refine v_getR (c := 126) (r := 121) (hz_X12_readTest hT _ _ rfl) rfl rfl rfl ?_
                    refine v_load (v := (0, (2477 + (9 * (s : Int))))) (hz_X12_readTest hT _ _ rfl) rfl rfl ?_
                    refine v_push (2) (hz_X12_readTest hT _ _ rfl) rfl ?_
                    refine v_bin (w := ((2477 + (9 * (s : Int))) + 2)) (hz_X12_readTest hT _ _ rfl) (hq_add (by omega) (by omega)) ?_
                    refine v_load (v := (2, 121)) (hz_X12_readTest hT _ _ rfl) rfl rfl ?_
                    refine v_push (0) (hz_X12_readTest hT _ _ rfl) rfl ?_
                    refine v_call (w := 4) [some (2, 121), some (0, 0), none, none] hO (hz_X12_readTest hT _ _ rfl) rfl rfl (rx_cell_0 hT hO ((P 0 0)) ((P 0 1)) hX44 (Eq.trans (ft44 126 0 (by first | decide | exact fun c => by omega)) (Eq.trans (zset_ne (fun c => by omega)) ((Eq.trans (ft38 126 0 (by first | decide | exact fun c => by omega)) (Eq.trans (zset_ne (fun c => by omega)) ((Eq.trans (ft30 126 0 (by first | decide | exact fun c => by omega)) (Eq.trans (zset_ne (fun c => by omega)) ((Eq.trans (ft15 126 0 (by first | decide | exact fun c => by omega)) (Eq.trans (zset_ne (fun c => absurd c.1 (by decide))) (e0)))))))))))) (Eq.trans (ft44 126 1 (by first | decide | exact fun c => by omega)) (Eq.trans (zset_ne (fun c => by omega)) ((Eq.trans (ft38 126 1 (by first | decide | exact fun c => by omega)) (Eq.trans (zset_ne (fun c => by omega)) ((Eq.trans (ft30 126 1 (by first | decide | exact fun c => by omega)) (Eq.trans (zset_ne (fun c => by omega)) ((Eq.trans (ft15 126 1 (by first | decide | exact fun c => by omega)) (Eq.trans (zset_ne (fun c => absurd c.1 (by decide))) (e1)))))))))))) (by omega) (by omega) (fun g47 x46 y46 ft47 q47 bax46 bbx46 bcx46 bdx46 bex46 bfx46 hX47 => ?_) (fun g48 e48 v46 ft48 q48 bva46 bvb46 c48 => ?_))
                    · show vP D T N 305 64 g47 [some (2, 121), some (0, (2477 + (9 * (s : Int)))), some (0, 0)] [(0, (P 0 0 * y46 + x46)), (0, ((2477 + (9 * (s : Int))) + 2)), (2, 126)] _
                      refine vP_hv (fun hv47 => ?_)
                      refine v_ast (r := 126) (hi_X12_readTest_64 hT) rfl rfl (fun ha49 hb50 hf51 => ?_)
                      refine v_goto (hi_X12_readTest_65 hT) ?_
                      refine v_ret0 (hi_X12_readTest_172 hT) ?_
                      show vP D T N 301 186 (zset g47 126 ((((2477 + (9 * (s : Int))) + 2)).toNat) (0, (P 0 0 * y46 + x46))) [some (2, 121), some (0, (2477 + (9 * (s : Int)))), some (0, 7)] [] _
                      refine v_goto (hi_X12_readRest_186 hT) ?_
                      refine v_ret0 (hi_X12_readRest_210 hT) ?_
                      show vP D T N 304 132 (zset g47 126 ((((2477 + (9 * (s : Int))) + 2)).toNat) (0, (P 0 0 * y46 + x46))) [some (2, 121), some (0, (d : Int)), some (0, 7), some (0, 1), some (0, (2477 + (9 * (s : Int))))] [] _
                      refine v_load (v := (2, 121)) (hi_X12_readStep_132 hT) rfl rfl ?_
                      refine v_load (v := (2, 121)) (hi_X12_readStep_133 hT) rfl rfl ?_
                      refine v_push (59) (hi_X12_readStep_134 hT) rfl ?_
                      refine v_call (w := 2) [some (2, 121), some (0, 59)] hO (hi_X12_readStep_136 hT) rfl rfl (rx_isSign hT hO 59 (rX.z (r := 126) (k := ((((2477 + (9 * (s : Int))) + 2)).toNat)) (v := (0, (P 0 0 * y46 + x46))) (by decide) hX47) ?_)
                      · show vP D T N 304 139 (zset g47 126 ((((2477 + (9 * (s : Int))) + 2)).toNat) (0, (P 0 0 * y46 + x46))) [some (2, 121), some (0, (d : Int)), some (0, 7), some (0, 1), some (0, (2477 + (9 * (s : Int))))] [(0, (bG τ 59 (i + 1 + 1 + 1 + 1 + 1 + 1))), (2, 121)] _
                        refine v_call (w := 2) [some (2, 121), some (0, (bG τ 59 (i + 1 + 1 + 1 + 1 + 1 + 1)))] hO (hi_X12_readStep_139 hT) rfl rfl (rx_must hT hO ((bG τ 59 (i + 1 + 1 + 1 + 1 + 1 + 1))) (rX.z (r := 126) (k := ((((2477 + (9 * (s : Int))) + 2)).toNat)) (v := (0, (P 0 0 * y46 + x46))) (by decide) hX47) (fun c => ⟨by have := (bG_y.mp c).1; omega, by have := (bG_y.mp c).1; omega⟩) (fun g53 ft53 hc52 hX53 => ?_) (fun g54 ft54 hc54 c54 => ?_))
                        · show vP D T N 304 142 g53 [some (2, 121), some (0, (d : Int)), some (0, 7), some (0, 1), some (0, (2477 + (9 * (s : Int))))] [] _
                          refine vP_hv (fun hv53 => ?_)
                          have kp_ : ∀ e, g53 126 e = (zset (zset (zset (zset h 126 (((2477 + (9 * (s : Int)))).toNat) (0, 7)) 126 ((((2477 + (9 * (s : Int))) + 6)).toNat) (0, 0)) 126 ((((2477 + (9 * (s : Int))) + 1)).toNat) (0, x37)) 126 ((((2477 + (9 * (s : Int))) + 2)).toNat) (0, (P 0 0 * y46 + x46))) 126 e := (kr_f (fun e => ft53 126 e (fun c => by omega)) (kr_z (k := ((((2477 + (9 * (s : Int))) + 2)).toNat)) (v := (0, (P 0 0 * y46 + x46))) (kr_f (fun e => ft47 126 e (fun c => by omega)) (kr_f (fun e => ft44 126 e (fun c => by omega)) (kr_z (k := ((((2477 + (9 * (s : Int))) + 1)).toNat)) (v := (0, x37)) (kr_f (fun e => ft38 126 e (fun c => by omega)) (kr_z (k := ((((2477 + (9 * (s : Int))) + 6)).toNat)) (v := (0, 0)) (kr_f (fun e => ft30 126 e (fun c => by omega)) (kr_z (k := (((2477 + (9 * (s : Int)))).toNat)) (v := (0, 7)) (kr_f (fun e => ft15 126 e (fun c => by omega)) (kr_n (a := 121) (k := 25) (v := (0, ((s : Int) + 1))) (by decide) (fun _ => Eq.refl _))))))))))))
                          exact ih _ (s + 1) (d + 1) (i + 1 + 1 + 1 + 1 + 1 + 1 + 1) _ 16 x37 (y46 * 8 + x46) (i + 1 + 1 + 1 + 1 + 1 + 1) (by simp only [pStep, hE, hsw, htw, hop, h15, opW15, harg, pNm, pWord, pSg, (show ¬ 30 ≤ s from by omega), (show ¬ 3 ≤ d from by omega), q38, hc43, q47, hc52, ne_eq, not_true_eq_false, not_false_eq_true, if_true, if_false, eq_self, eb_l, eb_r, and_true, true_and, and_false, false_and]) hX53 (Eq.trans (ft53 121 25 (by first | decide | exact fun c => by omega)) (Eq.trans (zset_ne (fun c => absurd c.1 (by decide))) ((Eq.trans (ft47 121 25 (by first | decide | exact fun c => by omega)) (Eq.trans (ft44 121 25 (by first | decide | exact fun c => by omega)) (Eq.trans (zset_ne (fun c => absurd c.1 (by decide))) ((Eq.trans (ft38 121 25 (by first | decide | exact fun c => by omega)) (Eq.trans (zset_ne (fun c => absurd c.1 (by decide))) ((Eq.trans (ft30 121 25 (by first | decide | exact fun c => by omega)) (Eq.trans (zset_ne (fun c => absurd c.1 (by decide))) ((Eq.trans (ft15 121 25 (by first | decide | exact fun c => by omega)) (zset_same))))))))))))))) (by omega) (by omega) (roF.t (roF.z (a := 126) (b := ((((2477 + (9 * (s : Int))) + 2)).toNat)) (v := (0, (P 0 0 * y46 + x46))) (by omega) (roF.t (roF.t (roF.z (a := 126) (b := ((((2477 + (9 * (s : Int))) + 1)).toNat)) (v := (0, x37)) (by omega) (roF.t (roF.z (a := 126) (b := ((((2477 + (9 * (s : Int))) + 6)).toNat)) (v := (0, 0)) (by omega) (roF.t (roF.z (a := 126) (b := (((2477 + (9 * (s : Int)))).toNat)) (v := (0, 7)) (by omega) (roF.t (roF.z (a := 121) (b := 25) (v := (0, ((s : Int) + 1))) (by omega) roF.rfl) ft15)) ft30)) ft38)) ft44) ft47)) ft53) (pItV_b h3 h3b (by simp only [hargV, pWord, (show ¬ 30 ≤ s from by omega), (show ¬ 3 ≤ d from by omega), q38, hc43, q47, hc52, ne_eq, not_true_eq_false, not_false_eq_true, if_true, if_false, eq_self, eb_l, eb_r, and_true, true_and, and_false, false_and])) (fun e_ hn_ => (kp_ e_).trans ((zset_ne (fun c => hn_ (by omega))).trans ((zset_ne (fun c => hn_ (by omega))).trans ((zset_ne (fun c => hn_ (by omega))).trans (zset_ne (fun c => hn_ (by omega))))))) ⟨((kp_ _).trans ((zset_ne (fun c => by omega)).trans ((zset_ne (fun c => by omega)).trans ((zset_ne (fun c => by omega)).trans (zset_e (by omega)))))), (fun _ => ((kp_ _).trans ((zset_ne (fun c => by omega)).trans (zset_e (by omega))))), (fun _ => (((kp_ _).trans (zset_e (by omega)))).trans (congrArg (Prod.mk 0) (cell_wv (w := P 0 0) (x := x46) (y := y46) (by omega) (by omega)).symm)), (fun c => absurd c (by decide)), (fun _ => ((kp_ _).trans ((zset_ne (fun c => by omega)).trans ((zset_ne (fun c => by omega)).trans (zset_e (by omega)))))), (fun c => absurd c (by decide))⟩
                        · show vP D T N 304 142 g54 [some (2, 121), some (0, (d : Int)), some (0, 7), some (0, 1), some (0, (2477 + (9 * (s : Int))))] [] _
                          refine vP_hv (fun hv54 => ?_)
                          refine v_load (v := (0, 1)) (hi_X12_readStep_142 hT) rfl rfl ?_
                          refine v_if (hi_X12_readStep_143 hT) (fun hc55 => absurd (show (1 : Int) = 0 from hc55) nz29) (fun _ => ?_)
                          refine v_load (v := (2, 121)) (hi_X12_readStep_146 hT) rfl rfl ?_
                          refine v_getf (v := (0, (eF τ (i + 1 + 1 + 1 + 1 + 1 + 1) 2).1)) (r := 121) (hi_X12_readStep_147 hT) rfl rfl (fun _ => c54.1) ?_
                          refine v_if (hi_X12_readStep_150 hT) (fun hc56 => absurd (show (eF τ (i + 1 + 1 + 1 + 1 + 1 + 1) 2).1 = 0 from hc56) (by have := c54.2.1; omega)) (fun _ => ?_)
                          refine v_load (v := (0, 1)) (hi_X12_readStep_170 hT) rfl rfl ?_
                          refine v_if (hi_X12_readStep_171 hT) (fun hc57 => absurd (show (1 : Int) = 0 from hc57) nz29) (fun _ => ?_)
                          refine v_load (v := (2, 121)) (hi_X12_readStep_174 hT) rfl rfl ?_
                          refine v_load (v := (2, 121)) (hi_X12_readStep_175 hT) rfl rfl ?_
                          refine v_call (w := 1) [some (2, 121)] hO (hi_X12_readStep_176 hT) rfl rfl (rb_any_isEnd hT hO (fun v58 => ?_))
                          · show vP D T N 304 179 g54 [some (2, 121), some (0, (d : Int)), some (0, 7), some (0, 1), some (0, (2477 + (9 * (s : Int))))] [(0, v58), (2, 121)] _
                            refine v_call (w := 2) [some (2, 121), some (0, v58)] hO (hi_X12_readStep_179 hT) rfl rfl (rx_mustB hT hO v58 c54 ?_)
                            · show vP D T N 304 182 g54 [some (2, 121), some (0, (d : Int)), some (0, 7), some (0, 1), some (0, (2477 + (9 * (s : Int))))] [] _
                              refine v_load (v := (2, 121)) (hi_X12_readStep_182 hT) rfl rfl ?_
                              refine v_load (v := (2, 121)) (hi_X12_readStep_183 hT) rfl rfl ?_
                              refine v_push (59) (hi_X12_readStep_184 hT) rfl ?_
                              refine v_call (w := 2) [some (2, 121), some (0, 59)] hO (hi_X12_readStep_186 hT) rfl rfl (rb_any_isSign hT hO (fun v59 => ?_))
                              · show vP D T N 304 189 g54 [some (2, 121), some (0, (d : Int)), some (0, 7), some (0, 1), some (0, (2477 + (9 * (s : Int))))] [(0, v59), (2, 121)] _
                                refine v_call (w := 2) [some (2, 121), some (0, v59)] hO (hi_X12_readStep_189 hT) rfl rfl (rx_mustB hT hO v59 c54 ?_)
                                · show vP D T N 304 192 g54 [some (2, 121), some (0, (d : Int)), some (0, 7), some (0, 1), some (0, (2477 + (9 * (s : Int))))] [] _
                                  refine v_load (v := (2, 121)) (hi_X12_readStep_192 hT) rfl rfl ?_
                                  refine v_getR (c := 126) (r := 121) (hi_X12_readStep_193 hT) rfl rfl rfl ?_
                                  refine v_load (v := (0, (2477 + (9 * (s : Int))))) (hi_X12_readStep_196 hT) rfl rfl ?_
                                  refine v_push (8) (hi_X12_readStep_198 hT) rfl ?_
                                  refine v_bin (w := ((2477 + (9 * (s : Int))) + 8)) (hi_X12_readStep_200 hT) (hq_add (by omega) (by omega)) ?_
                                  refine v_load (v := (2, 121)) (hi_X12_readStep_201 hT) rfl rfl ?_
                                  refine v_getf (v := (0, ((s : Int) + 1))) (r := 121) (hi_X12_readStep_202 hT) rfl rfl (fun _ => (Eq.trans (ft54 121 25 (by first | decide | exact fun c => by omega)) (Eq.trans (zset_ne (fun c => absurd c.1 (by decide))) ((Eq.trans (ft47 121 25 (by first | decide | exact fun c => by omega)) (Eq.trans (ft44 121 25 (by first | decide | exact fun c => by omega)) (Eq.trans (zset_ne (fun c => absurd c.1 (by decide))) ((Eq.trans (ft38 121 25 (by first | decide | exact fun c => by omega)) (Eq.trans (zset_ne (fun c => absurd c.1 (by decide))) ((Eq.trans (ft30 121 25 (by first | decide | exact fun c => by omega)) (Eq.trans (zset_ne (fun c => absurd c.1 (by decide))) ((Eq.trans (ft15 121 25 (by first | decide | exact fun c => by omega)) (zset_same)))))))))))))))) ?_
                                  refine v_ast (r := 126) (hi_X12_readStep_205 hT) rfl rfl (fun ha60 hb61 hf62 => ?_)
                                  refine v_ret0 (hi_X12_readStep_206 hT) ?_
                                  exact er _ _ (by simp only [pStep, hE, hsw, htw, hop, h15, opW15, harg, pNm, pWord, pSg, (show ¬ 30 ≤ s from by omega), (show ¬ 3 ≤ d from by omega), q38, hc43, q47, hc54, ne_eq, not_true_eq_false, not_false_eq_true, if_true, if_false, eq_self, eb_l, eb_r, and_true, true_and, and_false, false_and]) (rE.z (r := 126) (k := ((((2477 + (9 * (s : Int))) + 8)).toNat)) (v := (0, ((s : Int) + 1))) (by decide) c54) (roF.z (a := 126) (b := ((((2477 + (9 * (s : Int))) + 8)).toNat)) (v := (0, ((s : Int) + 1))) (by omega) (roF.t (roF.z (a := 126) (b := ((((2477 + (9 * (s : Int))) + 2)).toNat)) (v := (0, (P 0 0 * y46 + x46))) (by omega) (roF.t (roF.t (roF.z (a := 126) (b := ((((2477 + (9 * (s : Int))) + 1)).toNat)) (v := (0, x37)) (by omega) (roF.t (roF.z (a := 126) (b := ((((2477 + (9 * (s : Int))) + 6)).toNat)) (v := (0, 0)) (by omega) (roF.t (roF.z (a := 126) (b := (((2477 + (9 * (s : Int)))).toNat)) (v := (0, 7)) (by omega) (roF.t (roF.z (a := 121) (b := 25) (v := (0, ((s : Int) + 1))) (by omega) roF.rfl) ft15)) ft30)) ft38)) ft44) ft47)) ft54))
                    · show vP D T N 305 64 g48 [some (2, 121), some (0, (2477 + (9 * (s : Int)))), some (0, 0)] [(0, v46), (0, ((2477 + (9 * (s : Int))) + 2)), (2, 126)] _
                      refine vP_hv (fun hv48 => ?_)
                      refine v_ast (r := 126) (hi_X12_readTest_64 hT) rfl rfl (fun ha63 hb64 hf65 => ?_)
                      refine v_goto (hi_X12_readTest_65 hT) ?_
                      refine v_ret0 (hi_X12_readTest_172 hT) ?_
                      show vP D T N 301 186 (zset g48 126 ((((2477 + (9 * (s : Int))) + 2)).toNat) (0, v46)) [some (2, 121), some (0, (2477 + (9 * (s : Int)))), some (0, 7)] [] _
                      refine v_goto (hi_X12_readRest_186 hT) ?_
                      refine v_ret0 (hi_X12_readRest_210 hT) ?_
                      show vP D T N 304 132 (zset g48 126 ((((2477 + (9 * (s : Int))) + 2)).toNat) (0, v46)) [some (2, 121), some (0, (d : Int)), some (0, 7), some (0, 1), some (0, (2477 + (9 * (s : Int))))] [] _
                      refine v_load (v := (2, 121)) (hi_X12_readStep_132 hT) rfl rfl ?_
                      refine v_load (v := (2, 121)) (hi_X12_readStep_133 hT) rfl rfl ?_
                      refine v_push (59) (hi_X12_readStep_134 hT) rfl ?_
                      refine v_call (w := 2) [some (2, 121), some (0, 59)] hO (hi_X12_readStep_136 hT) rfl rfl (rb_any_isSign hT hO (fun v66 => ?_))
                      · show vP D T N 304 139 (zset g48 126 ((((2477 + (9 * (s : Int))) + 2)).toNat) (0, v46)) [some (2, 121), some (0, (d : Int)), some (0, 7), some (0, 1), some (0, (2477 + (9 * (s : Int))))] [(0, v66), (2, 121)] _
                        refine v_call (w := 2) [some (2, 121), some (0, v66)] hO (hi_X12_readStep_139 hT) rfl rfl (rx_mustB hT hO v66 (rE.z (r := 126) (k := ((((2477 + (9 * (s : Int))) + 2)).toNat)) (v := (0, v46)) (by decide) c48) ?_)
                        · show vP D T N 304 142 (zset g48 126 ((((2477 + (9 * (s : Int))) + 2)).toNat) (0, v46)) [some (2, 121), some (0, (d : Int)), some (0, 7), some (0, 1), some (0, (2477 + (9 * (s : Int))))] [] _
                          refine v_load (v := (0, 1)) (hi_X12_readStep_142 hT) rfl rfl ?_
                          refine v_if (hi_X12_readStep_143 hT) (fun hc67 => absurd (show (1 : Int) = 0 from hc67) nz29) (fun _ => ?_)
                          refine v_load (v := (2, 121)) (hi_X12_readStep_146 hT) rfl rfl ?_
                          refine v_getf (v := (0, e48.1)) (r := 121) (hi_X12_readStep_147 hT) rfl rfl (fun _ => Eq.trans (zset_ne (fun c => absurd c.1 (by decide))) (c48.1)) ?_
                          refine v_if (hi_X12_readStep_150 hT) (fun hc68 => absurd (show e48.1 = 0 from hc68) (by have := c48.2.1; omega)) (fun _ => ?_)
                          refine v_load (v := (0, 1)) (hi_X12_readStep_170 hT) rfl rfl ?_
                          refine v_if (hi_X12_readStep_171 hT) (fun hc69 => absurd (show (1 : Int) = 0 from hc69) nz29) (fun _ => ?_)
                          refine v_load (v := (2, 121)) (hi_X12_readStep_174 hT) rfl rfl ?_
                          refine v_load (v := (2, 121)) (hi_X12_readStep_175 hT) rfl rfl ?_
                          refine v_call (w := 1) [some (2, 121)] hO (hi_X12_readStep_176 hT) rfl rfl (rb_any_isEnd hT hO (fun v70 => ?_))
                          · show vP D T N 304 179 (zset g48 126 ((((2477 + (9 * (s : Int))) + 2)).toNat) (0, v46)) [some (2, 121), some (0, (d : Int)), some (0, 7), some (0, 1), some (0, (2477 + (9 * (s : Int))))] [(0, v70), (2, 121)] _
                            refine v_call (w := 2) [some (2, 121), some (0, v70)] hO (hi_X12_readStep_179 hT) rfl rfl (rx_mustB hT hO v70 (rE.z (r := 126) (k := ((((2477 + (9 * (s : Int))) + 2)).toNat)) (v := (0, v46)) (by decide) c48) ?_)
                            · show vP D T N 304 182 (zset g48 126 ((((2477 + (9 * (s : Int))) + 2)).toNat) (0, v46)) [some (2, 121), some (0, (d : Int)), some (0, 7), some (0, 1), some (0, (2477 + (9 * (s : Int))))] [] _
                              refine v_load (v := (2, 121)) (hi_X12_readStep_182 hT) rfl rfl ?_
                              refine v_load (v := (2, 121)) (hi_X12_readStep_183 hT) rfl rfl ?_
                              refine v_push (59) (hi_X12_readStep_184 hT) rfl ?_
                              refine v_call (w := 2) [some (2, 121), some (0, 59)] hO (hi_X12_readStep_186 hT) rfl rfl (rb_any_isSign hT hO (fun v71 => ?_))
                              · show vP D T N 304 189 (zset g48 126 ((((2477 + (9 * (s : Int))) + 2)).toNat) (0, v46)) [some (2, 121), some (0, (d : Int)), some (0, 7), some (0, 1), some (0, (2477 + (9 * (s : Int))))] [(0, v71), (2, 121)] _
                                refine v_call (w := 2) [some (2, 121), some (0, v71)] hO (hi_X12_readStep_189 hT) rfl rfl (rx_mustB hT hO v71 (rE.z (r := 126) (k := ((((2477 + (9 * (s : Int))) + 2)).toNat)) (v := (0, v46)) (by decide) c48) ?_)
                                · show vP D T N 304 192 (zset g48 126 ((((2477 + (9 * (s : Int))) + 2)).toNat) (0, v46)) [some (2, 121), some (0, (d : Int)), some (0, 7), some (0, 1), some (0, (2477 + (9 * (s : Int))))] [] _
                                  refine v_load (v := (2, 121)) (hi_X12_readStep_192 hT) rfl rfl ?_
                                  refine v_getR (c := 126) (r := 121) (hi_X12_readStep_193 hT) rfl rfl rfl ?_
                                  refine v_load (v := (0, (2477 + (9 * (s : Int))))) (hi_X12_readStep_196 hT) rfl rfl ?_
                                  refine v_push (8) (hi_X12_readStep_198 hT) rfl ?_
                                  refine v_bin (w := ((2477 + (9 * (s : Int))) + 8)) (hi_X12_readStep_200 hT) (hq_add (by omega) (by omega)) ?_
                                  refine v_load (v := (2, 121)) (hi_X12_readStep_201 hT) rfl rfl ?_
                                  refine v_getf (v := (0, ((s : Int) + 1))) (r := 121) (hi_X12_readStep_202 hT) rfl rfl (fun _ => Eq.trans (zset_ne (fun c => absurd c.1 (by decide))) ((Eq.trans (ft48 121 25 (by first | decide | exact fun c => by omega)) (Eq.trans (ft44 121 25 (by first | decide | exact fun c => by omega)) (Eq.trans (zset_ne (fun c => absurd c.1 (by decide))) ((Eq.trans (ft38 121 25 (by first | decide | exact fun c => by omega)) (Eq.trans (zset_ne (fun c => absurd c.1 (by decide))) ((Eq.trans (ft30 121 25 (by first | decide | exact fun c => by omega)) (Eq.trans (zset_ne (fun c => absurd c.1 (by decide))) ((Eq.trans (ft15 121 25 (by first | decide | exact fun c => by omega)) (zset_same)))))))))))))) ?_
                                  refine v_ast (r := 126) (hi_X12_readStep_205 hT) rfl rfl (fun ha72 hb73 hf74 => ?_)
                                  refine v_ret0 (hi_X12_readStep_206 hT) ?_
                                  exact er _ _ (by simp only [pStep, hE, hsw, htw, hop, h15, opW15, harg, pNm, pWord, pSg, (show ¬ 30 ≤ s from by omega), (show ¬ 3 ≤ d from by omega), q38, hc43, q48, ne_eq, not_true_eq_false, not_false_eq_true, if_true, if_false, eq_self, eb_l, eb_r, and_true, true_and, and_false, false_and]) (rE.z (r := 126) (k := ((((2477 + (9 * (s : Int))) + 8)).toNat)) (v := (0, ((s : Int) + 1))) (by decide) (rE.z (r := 126) (k := ((((2477 + (9 * (s : Int))) + 2)).toNat)) (v := (0, v46)) (by decide) c48)) (roF.z (a := 126) (b := ((((2477 + (9 * (s : Int))) + 8)).toNat)) (v := (0, ((s : Int) + 1))) (by omega) (roF.z (a := 126) (b := ((((2477 + (9 * (s : Int))) + 2)).toNat)) (v := (0, v46)) (by omega) (roF.t (roF.t (roF.z (a := 126) (b := ((((2477 + (9 * (s : Int))) + 1)).toNat)) (v := (0, x37)) (by omega) (roF.t (roF.z (a := 126) (b := ((((2477 + (9 * (s : Int))) + 6)).toNat)) (v := (0, 0)) (by omega) (roF.t (roF.z (a := 126) (b := (((2477 + (9 * (s : Int)))).toNat)) (v := (0, 7)) (by omega) (roF.t (roF.z (a := 121) (b := 25) (v := (0, ((s : Int) + 1))) (by omega) roF.rfl) ft15)) ft30)) ft38)) ft44) ft48)))
                  · show vP D T N 305 52 g45 [some (2, 121), some (0, (2477 + (9 * (s : Int)))), some (0, 0)] [] _
                    refine vP_hv (fun hv45 => ?_)
                    refine v_load (v := (2, 121)) (hz_X12_readTest hT _ _ rfl) rfl rfl ?_
                    refine v_getR (c := 126) (r := 121) (hz_X12_readTest hT _ _ rfl) rfl rfl rfl ?_
                    refine v_load (v := (0, (2477 + (9 * (s : Int))))) (hz_X12_readTest hT _ _ rfl) rfl rfl ?_
                    refine v_push (2) (hz_X12_readTest hT _ _ rfl) rfl ?_
                    refine v_bin (w := ((2477 + (9 * (s : Int))) + 2)) (hz_X12_readTest hT _ _ rfl) (hq_add (by omega) (by omega)) ?_
                    refine v_load (v := (2, 121)) (hz_X12_readTest hT _ _ rfl) rfl rfl ?_
                    refine v_push (0) (hz_X12_readTest hT _ _ rfl) rfl ?_
                    refine v_call (w := 4) [some (2, 121), some (0, 0), none, none] hO (hz_X12_readTest hT _ _ rfl) rfl rfl (rx_cellB_0 hT hO ((P 0 0)) ((P 0 1)) c45 (Eq.trans (ft45 126 0 (by first | decide | exact fun c => by omega)) (Eq.trans (zset_ne (fun c => by omega)) ((Eq.trans (ft38 126 0 (by first | decide | exact fun c => by omega)) (Eq.trans (zset_ne (fun c => by omega)) ((Eq.trans (ft30 126 0 (by first | decide | exact fun c => by omega)) (Eq.trans (zset_ne (fun c => by omega)) ((Eq.trans (ft15 126 0 (by first | decide | exact fun c => by omega)) (Eq.trans (zset_ne (fun c => absurd c.1 (by decide))) (e0)))))))))))) (Eq.trans (ft45 126 1 (by first | decide | exact fun c => by omega)) (Eq.trans (zset_ne (fun c => by omega)) ((Eq.trans (ft38 126 1 (by first | decide | exact fun c => by omega)) (Eq.trans (zset_ne (fun c => by omega)) ((Eq.trans (ft30 126 1 (by first | decide | exact fun c => by omega)) (Eq.trans (zset_ne (fun c => by omega)) ((Eq.trans (ft15 126 1 (by first | decide | exact fun c => by omega)) (Eq.trans (zset_ne (fun c => absurd c.1 (by decide))) (e1)))))))))))) (by omega) (by omega) (fun v75 bva75 bvb75 => ?_))
                    · show vP D T N 305 64 g45 [some (2, 121), some (0, (2477 + (9 * (s : Int)))), some (0, 0)] [(0, v75), (0, ((2477 + (9 * (s : Int))) + 2)), (2, 126)] _
                      refine v_ast (r := 126) (hi_X12_readTest_64 hT) rfl rfl (fun ha76 hb77 hf78 => ?_)
                      refine v_goto (hi_X12_readTest_65 hT) ?_
                      refine v_ret0 (hi_X12_readTest_172 hT) ?_
                      show vP D T N 301 186 (zset g45 126 ((((2477 + (9 * (s : Int))) + 2)).toNat) (0, v75)) [some (2, 121), some (0, (2477 + (9 * (s : Int)))), some (0, 7)] [] _
                      refine v_goto (hi_X12_readRest_186 hT) ?_
                      refine v_ret0 (hi_X12_readRest_210 hT) ?_
                      show vP D T N 304 132 (zset g45 126 ((((2477 + (9 * (s : Int))) + 2)).toNat) (0, v75)) [some (2, 121), some (0, (d : Int)), some (0, 7), some (0, 1), some (0, (2477 + (9 * (s : Int))))] [] _
                      refine v_load (v := (2, 121)) (hi_X12_readStep_132 hT) rfl rfl ?_
                      refine v_load (v := (2, 121)) (hi_X12_readStep_133 hT) rfl rfl ?_
                      refine v_push (59) (hi_X12_readStep_134 hT) rfl ?_
                      refine v_call (w := 2) [some (2, 121), some (0, 59)] hO (hi_X12_readStep_136 hT) rfl rfl (rb_any_isSign hT hO (fun v79 => ?_))
                      · show vP D T N 304 139 (zset g45 126 ((((2477 + (9 * (s : Int))) + 2)).toNat) (0, v75)) [some (2, 121), some (0, (d : Int)), some (0, 7), some (0, 1), some (0, (2477 + (9 * (s : Int))))] [(0, v79), (2, 121)] _
                        refine v_call (w := 2) [some (2, 121), some (0, v79)] hO (hi_X12_readStep_139 hT) rfl rfl (rx_mustB hT hO v79 (rE.z (r := 126) (k := ((((2477 + (9 * (s : Int))) + 2)).toNat)) (v := (0, v75)) (by decide) c45) ?_)
                        · show vP D T N 304 142 (zset g45 126 ((((2477 + (9 * (s : Int))) + 2)).toNat) (0, v75)) [some (2, 121), some (0, (d : Int)), some (0, 7), some (0, 1), some (0, (2477 + (9 * (s : Int))))] [] _
                          refine v_load (v := (0, 1)) (hi_X12_readStep_142 hT) rfl rfl ?_
                          refine v_if (hi_X12_readStep_143 hT) (fun hc80 => absurd (show (1 : Int) = 0 from hc80) nz29) (fun _ => ?_)
                          refine v_load (v := (2, 121)) (hi_X12_readStep_146 hT) rfl rfl ?_
                          refine v_getf (v := (0, (eF τ (i + 1 + 1 + 1) 2).1)) (r := 121) (hi_X12_readStep_147 hT) rfl rfl (fun _ => Eq.trans (zset_ne (fun c => absurd c.1 (by decide))) (c45.1)) ?_
                          refine v_if (hi_X12_readStep_150 hT) (fun hc81 => absurd (show (eF τ (i + 1 + 1 + 1) 2).1 = 0 from hc81) (by have := c45.2.1; omega)) (fun _ => ?_)
                          refine v_load (v := (0, 1)) (hi_X12_readStep_170 hT) rfl rfl ?_
                          refine v_if (hi_X12_readStep_171 hT) (fun hc82 => absurd (show (1 : Int) = 0 from hc82) nz29) (fun _ => ?_)
                          refine v_load (v := (2, 121)) (hi_X12_readStep_174 hT) rfl rfl ?_
                          refine v_load (v := (2, 121)) (hi_X12_readStep_175 hT) rfl rfl ?_
                          refine v_call (w := 1) [some (2, 121)] hO (hi_X12_readStep_176 hT) rfl rfl (rb_any_isEnd hT hO (fun v83 => ?_))
                          · show vP D T N 304 179 (zset g45 126 ((((2477 + (9 * (s : Int))) + 2)).toNat) (0, v75)) [some (2, 121), some (0, (d : Int)), some (0, 7), some (0, 1), some (0, (2477 + (9 * (s : Int))))] [(0, v83), (2, 121)] _
                            refine v_call (w := 2) [some (2, 121), some (0, v83)] hO (hi_X12_readStep_179 hT) rfl rfl (rx_mustB hT hO v83 (rE.z (r := 126) (k := ((((2477 + (9 * (s : Int))) + 2)).toNat)) (v := (0, v75)) (by decide) c45) ?_)
                            · show vP D T N 304 182 (zset g45 126 ((((2477 + (9 * (s : Int))) + 2)).toNat) (0, v75)) [some (2, 121), some (0, (d : Int)), some (0, 7), some (0, 1), some (0, (2477 + (9 * (s : Int))))] [] _
                              refine v_load (v := (2, 121)) (hi_X12_readStep_182 hT) rfl rfl ?_
                              refine v_load (v := (2, 121)) (hi_X12_readStep_183 hT) rfl rfl ?_
                              refine v_push (59) (hi_X12_readStep_184 hT) rfl ?_
                              refine v_call (w := 2) [some (2, 121), some (0, 59)] hO (hi_X12_readStep_186 hT) rfl rfl (rb_any_isSign hT hO (fun v84 => ?_))
                              · show vP D T N 304 189 (zset g45 126 ((((2477 + (9 * (s : Int))) + 2)).toNat) (0, v75)) [some (2, 121), some (0, (d : Int)), some (0, 7), some (0, 1), some (0, (2477 + (9 * (s : Int))))] [(0, v84), (2, 121)] _
                                refine v_call (w := 2) [some (2, 121), some (0, v84)] hO (hi_X12_readStep_189 hT) rfl rfl (rx_mustB hT hO v84 (rE.z (r := 126) (k := ((((2477 + (9 * (s : Int))) + 2)).toNat)) (v := (0, v75)) (by decide) c45) ?_)
                                · show vP D T N 304 192 (zset g45 126 ((((2477 + (9 * (s : Int))) + 2)).toNat) (0, v75)) [some (2, 121), some (0, (d : Int)), some (0, 7), some (0, 1), some (0, (2477 + (9 * (s : Int))))] [] _
                                  refine v_load (v := (2, 121)) (hi_X12_readStep_192 hT) rfl rfl ?_
                                  refine v_getR (c := 126) (r := 121) (hi_X12_readStep_193 hT) rfl rfl rfl ?_
                                  refine v_load (v := (0, (2477 + (9 * (s : Int))))) (hi_X12_readStep_196 hT) rfl rfl ?_
                                  refine v_push (8) (hi_X12_readStep_198 hT) rfl ?_
                                  refine v_bin (w := ((2477 + (9 * (s : Int))) + 8)) (hi_X12_readStep_200 hT) (hq_add (by omega) (by omega)) ?_
                                  refine v_load (v := (2, 121)) (hi_X12_readStep_201 hT) rfl rfl ?_
                                  refine v_getf (v := (0, ((s : Int) + 1))) (r := 121) (hi_X12_readStep_202 hT) rfl rfl (fun _ => Eq.trans (zset_ne (fun c => absurd c.1 (by decide))) ((Eq.trans (ft45 121 25 (by first | decide | exact fun c => by omega)) (Eq.trans (zset_ne (fun c => absurd c.1 (by decide))) ((Eq.trans (ft38 121 25 (by first | decide | exact fun c => by omega)) (Eq.trans (zset_ne (fun c => absurd c.1 (by decide))) ((Eq.trans (ft30 121 25 (by first | decide | exact fun c => by omega)) (Eq.trans (zset_ne (fun c => absurd c.1 (by decide))) ((Eq.trans (ft15 121 25 (by first | decide | exact fun c => by omega)) (zset_same))))))))))))) ?_
                                  refine v_ast (r := 126) (hi_X12_readStep_205 hT) rfl rfl (fun ha85 hb86 hf87 => ?_)
                                  refine v_ret0 (hi_X12_readStep_206 hT) ?_
                                  exact er _ _ (by simp only [pStep, hE, hsw, htw, hop, h15, opW15, harg, pNm, pWord, pSg, (show ¬ 30 ≤ s from by omega), (show ¬ 3 ≤ d from by omega), q38, hc45, ne_eq, not_true_eq_false, not_false_eq_true, if_true, if_false, eq_self, eb_l, eb_r, and_true, true_and, and_false, false_and]) (rE.z (r := 126) (k := ((((2477 + (9 * (s : Int))) + 8)).toNat)) (v := (0, ((s : Int) + 1))) (by decide) (rE.z (r := 126) (k := ((((2477 + (9 * (s : Int))) + 2)).toNat)) (v := (0, v75)) (by decide) c45)) (roF.z (a := 126) (b := ((((2477 + (9 * (s : Int))) + 8)).toNat)) (v := (0, ((s : Int) + 1))) (by omega) (roF.z (a := 126) (b := ((((2477 + (9 * (s : Int))) + 2)).toNat)) (v := (0, v75)) (by omega) (roF.t (roF.z (a := 126) (b := ((((2477 + (9 * (s : Int))) + 1)).toNat)) (v := (0, x37)) (by omega) (roF.t (roF.z (a := 126) (b := ((((2477 + (9 * (s : Int))) + 6)).toNat)) (v := (0, 0)) (by omega) (roF.t (roF.z (a := 126) (b := (((2477 + (9 * (s : Int)))).toNat)) (v := (0, 7)) (by omega) (roF.t (roF.z (a := 121) (b := 25) (v := (0, ((s : Int) + 1))) (by omega) roF.rfl) ft15)) ft30)) ft38)) ft45)))
              · show vP D T N 299 13 g39 [some (2, 121)] [(0, 0)] _
                refine vP_hv (fun hv39 => ?_)
                refine v_ret (hi_X12_readCopy_13 hT) (Or.inl rfl) ?_
                show vP D T N 305 43 g39 [some (2, 121), some (0, (2477 + (9 * (s : Int)))), some (0, 0)] [(0, 0), (0, ((2477 + (9 * (s : Int))) + 1)), (2, 126)] _
                refine v_ast (r := 126) (hz_X12_readTest hT _ _ rfl) rfl rfl (fun ha88 hb89 hf90 => ?_)
                refine v_load (v := (2, 121)) (hz_X12_readTest hT _ _ rfl) rfl rfl ?_
                refine v_load (v := (2, 121)) (hz_X12_readTest hT _ _ rfl) rfl rfl ?_
                refine v_call (w := 1) [some (2, 121)] hO (hz_X12_readTest hT _ _ rfl) rfl rfl (rb_any_isAtWord hT hO (fun v91 => ?_))
                · show vP D T N 305 49 (zset g39 126 ((((2477 + (9 * (s : Int))) + 1)).toNat) (0, 0)) [some (2, 121), some (0, (2477 + (9 * (s : Int)))), some (0, 0)] [(0, v91), (2, 121)] _
                  refine v_call (w := 2) [some (2, 121), some (0, v91)] hO (hz_X12_readTest hT _ _ rfl) rfl rfl (rx_mustB hT hO v91 (rE.z (r := 126) (k := ((((2477 + (9 * (s : Int))) + 1)).toNat)) (v := (0, 0)) (by decide) c39) ?_)
                  · show vP D T N 305 52 (zset g39 126 ((((2477 + (9 * (s : Int))) + 1)).toNat) (0, 0)) [some (2, 121), some (0, (2477 + (9 * (s : Int)))), some (0, 0)] [] _
                    refine v_load (v := (2, 121)) (hz_X12_readTest hT _ _ rfl) rfl rfl ?_
                    refine v_getR (c := 126) (r := 121) (hz_X12_readTest hT _ _ rfl) rfl rfl rfl ?_
                    refine v_load (v := (0, (2477 + (9 * (s : Int))))) (hz_X12_readTest hT _ _ rfl) rfl rfl ?_
                    refine v_push (2) (hz_X12_readTest hT _ _ rfl) rfl ?_
                    refine v_bin (w := ((2477 + (9 * (s : Int))) + 2)) (hz_X12_readTest hT _ _ rfl) (hq_add (by omega) (by omega)) ?_
                    refine v_load (v := (2, 121)) (hz_X12_readTest hT _ _ rfl) rfl rfl ?_
                    refine v_push (0) (hz_X12_readTest hT _ _ rfl) rfl ?_
                    refine v_call (w := 4) [some (2, 121), some (0, 0), none, none] hO (hz_X12_readTest hT _ _ rfl) rfl rfl (rx_cellB_0 hT hO ((P 0 0)) ((P 0 1)) (rE.z (r := 126) (k := ((((2477 + (9 * (s : Int))) + 1)).toNat)) (v := (0, 0)) (by decide) c39) (Eq.trans (zset_ne (fun c => by omega)) ((Eq.trans (ft39 126 0 (by first | decide | exact fun c => by omega)) (Eq.trans (zset_ne (fun c => by omega)) ((Eq.trans (ft30 126 0 (by first | decide | exact fun c => by omega)) (Eq.trans (zset_ne (fun c => by omega)) ((Eq.trans (ft15 126 0 (by first | decide | exact fun c => by omega)) (Eq.trans (zset_ne (fun c => absurd c.1 (by decide))) (e0))))))))))) (Eq.trans (zset_ne (fun c => by omega)) ((Eq.trans (ft39 126 1 (by first | decide | exact fun c => by omega)) (Eq.trans (zset_ne (fun c => by omega)) ((Eq.trans (ft30 126 1 (by first | decide | exact fun c => by omega)) (Eq.trans (zset_ne (fun c => by omega)) ((Eq.trans (ft15 126 1 (by first | decide | exact fun c => by omega)) (Eq.trans (zset_ne (fun c => absurd c.1 (by decide))) (e1))))))))))) (by omega) (by omega) (fun v92 bva92 bvb92 => ?_))
                    · show vP D T N 305 64 (zset g39 126 ((((2477 + (9 * (s : Int))) + 1)).toNat) (0, 0)) [some (2, 121), some (0, (2477 + (9 * (s : Int)))), some (0, 0)] [(0, v92), (0, ((2477 + (9 * (s : Int))) + 2)), (2, 126)] _
                      refine v_ast (r := 126) (hi_X12_readTest_64 hT) rfl rfl (fun ha93 hb94 hf95 => ?_)
                      refine v_goto (hi_X12_readTest_65 hT) ?_
                      refine v_ret0 (hi_X12_readTest_172 hT) ?_
                      show vP D T N 301 186 (zset (zset g39 126 ((((2477 + (9 * (s : Int))) + 1)).toNat) (0, 0)) 126 ((((2477 + (9 * (s : Int))) + 2)).toNat) (0, v92)) [some (2, 121), some (0, (2477 + (9 * (s : Int)))), some (0, 7)] [] _
                      refine v_goto (hi_X12_readRest_186 hT) ?_
                      refine v_ret0 (hi_X12_readRest_210 hT) ?_
                      show vP D T N 304 132 (zset (zset g39 126 ((((2477 + (9 * (s : Int))) + 1)).toNat) (0, 0)) 126 ((((2477 + (9 * (s : Int))) + 2)).toNat) (0, v92)) [some (2, 121), some (0, (d : Int)), some (0, 7), some (0, 1), some (0, (2477 + (9 * (s : Int))))] [] _
                      refine v_load (v := (2, 121)) (hi_X12_readStep_132 hT) rfl rfl ?_
                      refine v_load (v := (2, 121)) (hi_X12_readStep_133 hT) rfl rfl ?_
                      refine v_push (59) (hi_X12_readStep_134 hT) rfl ?_
                      refine v_call (w := 2) [some (2, 121), some (0, 59)] hO (hi_X12_readStep_136 hT) rfl rfl (rb_any_isSign hT hO (fun v96 => ?_))
                      · show vP D T N 304 139 (zset (zset g39 126 ((((2477 + (9 * (s : Int))) + 1)).toNat) (0, 0)) 126 ((((2477 + (9 * (s : Int))) + 2)).toNat) (0, v92)) [some (2, 121), some (0, (d : Int)), some (0, 7), some (0, 1), some (0, (2477 + (9 * (s : Int))))] [(0, v96), (2, 121)] _
                        refine v_call (w := 2) [some (2, 121), some (0, v96)] hO (hi_X12_readStep_139 hT) rfl rfl (rx_mustB hT hO v96 (rE.z (r := 126) (k := ((((2477 + (9 * (s : Int))) + 2)).toNat)) (v := (0, v92)) (by decide) (rE.z (r := 126) (k := ((((2477 + (9 * (s : Int))) + 1)).toNat)) (v := (0, 0)) (by decide) c39)) ?_)
                        · show vP D T N 304 142 (zset (zset g39 126 ((((2477 + (9 * (s : Int))) + 1)).toNat) (0, 0)) 126 ((((2477 + (9 * (s : Int))) + 2)).toNat) (0, v92)) [some (2, 121), some (0, (d : Int)), some (0, 7), some (0, 1), some (0, (2477 + (9 * (s : Int))))] [] _
                          refine v_load (v := (0, 1)) (hi_X12_readStep_142 hT) rfl rfl ?_
                          refine v_if (hi_X12_readStep_143 hT) (fun hc97 => absurd (show (1 : Int) = 0 from hc97) nz29) (fun _ => ?_)
                          refine v_load (v := (2, 121)) (hi_X12_readStep_146 hT) rfl rfl ?_
                          refine v_getf (v := (0, e39.1)) (r := 121) (hi_X12_readStep_147 hT) rfl rfl (fun _ => Eq.trans (Eq.trans (zset_ne (fun c => absurd c.1 (by decide))) (zset_ne (fun c => absurd c.1 (by decide)))) (c39.1)) ?_
                          refine v_if (hi_X12_readStep_150 hT) (fun hc98 => absurd (show e39.1 = 0 from hc98) (by have := c39.2.1; omega)) (fun _ => ?_)
                          refine v_load (v := (0, 1)) (hi_X12_readStep_170 hT) rfl rfl ?_
                          refine v_if (hi_X12_readStep_171 hT) (fun hc99 => absurd (show (1 : Int) = 0 from hc99) nz29) (fun _ => ?_)
                          refine v_load (v := (2, 121)) (hi_X12_readStep_174 hT) rfl rfl ?_
                          refine v_load (v := (2, 121)) (hi_X12_readStep_175 hT) rfl rfl ?_
                          refine v_call (w := 1) [some (2, 121)] hO (hi_X12_readStep_176 hT) rfl rfl (rb_any_isEnd hT hO (fun v100 => ?_))
                          · show vP D T N 304 179 (zset (zset g39 126 ((((2477 + (9 * (s : Int))) + 1)).toNat) (0, 0)) 126 ((((2477 + (9 * (s : Int))) + 2)).toNat) (0, v92)) [some (2, 121), some (0, (d : Int)), some (0, 7), some (0, 1), some (0, (2477 + (9 * (s : Int))))] [(0, v100), (2, 121)] _
                            refine v_call (w := 2) [some (2, 121), some (0, v100)] hO (hi_X12_readStep_179 hT) rfl rfl (rx_mustB hT hO v100 (rE.z (r := 126) (k := ((((2477 + (9 * (s : Int))) + 2)).toNat)) (v := (0, v92)) (by decide) (rE.z (r := 126) (k := ((((2477 + (9 * (s : Int))) + 1)).toNat)) (v := (0, 0)) (by decide) c39)) ?_)
                            · show vP D T N 304 182 (zset (zset g39 126 ((((2477 + (9 * (s : Int))) + 1)).toNat) (0, 0)) 126 ((((2477 + (9 * (s : Int))) + 2)).toNat) (0, v92)) [some (2, 121), some (0, (d : Int)), some (0, 7), some (0, 1), some (0, (2477 + (9 * (s : Int))))] [] _
                              refine v_load (v := (2, 121)) (hi_X12_readStep_182 hT) rfl rfl ?_
                              refine v_load (v := (2, 121)) (hi_X12_readStep_183 hT) rfl rfl ?_
                              refine v_push (59) (hi_X12_readStep_184 hT) rfl ?_
                              refine v_call (w := 2) [some (2, 121), some (0, 59)] hO (hi_X12_readStep_186 hT) rfl rfl (rb_any_isSign hT hO (fun v101 => ?_))
                              · show vP D T N 304 189 (zset (zset g39 126 ((((2477 + (9 * (s : Int))) + 1)).toNat) (0, 0)) 126 ((((2477 + (9 * (s : Int))) + 2)).toNat) (0, v92)) [some (2, 121), some (0, (d : Int)), some (0, 7), some (0, 1), some (0, (2477 + (9 * (s : Int))))] [(0, v101), (2, 121)] _
                                refine v_call (w := 2) [some (2, 121), some (0, v101)] hO (hi_X12_readStep_189 hT) rfl rfl (rx_mustB hT hO v101 (rE.z (r := 126) (k := ((((2477 + (9 * (s : Int))) + 2)).toNat)) (v := (0, v92)) (by decide) (rE.z (r := 126) (k := ((((2477 + (9 * (s : Int))) + 1)).toNat)) (v := (0, 0)) (by decide) c39)) ?_)
                                · show vP D T N 304 192 (zset (zset g39 126 ((((2477 + (9 * (s : Int))) + 1)).toNat) (0, 0)) 126 ((((2477 + (9 * (s : Int))) + 2)).toNat) (0, v92)) [some (2, 121), some (0, (d : Int)), some (0, 7), some (0, 1), some (0, (2477 + (9 * (s : Int))))] [] _
                                  refine v_load (v := (2, 121)) (hi_X12_readStep_192 hT) rfl rfl ?_
                                  refine v_getR (c := 126) (r := 121) (hi_X12_readStep_193 hT) rfl rfl rfl ?_
                                  refine v_load (v := (0, (2477 + (9 * (s : Int))))) (hi_X12_readStep_196 hT) rfl rfl ?_
                                  refine v_push (8) (hi_X12_readStep_198 hT) rfl ?_
                                  refine v_bin (w := ((2477 + (9 * (s : Int))) + 8)) (hi_X12_readStep_200 hT) (hq_add (by omega) (by omega)) ?_
                                  refine v_load (v := (2, 121)) (hi_X12_readStep_201 hT) rfl rfl ?_
                                  refine v_getf (v := (0, ((s : Int) + 1))) (r := 121) (hi_X12_readStep_202 hT) rfl rfl (fun _ => Eq.trans (Eq.trans (zset_ne (fun c => absurd c.1 (by decide))) (zset_ne (fun c => absurd c.1 (by decide)))) ((Eq.trans (ft39 121 25 (by first | decide | exact fun c => by omega)) (Eq.trans (zset_ne (fun c => absurd c.1 (by decide))) ((Eq.trans (ft30 121 25 (by first | decide | exact fun c => by omega)) (Eq.trans (zset_ne (fun c => absurd c.1 (by decide))) ((Eq.trans (ft15 121 25 (by first | decide | exact fun c => by omega)) (zset_same)))))))))) ?_
                                  refine v_ast (r := 126) (hi_X12_readStep_205 hT) rfl rfl (fun ha102 hb103 hf104 => ?_)
                                  refine v_ret0 (hi_X12_readStep_206 hT) ?_
                                  exact er _ _ (by simp only [pStep, hE, hsw, htw, hop, h15, opW15, harg, pNm, pWord, pSg, (show ¬ 30 ≤ s from by omega), (show ¬ 3 ≤ d from by omega), q39, ne_eq, not_true_eq_false, not_false_eq_true, if_true, if_false, eq_self, eb_l, eb_r, and_true, true_and, and_false, false_and]) (rE.z (r := 126) (k := ((((2477 + (9 * (s : Int))) + 8)).toNat)) (v := (0, ((s : Int) + 1))) (by decide) (rE.z (r := 126) (k := ((((2477 + (9 * (s : Int))) + 2)).toNat)) (v := (0, v92)) (by decide) (rE.z (r := 126) (k := ((((2477 + (9 * (s : Int))) + 1)).toNat)) (v := (0, 0)) (by decide) c39))) (roF.z (a := 126) (b := ((((2477 + (9 * (s : Int))) + 8)).toNat)) (v := (0, ((s : Int) + 1))) (by omega) (roF.z (a := 126) (b := ((((2477 + (9 * (s : Int))) + 2)).toNat)) (v := (0, v92)) (by omega) (roF.z (a := 126) (b := ((((2477 + (9 * (s : Int))) + 1)).toNat)) (v := (0, 0)) (by omega) (roF.t (roF.z (a := 126) (b := ((((2477 + (9 * (s : Int))) + 6)).toNat)) (v := (0, 0)) (by omega) (roF.t (roF.z (a := 126) (b := (((2477 + (9 * (s : Int)))).toNat)) (v := (0, 7)) (by omega) (roF.t (roF.z (a := 121) (b := 25) (v := (0, ((s : Int) + 1))) (by omega) roF.rfl) ft15)) ft30)) ft39))))
theorem ro7_15_17 {D : zD} {T : zT} (hT : hTab T) (hO : vOK T) {N : Nat} {h : zH} {Q : zR → Prop} {B : Nat → Int} {n m i s d : Nat} {τ P : PT} (hv0 : zHv h) (hX : rX B n m τ i h) (e0 : h 126 0 = (0, P 0 0)) (e1 : h 126 1 = (0, P 0 1)) (e2 : h 126 2 = (0, P 0 2)) (e3 : h 126 3 = (0, P 0 3)) (hN : rNm P h) (hb : (0 ≤ P 0 0 ∧ P 0 0 ≤ 8) ∧ (0 ≤ P 0 1 ∧ P 0 1 ≤ 6) ∧ (0 ≤ P 0 2 ∧ P 0 2 ≤ 3) ∧ (0 ≤ P 0 3 ∧ P 0 3 ≤ 6)) (hs : h 121 25 = (0, (s : Int))) (bs : s ≤ 30) (bd : d ≤ 3) (h1 : τ 0 i = 1) (h3 : τ 3 i = 15) (h1b : τ 0 (i + 1) = 1) (h3b : τ 3 (i + 1) = 17) (ih : ∀ g s' d' i' a K u v j, pStep τ P s d i = .inr (s', d', i') → rX B n m τ i' g → g 121 25 = (0, a) → a = (s' : Int) → s' ≤ 30 → roF h g → pItV τ P i = .inr (K, u, v, j) → (∀ e, ¬ (2477 + 9 * s ≤ e ∧ e < 2486 + 9 * s) → g 126 e = h 126 e) → rI7 (P 0 0) g s K u v → vP D T N 304 142 g [some (2, 121), some (0, (d : Int)), some (0, 7), some (0, 1), some (0, 2477 + 9 * (s : Int))] [] Q) (er : ∀ g e, pStep τ P s d i = .inl e → rE e g → roF h g → Q (g, none)) :
    vP D T (N + 1) 304 0 h [some (2, 121), some (0, (d : Int)), none, none, none] [] Q := by
  have h0 : τ 0 i ≠ 0 := by omega
  have hE : (bW τ 20 i) = 0 := bW_0.mpr (fun c => absurd (h3.symm.trans c.2) (by decide))
  have hsw : ¬ swd τ i < 0 := by rw [swd_v h1, h3]; decide
  have htw : ¬ twd τ (i + 1) < 0 := by rw [twd_v h1b, h3b]; decide
  have hop : opW (τ 3 i) = true := by rw [h3]; rfl
  have h15 : τ 3 i = 15 := h3
  have harg : ∀ j, oArg τ P (τ 3 (i + 1)) j = (eb (pNm τ P j) fun a => .inr a.2) := fun j => by rw [h3b]; rfl
  have hargV : ∀ j, oArV τ P 17 j = (eb (pNm τ P j) fun a => .inr (a.1, 0, a.2)) := fun _ => rfl
  refine v_loadS (v := (2, 121)) (hi_X12_readStep_0 hT) rfl rfl ?_
  refine v_call (w := 1) [some (2, 121)] hO (hi_X12_readStep_1 hT) rfl rfl (rx_stepK hT hO 7 hX h1 h3 (by decide) ?_)
  · show vP D T N 304 4 h [some (2, 121), some (0, (d : Int)), none, none, none] [(0, 7)] _
    refine v_store1 [some (2, 121), some (0, (d : Int)), some (0, 7), none, none] (hi_X12_readStep_4 hT) ⟨rfl, Nat.ne_of_beq_eq_false rfl⟩ (Nat.le_of_ble_eq_true rfl) rfl ?_
    refine v_load (v := (0, 7)) (hi_X12_readStep_5 hT) rfl rfl ?_
    refine v_push (7) (hi_X12_readStep_6 hT) rfl ?_
    refine v_ic (hi_X12_readStep_8 hT) (fun _ => ?_) (fun hc1 => absurd (show (7 : Int) = 7 from (by decide)) hc1)
    refine v_push (1) (hi_X12_readStep_17 hT) rfl ?_
    refine v_goto (hi_X12_readStep_18 hT) ?_
    refine v_store1 [some (2, 121), some (0, (d : Int)), some (0, 7), some (0, 1), none] (hi_X12_readStep_22 hT) ⟨rfl, Nat.ne_of_beq_eq_false rfl⟩ (Nat.le_of_ble_eq_true rfl) rfl ?_
    refine v_load (v := (0, 7)) (hi_X12_readStep_23 hT) rfl rfl ?_
    refine v_if (hi_X12_readStep_24 hT) (fun hc2 => absurd (show (7 : Int) < 0 from hc2) (by decide)) (fun _ => ?_)
    refine v_load (v := (2, 121)) (hi_X12_readStep_31 hT) rfl rfl ?_
    refine v_getf (v := (0, 0)) (r := 121) (hi_X12_readStep_32 hT) rfl rfl (fun _ => hX.b) ?_
    refine v_if (hi_X12_readStep_35 hT) (fun _ => ?_) (fun hc3 => absurd (show (0 : Int) = 0 from (by decide)) hc3)
    refine v_load (v := (2, 121)) (hi_X12_readStep_38 hT) rfl rfl ?_
    refine v_getf (v := (0, (s : Int))) (r := 121) (hi_X12_readStep_39 hT) rfl rfl (fun _ => hs) ?_
    refine v_push (30) (hi_X12_readStep_42 hT) rfl ?_
    refine v_ic (hi_X12_readStep_44 hT) (fun hc4 => ?_) (fun hc4 => ?_)
    · have hc4 : (s : Int) = 30 := hc4
      refine v_load (v := (2, 121)) (hi_X12_readStep_47 hT) rfl rfl ?_
      refine v_push (6) (hi_X12_readStep_48 hT) rfl ?_
      refine v_load (v := (2, 121)) (hi_X12_readStep_50 hT) rfl rfl ?_
      refine v_getf (v := (0, (τ 1 i))) (r := 121) (hi_X12_readStep_51 hT) rfl rfl (fun _ => hX.ps) ?_
      refine v_call (w := 3) [some (2, 121), some (0, 6), some (0, (τ 1 i))] hO (hi_X12_readStep_54 hT) rfl rfl (rx_fail hT hO 6 hX h1 (by decide) (fun g5 ft5 c5 => ?_))
      · show vP D T N 304 57 g5 [some (2, 121), some (0, (d : Int)), some (0, 7), some (0, 1), none] [] _
        refine vP_hv (fun hv5 => ?_)
        refine v_load (v := (2, 121)) (hi_X12_readStep_57 hT) rfl rfl ?_
        refine v_getf (v := (0, (eF τ i 6).1)) (r := 121) (hi_X12_readStep_58 hT) rfl rfl (fun _ => c5.1) ?_
        refine v_if (hi_X12_readStep_61 hT) (fun hc6 => absurd (show (eF τ i 6).1 = 0 from hc6) (by have := c5.2.1; omega)) (fun _ => ?_)
        refine v_load (v := (2, 121)) (hi_X12_readStep_83 hT) rfl rfl ?_
        refine v_getf (v := (0, (eF τ i 6).1)) (r := 121) (hi_X12_readStep_84 hT) rfl rfl (fun _ => c5.1) ?_
        refine v_if (hi_X12_readStep_87 hT) (fun _ => ?_) (fun hc7 => absurd (show 0 < (eF τ i 6).1 from c5.2.1) hc7)
        refine v_ret0 (hi_X12_readStep_90 hT) ?_
        exact er _ _ (by simp only [pStep, hE, hsw, htw, hop, h15, opW15, harg, pNm, pWord, pSg, (show 30 ≤ s from by omega), ne_eq, not_true_eq_false, not_false_eq_true, if_true, if_false, eq_self, eb_l, eb_r, and_true, true_and, and_false, false_and]) c5 (roF.t roF.rfl ft5)
    · have hc4 : (s : Int) ≠ 30 := hc4
      refine v_load (v := (2, 121)) (hi_X12_readStep_57 hT) rfl rfl ?_
      refine v_getf (v := (0, 0)) (r := 121) (hi_X12_readStep_58 hT) rfl rfl (fun _ => hX.b) ?_
      refine v_if (hi_X12_readStep_61 hT) (fun _ => ?_) (fun hc8 => absurd (show (0 : Int) = 0 from (by decide)) hc8)
      refine v_load (v := (0, 1)) (hi_X12_readStep_64 hT) rfl rfl ?_
      refine v_if (hi_X12_readStep_65 hT) (fun hc9 => absurd (show (1 : Int) = 0 from hc9) (by decide)) (fun _ => ?_)
      refine v_load (v := (0, (d : Int))) (hi_X12_readStep_68 hT) rfl rfl ?_
      refine v_push (3) (hi_X12_readStep_69 hT) rfl ?_
      refine v_ic (hi_X12_readStep_70 hT) (fun hc10 => ?_) (fun hc10 => ?_)
      · have hc10 : (d : Int) = 3 := hc10
        refine v_load (v := (2, 121)) (hi_X12_readStep_73 hT) rfl rfl ?_
        refine v_push (7) (hi_X12_readStep_74 hT) rfl ?_
        refine v_load (v := (2, 121)) (hi_X12_readStep_76 hT) rfl rfl ?_
        refine v_getf (v := (0, (τ 1 i))) (r := 121) (hi_X12_readStep_77 hT) rfl rfl (fun _ => hX.ps) ?_
        refine v_call (w := 3) [some (2, 121), some (0, 7), some (0, (τ 1 i))] hO (hi_X12_readStep_80 hT) rfl rfl (rx_fail hT hO 7 hX h1 (by decide) (fun g11 ft11 c11 => ?_))
        · show vP D T N 304 83 g11 [some (2, 121), some (0, (d : Int)), some (0, 7), some (0, 1), none] [] _
          refine vP_hv (fun hv11 => ?_)
          refine v_load (v := (2, 121)) (hi_X12_readStep_83 hT) rfl rfl ?_
          refine v_getf (v := (0, (eF τ i 7).1)) (r := 121) (hi_X12_readStep_84 hT) rfl rfl (fun _ => c11.1) ?_
          refine v_if (hi_X12_readStep_87 hT) (fun _ => ?_) (fun hc12 => absurd (show 0 < (eF τ i 7).1 from c11.2.1) hc12)
          refine v_ret0 (hi_X12_readStep_90 hT) ?_
          exact er _ _ (by simp only [pStep, hE, hsw, htw, hop, h15, opW15, harg, pNm, pWord, pSg, (show ¬ 30 ≤ s from by omega), (show 3 ≤ d from by omega), ne_eq, not_true_eq_false, not_false_eq_true, if_true, if_false, eq_self, eb_l, eb_r, and_true, true_and, and_false, false_and]) c11 (roF.t roF.rfl ft11)
      · have hc10 : (d : Int) ≠ 3 := hc10
        refine v_load (v := (2, 121)) (hi_X12_readStep_83 hT) rfl rfl ?_
        refine v_getf (v := (0, 0)) (r := 121) (hi_X12_readStep_84 hT) rfl rfl (fun _ => hX.b) ?_
        refine v_if (hi_X12_readStep_87 hT) (fun hc13 => absurd (show 0 < (0 : Int) from hc13) (by decide)) (fun _ => ?_)
        refine v_push (2477) (hi_X12_readStep_91 hT) rfl ?_
        refine v_push (9) (hi_X12_readStep_94 hT) rfl ?_
        refine v_load (v := (2, 121)) (hi_X12_readStep_96 hT) rfl rfl ?_
        refine v_getf (v := (0, (s : Int))) (r := 121) (hi_X12_readStep_97 hT) rfl rfl (fun _ => hs) ?_
        refine v_bin (w := (9 * (s : Int))) (hi_X12_readStep_100 hT) (hq_mul (by omega) (by omega)) ?_
        refine v_bin (w := (2477 + (9 * (s : Int)))) (hi_X12_readStep_101 hT) (hq_add (by omega) (by omega)) ?_
        refine v_store1 [some (2, 121), some (0, (d : Int)), some (0, 7), some (0, 1), some (0, (2477 + (9 * (s : Int))))] (hi_X12_readStep_102 hT) ⟨rfl, Nat.ne_of_beq_eq_false rfl⟩ (Nat.le_of_ble_eq_true rfl) rfl ?_
        refine v_load (v := (2, 121)) (hi_X12_readStep_104 hT) rfl rfl ?_
        refine v_dup (hi_X12_readStep_105 hT) (Nat.ne_of_beq_eq_false rfl) ?_
        refine v_getf (v := (0, (s : Int))) (r := 121) (hi_X12_readStep_106 hT) rfl rfl (fun _ => hs) ?_
        refine v_push (1) (hi_X12_readStep_109 hT) rfl ?_
        refine v_bin (w := ((s : Int) + 1)) (hi_X12_readStep_110 hT) (hq_add (by omega) (by omega)) ?_
        refine v_putf (r := 121) hO (hi_X12_readStep_111 hT) rfl (fun hf14 => ?_)
        refine v_load (v := (2, 121)) (hi_X12_readStep_114 hT) rfl rfl ?_
        refine v_call (w := 2) [some (2, 121), none] hO (hi_X12_readStep_115 hT) rfl rfl (rx_next hT hO (rX.zf (k := 25) (v := (0, ((s : Int) + 1))) (by decide) hX) (ne_10 h1) (ne_14 h1) (fun g15 ft15 hX15 => ?_))
        · show vP D T N 304 118 g15 [some (2, 121), some (0, (d : Int)), some (0, 7), some (0, 1), some (0, (2477 + (9 * (s : Int))))] [] _
          refine vP_hv (fun hv15 => ?_)
          refine v_load (v := (2, 121)) (hi_X12_readStep_118 hT) rfl rfl ?_
          refine v_getR (c := 126) (r := 121) (hi_X12_readStep_119 hT) rfl rfl rfl ?_
          refine v_load (v := (0, (2477 + (9 * (s : Int))))) (hi_X12_readStep_122 hT) rfl rfl ?_
          refine v_load (v := (0, 7)) (hi_X12_readStep_124 hT) rfl rfl ?_
          refine v_ast (r := 126) (hi_X12_readStep_125 hT) rfl rfl (fun ha16 hb17 hf18 => ?_)
          refine v_load (v := (2, 121)) (hi_X12_readStep_126 hT) rfl rfl ?_
          refine v_load (v := (0, (2477 + (9 * (s : Int))))) (hi_X12_readStep_127 hT) rfl rfl ?_
          refine v_call (w := 3) [some (2, 121), some (0, (2477 + (9 * (s : Int)))), none] hO (hi_X12_readStep_129 hT) rfl rfl ?_
          refine v_load (v := (2, 121)) (hi_X12_readRest_0 hT) rfl rfl ?_
          refine v_getR (c := 126) (r := 121) (hi_X12_readRest_1 hT) rfl rfl rfl ?_
          refine v_load (v := (0, (2477 + (9 * (s : Int))))) (hi_X12_readRest_4 hT) rfl rfl ?_
          refine v_aldV (v := (0, 7)) (r := 126) (hi_X12_readRest_5 hT) rfl rfl (fun _ _ _ => zset_same) (fun ha19 hb20 => ?_)
          refine v_store1 [some (2, 121), some (0, (2477 + (9 * (s : Int)))), some (0, 7)] (hi_X12_readRest_6 hT) ⟨rfl, Nat.ne_of_beq_eq_false rfl⟩ (Nat.le_of_ble_eq_true rfl) rfl ?_
          refine v_load (v := (0, 7)) (hi_X12_readRest_7 hT) rfl rfl ?_
          refine v_if (hi_X12_readRest_8 hT) (fun hc21 => absurd (show (7 : Int) = 0 from hc21) (by decide)) (fun _ => ?_)
          refine v_load (v := (0, 7)) (hi_X12_readRest_11 hT) rfl rfl ?_
          refine v_push (2) (hi_X12_readRest_12 hT) rfl ?_
          refine v_ic (hi_X12_readRest_13 hT) (fun hc22 => absurd (show (7 : Int) = 2 from hc22) (by decide)) (fun _ => ?_)
          refine v_load (v := (0, 7)) (hi_X12_readRest_52 hT) rfl rfl ?_
          refine v_push (1) (hi_X12_readRest_53 hT) rfl ?_
          refine v_ic (hi_X12_readRest_54 hT) (fun hc23 => absurd (show (7 : Int) = 1 from hc23) (by decide)) (fun _ => ?_)
          refine v_load (v := (0, 7)) (hi_X12_readRest_72 hT) rfl rfl ?_
          refine v_push (3) (hi_X12_readRest_73 hT) rfl ?_
          refine v_ic (hi_X12_readRest_74 hT) (fun hc24 => absurd (show (7 : Int) = 3 from hc24) (by decide)) (fun _ => ?_)
          refine v_load (v := (0, 7)) (hi_X12_readRest_112 hT) rfl rfl ?_
          refine v_push (4) (hi_X12_readRest_113 hT) rfl ?_
          refine v_ic (hi_X12_readRest_114 hT) (fun hc25 => absurd (show (7 : Int) = 4 from hc25) (by decide)) (fun _ => ?_)
          refine v_load (v := (0, 7)) (hi_X12_readRest_155 hT) rfl rfl ?_
          refine v_push (5) (hi_X12_readRest_156 hT) rfl ?_
          refine v_ic (hi_X12_readRest_157 hT) (fun hc26 => absurd (show (7 : Int) = 5 from hc26) (by decide)) (fun _ => ?_)
          refine v_load (v := (0, 7)) (hi_X12_readRest_175 hT) rfl rfl ?_
          refine v_push (7) (hi_X12_readRest_176 hT) rfl ?_
          refine v_ic (hi_X12_readRest_178 hT) (fun _ => ?_) (fun hc27 => absurd (show (7 : Int) = 7 from (by decide)) hc27)
          refine v_load (v := (2, 121)) (hi_X12_readRest_181 hT) rfl rfl ?_
          refine v_load (v := (0, (2477 + (9 * (s : Int))))) (hi_X12_readRest_182 hT) rfl rfl ?_
          refine v_call (w := 3) [some (2, 121), some (0, (2477 + (9 * (s : Int)))), none] hO (hi_X12_readRest_183 hT) rfl rfl ?_
          refine v_load (v := (2, 121)) (hi_X12_readTest_0 hT) rfl rfl ?_
          refine v_call (w := 1) [some (2, 121)] hO (hi_X12_readTest_1 hT) rfl rfl (rx_testK hT hO 1 (rX.z (r := 126) (k := (((2477 + (9 * (s : Int)))).toNat)) (v := (0, 7)) (by decide) hX15) h1b h3b (by decide) ?_)
          · show vP D T N 305 4 (zset g15 126 (((2477 + (9 * (s : Int)))).toNat) (0, 7)) [some (2, 121), some (0, (2477 + (9 * (s : Int)))), none] [(0, 1)] _
            refine v_store1 [some (2, 121), some (0, (2477 + (9 * (s : Int)))), some (0, 1)] (hi_X12_readTest_4 hT) ⟨rfl, Nat.ne_of_beq_eq_false rfl⟩ (Nat.le_of_ble_eq_true rfl) rfl ?_
            refine v_load (v := (2, 121)) (hi_X12_readTest_5 hT) rfl rfl ?_
            refine v_load (v := (0, 1)) (hi_X12_readTest_6 hT) rfl rfl ?_
            refine v_if (hi_X12_readTest_7 hT) (fun hc28 => absurd (show (1 : Int) < 0 from hc28) (by decide)) (fun _ => ?_)
            refine v_push (1) (hz_X12_readTest hT _ _ rfl) rfl ?_
            refine v_goto (hz_X12_readTest hT _ _ rfl) ?_
            refine v_call (w := 2) [some (2, 121), some (0, 1)] hO (hi_X12_readTest_15 hT) rfl rfl (rx_must hT hO 1 (rX.z (r := 126) (k := (((2477 + (9 * (s : Int)))).toNat)) (v := (0, 7)) (by decide) hX15) (fun _ => ⟨ne_10 h1b, ne_14 h1b⟩) (k2 := fun _ _ c => absurd c (by decide)) (fun g30 ft30 nz29 hX30 => ?_))
            · show vP D T N 305 18 g30 [some (2, 121), some (0, (2477 + (9 * (s : Int)))), some (0, 1)] [] _
              refine vP_hv (fun hv30 => ?_)
              refine v_load (v := (2, 121)) (hi_X12_readTest_18 hT) rfl rfl ?_
              refine v_getR (c := 126) (r := 121) (hi_X12_readTest_19 hT) rfl rfl rfl ?_
              refine v_load (v := (0, (2477 + (9 * (s : Int))))) (hi_X12_readTest_22 hT) rfl rfl ?_
              refine v_push (6) (hi_X12_readTest_23 hT) rfl ?_
              refine v_bin (w := ((2477 + (9 * (s : Int))) + 6)) (hi_X12_readTest_25 hT) (hq_add (by omega) (by omega)) ?_
              refine v_load (v := (0, 1)) (hi_X12_readTest_26 hT) rfl rfl ?_
              refine v_ast (r := 126) (hi_X12_readTest_27 hT) rfl rfl (fun ha31 hb32 hf33 => ?_)
              refine v_load (v := (0, 1)) (hi_X12_readTest_28 hT) rfl rfl ?_
              refine v_if (hi_X12_readTest_29 hT) (fun hc34 => absurd (show (1 : Int) = 0 from hc34) nz29) (fun _ => ?_)
              refine v_load (v := (0, 1)) (hz_X12_readTest hT _ _ rfl) rfl rfl ?_
              refine v_push (1) (hz_X12_readTest hT _ _ rfl) rfl ?_
              refine v_ic (hz_X12_readTest hT _ _ rfl) (fun _ => ?_) (fun hc35 => absurd (show (1 : Int) = 1 from (by decide)) hc35)
              refine v_load (v := (2, 121)) (hz_X12_readTest hT _ _ rfl) rfl rfl ?_
              refine v_getR (c := 126) (r := 121) (hz_X12_readTest hT _ _ rfl) rfl rfl rfl ?_
              refine v_load (v := (0, (2477 + (9 * (s : Int))))) (hz_X12_readTest hT _ _ rfl) rfl rfl ?_
              refine v_push (1) (hz_X12_readTest hT _ _ rfl) rfl ?_
              refine v_bin (w := ((2477 + (9 * (s : Int))) + 1)) (hz_X12_readTest hT _ _ rfl) (hq_add (by omega) (by omega)) ?_
              refine v_load (v := (2, 121)) (hz_X12_readTest hT _ _ rfl) rfl rfl ?_
              refine v_call (w := 2) [some (2, 121), none] hO (hz_X12_readTest hT _ _ rfl) rfl rfl ?_
              refine v_load (v := (2, 121)) (hz_X12_readCompanyName hT _ _ rfl) rfl rfl ?_
              refine v_getf (v := (0, 0)) (r := 121) (hz_X12_readCompanyName hT _ _ rfl) rfl rfl (fun _ => Eq.trans (zset_ne (fun c => absurd c.1 (by decide))) (hX30.b)) ?_
              refine v_if (hz_X12_readCompanyName hT _ _ rfl) (fun _ => ?_) (fun hc36 => absurd (show (0 : Int) = 0 from (by decide)) hc36)
              refine v_load (v := (2, 121)) (hz_X12_readCompanyName hT _ _ rfl) rfl rfl ?_
              refine v_call (w := 1) [some (2, 121)] hO (hz_X12_readCompanyName hT _ _ rfl) rfl rfl (rx_isName hT hO (rX.z (r := 126) (k := ((((2477 + (9 * (s : Int))) + 6)).toNat)) (v := (0, 1)) (by decide) hX30) ?_)
              · show vP D T N 297 11 (zset g30 126 ((((2477 + (9 * (s : Int))) + 6)).toNat) (0, 1)) [some (2, 121), none] [(0, (bN τ (i + 1 + 1)))] _
                refine v_if (hz_X12_readCompanyName hT _ _ rfl) (fun hc37 => ?_) (fun hc37 => ?_)
                · have hc37 : (bN τ (i + 1 + 1)) = 0 := hc37
                  refine v_load (v := (2, 121)) (hz_X12_readCompanyName hT _ _ rfl) rfl rfl ?_
                  refine v_call (w := 1) [some (2, 121)] hO (hz_X12_readCompanyName hT _ _ rfl) rfl rfl (rx_wrong hT hO (rX.z (r := 126) (k := ((((2477 + (9 * (s : Int))) + 6)).toNat)) (v := (0, 1)) (by decide) hX30) (fun g38 ft38 c38 => ?_))
                  · show vP D T N 297 18 g38 [some (2, 121), none] [] _
                    refine vP_hv (fun hv38 => ?_)
                    refine v_load (v := (2, 121)) (hi_X12_readCompanyName_18 hT) rfl rfl ?_
                    refine v_getf (v := (0, (eF τ (i + 1 + 1) 2).1)) (r := 121) (hi_X12_readCompanyName_19 hT) rfl rfl (fun _ => c38.1) ?_
                    refine v_if (hi_X12_readCompanyName_22 hT) (fun hc39 => absurd (show (eF τ (i + 1 + 1) 2).1 = 0 from hc39) (by have := c38.2.1; omega)) (fun _ => ?_)
                    refine v_push (0) (hz_X12_readCompanyName hT _ _ rfl) rfl ?_
                    refine v_store1 [some (2, 121), some (0, 0)] (hi_X12_readCompanyName_40 hT) ⟨rfl, Nat.ne_of_beq_eq_false rfl⟩ (Nat.le_of_ble_eq_true rfl) rfl ?_
                    refine v_load (v := (2, 121)) (hi_X12_readCompanyName_41 hT) rfl rfl ?_
                    refine v_getf (v := (0, (eF τ (i + 1 + 1) 2).1)) (r := 121) (hi_X12_readCompanyName_42 hT) rfl rfl (fun _ => c38.1) ?_
                    refine v_if (hi_X12_readCompanyName_45 hT) (fun hc40 => absurd (show (eF τ (i + 1 + 1) 2).1 = 0 from hc40) (by have := c38.2.1; omega)) (fun _ => ?_)
                    refine v_load (v := (2, 121)) (hi_X12_readCompanyName_61 hT) rfl rfl ?_
                    refine v_push (1) (hi_X12_readCompanyName_62 hT) rfl ?_
                    refine v_call (w := 2) [some (2, 121), some (0, 1)] hO (hi_X12_readCompanyName_63 hT) rfl rfl (rx_mustB hT hO 1 c38 ?_)
                    · show vP D T N 297 66 g38 [some (2, 121), some (0, 0)] [] _
                      refine v_load (v := (0, 0)) (hi_X12_readCompanyName_66 hT) rfl rfl ?_
                      refine v_ret (hi_X12_readCompanyName_67 hT) (Or.inl rfl) ?_
                      show vP D T N 305 84 g38 [some (2, 121), some (0, (2477 + (9 * (s : Int)))), some (0, 1)] [(0, 0), (0, ((2477 + (9 * (s : Int))) + 1)), (2, 126)] _
                      refine v_ast (r := 126) (hz_X12_readTest hT _ _ rfl) rfl rfl (fun ha41 hb42 hf43 => ?_)
                      refine v_goto (hz_X12_readTest hT _ _ rfl) ?_
                      refine v_ret0 (hi_X12_readTest_172 hT) ?_
                      show vP D T N 301 186 (zset g38 126 ((((2477 + (9 * (s : Int))) + 1)).toNat) (0, 0)) [some (2, 121), some (0, (2477 + (9 * (s : Int)))), some (0, 7)] [] _
                      refine v_goto (hi_X12_readRest_186 hT) ?_
                      refine v_ret0 (hi_X12_readRest_210 hT) ?_
                      show vP D T N 304 132 (zset g38 126 ((((2477 + (9 * (s : Int))) + 1)).toNat) (0, 0)) [some (2, 121), some (0, (d : Int)), some (0, 7), some (0, 1), some (0, (2477 + (9 * (s : Int))))] [] _
                      refine v_load (v := (2, 121)) (hi_X12_readStep_132 hT) rfl rfl ?_
                      refine v_load (v := (2, 121)) (hi_X12_readStep_133 hT) rfl rfl ?_
                      refine v_push (59) (hi_X12_readStep_134 hT) rfl ?_
                      refine v_call (w := 2) [some (2, 121), some (0, 59)] hO (hi_X12_readStep_136 hT) rfl rfl (rb_any_isSign hT hO (fun v44 => ?_))
                      · show vP D T N 304 139 (zset g38 126 ((((2477 + (9 * (s : Int))) + 1)).toNat) (0, 0)) [some (2, 121), some (0, (d : Int)), some (0, 7), some (0, 1), some (0, (2477 + (9 * (s : Int))))] [(0, v44), (2, 121)] _
                        refine v_call (w := 2) [some (2, 121), some (0, v44)] hO (hi_X12_readStep_139 hT) rfl rfl (rx_mustB hT hO v44 (rE.z (r := 126) (k := ((((2477 + (9 * (s : Int))) + 1)).toNat)) (v := (0, 0)) (by decide) c38) ?_)
                        · show vP D T N 304 142 (zset g38 126 ((((2477 + (9 * (s : Int))) + 1)).toNat) (0, 0)) [some (2, 121), some (0, (d : Int)), some (0, 7), some (0, 1), some (0, (2477 + (9 * (s : Int))))] [] _
                          refine v_load (v := (0, 1)) (hi_X12_readStep_142 hT) rfl rfl ?_
                          refine v_if (hi_X12_readStep_143 hT) (fun hc45 => absurd (show (1 : Int) = 0 from hc45) nz29) (fun _ => ?_)
                          refine v_load (v := (2, 121)) (hi_X12_readStep_146 hT) rfl rfl ?_
                          refine v_getf (v := (0, (eF τ (i + 1 + 1) 2).1)) (r := 121) (hi_X12_readStep_147 hT) rfl rfl (fun _ => Eq.trans (zset_ne (fun c => absurd c.1 (by decide))) (c38.1)) ?_
                          refine v_if (hi_X12_readStep_150 hT) (fun hc46 => absurd (show (eF τ (i + 1 + 1) 2).1 = 0 from hc46) (by have := c38.2.1; omega)) (fun _ => ?_)
                          refine v_load (v := (0, 1)) (hi_X12_readStep_170 hT) rfl rfl ?_
                          refine v_if (hi_X12_readStep_171 hT) (fun hc47 => absurd (show (1 : Int) = 0 from hc47) nz29) (fun _ => ?_)
                          refine v_load (v := (2, 121)) (hi_X12_readStep_174 hT) rfl rfl ?_
                          refine v_load (v := (2, 121)) (hi_X12_readStep_175 hT) rfl rfl ?_
                          refine v_call (w := 1) [some (2, 121)] hO (hi_X12_readStep_176 hT) rfl rfl (rb_any_isEnd hT hO (fun v48 => ?_))
                          · show vP D T N 304 179 (zset g38 126 ((((2477 + (9 * (s : Int))) + 1)).toNat) (0, 0)) [some (2, 121), some (0, (d : Int)), some (0, 7), some (0, 1), some (0, (2477 + (9 * (s : Int))))] [(0, v48), (2, 121)] _
                            refine v_call (w := 2) [some (2, 121), some (0, v48)] hO (hi_X12_readStep_179 hT) rfl rfl (rx_mustB hT hO v48 (rE.z (r := 126) (k := ((((2477 + (9 * (s : Int))) + 1)).toNat)) (v := (0, 0)) (by decide) c38) ?_)
                            · show vP D T N 304 182 (zset g38 126 ((((2477 + (9 * (s : Int))) + 1)).toNat) (0, 0)) [some (2, 121), some (0, (d : Int)), some (0, 7), some (0, 1), some (0, (2477 + (9 * (s : Int))))] [] _
                              refine v_load (v := (2, 121)) (hi_X12_readStep_182 hT) rfl rfl ?_
                              refine v_load (v := (2, 121)) (hi_X12_readStep_183 hT) rfl rfl ?_
                              refine v_push (59) (hi_X12_readStep_184 hT) rfl ?_
                              refine v_call (w := 2) [some (2, 121), some (0, 59)] hO (hi_X12_readStep_186 hT) rfl rfl (rb_any_isSign hT hO (fun v49 => ?_))
                              · show vP D T N 304 189 (zset g38 126 ((((2477 + (9 * (s : Int))) + 1)).toNat) (0, 0)) [some (2, 121), some (0, (d : Int)), some (0, 7), some (0, 1), some (0, (2477 + (9 * (s : Int))))] [(0, v49), (2, 121)] _
                                refine v_call (w := 2) [some (2, 121), some (0, v49)] hO (hi_X12_readStep_189 hT) rfl rfl (rx_mustB hT hO v49 (rE.z (r := 126) (k := ((((2477 + (9 * (s : Int))) + 1)).toNat)) (v := (0, 0)) (by decide) c38) ?_)
                                · show vP D T N 304 192 (zset g38 126 ((((2477 + (9 * (s : Int))) + 1)).toNat) (0, 0)) [some (2, 121), some (0, (d : Int)), some (0, 7), some (0, 1), some (0, (2477 + (9 * (s : Int))))] [] _
                                  refine v_load (v := (2, 121)) (hi_X12_readStep_192 hT) rfl rfl ?_
                                  refine v_getR (c := 126) (r := 121) (hi_X12_readStep_193 hT) rfl rfl rfl ?_
                                  refine v_load (v := (0, (2477 + (9 * (s : Int))))) (hi_X12_readStep_196 hT) rfl rfl ?_
                                  refine v_push (8) (hi_X12_readStep_198 hT) rfl ?_
                                  refine v_bin (w := ((2477 + (9 * (s : Int))) + 8)) (hi_X12_readStep_200 hT) (hq_add (by omega) (by omega)) ?_
                                  refine v_load (v := (2, 121)) (hi_X12_readStep_201 hT) rfl rfl ?_
                                  refine v_getf (v := (0, ((s : Int) + 1))) (r := 121) (hi_X12_readStep_202 hT) rfl rfl (fun _ => Eq.trans (zset_ne (fun c => absurd c.1 (by decide))) ((Eq.trans (ft38 121 25 (by first | decide | exact fun c => by omega)) (Eq.trans (zset_ne (fun c => absurd c.1 (by decide))) ((Eq.trans (ft30 121 25 (by first | decide | exact fun c => by omega)) (Eq.trans (zset_ne (fun c => absurd c.1 (by decide))) ((Eq.trans (ft15 121 25 (by first | decide | exact fun c => by omega)) (zset_same)))))))))) ?_
                                  refine v_ast (r := 126) (hi_X12_readStep_205 hT) rfl rfl (fun ha50 hb51 hf52 => ?_)
                                  refine v_ret0 (hi_X12_readStep_206 hT) ?_
                                  exact er _ _ (by simp only [pStep, hE, hsw, htw, hop, h15, opW15, harg, pNm, pWord, pSg, (show ¬ 30 ≤ s from by omega), (show ¬ 3 ≤ d from by omega), hc37, ne_eq, not_true_eq_false, not_false_eq_true, if_true, if_false, eq_self, eb_l, eb_r, and_true, true_and, and_false, false_and]) (rE.z (r := 126) (k := ((((2477 + (9 * (s : Int))) + 8)).toNat)) (v := (0, ((s : Int) + 1))) (by decide) (rE.z (r := 126) (k := ((((2477 + (9 * (s : Int))) + 1)).toNat)) (v := (0, 0)) (by decide) c38)) (roF.z (a := 126) (b := ((((2477 + (9 * (s : Int))) + 8)).toNat)) (v := (0, ((s : Int) + 1))) (by omega) (roF.z (a := 126) (b := ((((2477 + (9 * (s : Int))) + 1)).toNat)) (v := (0, 0)) (by omega) (roF.t (roF.z (a := 126) (b := ((((2477 + (9 * (s : Int))) + 6)).toNat)) (v := (0, 1)) (by omega) (roF.t (roF.z (a := 126) (b := (((2477 + (9 * (s : Int)))).toNat)) (v := (0, 7)) (by omega) (roF.t (roF.z (a := 121) (b := 25) (v := (0, ((s : Int) + 1))) (by omega) roF.rfl) ft15)) ft30)) ft38)))
                · have hc37 : (bN τ (i + 1 + 1)) ≠ 0 := hc37
                  refine v_load (v := (2, 121)) (hi_X12_readCompanyName_18 hT) rfl rfl ?_
                  refine v_getf (v := (0, 0)) (r := 121) (hi_X12_readCompanyName_19 hT) rfl rfl (fun _ => Eq.trans (zset_ne (fun c => absurd c.1 (by decide))) (hX30.b)) ?_
                  refine v_if (hi_X12_readCompanyName_22 hT) (fun _ => ?_) (fun hc53 => absurd (show (0 : Int) = 0 from (by decide)) hc53)
                  refine v_load (v := (2, 121)) (hz_X12_readCompanyName hT _ _ rfl) rfl rfl ?_
                  refine v_push (0) (hz_X12_readCompanyName hT _ _ rfl) rfl ?_
                  refine v_load (v := (2, 121)) (hz_X12_readCompanyName hT _ _ rfl) rfl rfl ?_
                  refine v_getR (c := 126) (r := 121) (hz_X12_readCompanyName hT _ _ rfl) rfl rfl rfl ?_
                  refine v_push (3) (hz_X12_readCompanyName hT _ _ rfl) rfl ?_
                  refine v_aldV (v := (0, (P 0 3))) (r := 126) (hz_X12_readCompanyName hT _ _ rfl) rfl rfl (fun _ _ _ => (Eq.trans (zset_ne (fun c => by omega)) ((Eq.trans (ft30 126 3 (by first | decide | exact fun c => by omega)) (Eq.trans (zset_ne (fun c => by omega)) ((Eq.trans (ft15 126 3 (by first | decide | exact fun c => by omega)) (Eq.trans (zset_ne (fun c => absurd c.1 (by decide))) (e3))))))))) (fun ha54 hb55 => ?_)
                  refine v_call (w := 4) [some (2, 121), some (0, 0), some (0, (P 0 3)), none] hO (hz_X12_readCompanyName hT _ _ rfl) rfl rfl (rx_named_0 hT hO (rX.z (r := 126) (k := ((((2477 + (9 * (s : Int))) + 6)).toNat)) (v := (0, 1)) (by decide) hX30) (bN_y.mp hc37).1 (rNm.z (a := 126) (b := ((((2477 + (9 * (s : Int))) + 6)).toNat)) (v := (0, 1)) (by decide) (rNm.qf (rNm.z (a := 126) (b := (((2477 + (9 * (s : Int)))).toNat)) (v := (0, 7)) (by decide) (rNm.qf (rNm.z (a := 121) (b := 25) (v := (0, ((s : Int) + 1))) (by decide) hN) ft15)) ft30)) (by omega) ?_)
                  · show vP D T N 297 36 (zset g30 126 ((((2477 + (9 * (s : Int))) + 6)).toNat) (0, 1)) [some (2, 121), none] [(0, (pIx (P 4) (τ 4 (i + 1 + 1)) (P 0 3).toNat 0))] _
                    refine v_goto (hz_X12_readCompanyName hT _ _ rfl) ?_
                    refine v_store1 [some (2, 121), some (0, (pIx (P 4) (τ 4 (i + 1 + 1)) (P 0 3).toNat 0))] (hi_X12_readCompanyName_40 hT) ⟨rfl, Nat.ne_of_beq_eq_false rfl⟩ (Nat.le_of_ble_eq_true rfl) rfl ?_
                    refine v_load (v := (2, 121)) (hi_X12_readCompanyName_41 hT) rfl rfl ?_
                    refine v_getf (v := (0, 0)) (r := 121) (hi_X12_readCompanyName_42 hT) rfl rfl (fun _ => Eq.trans (zset_ne (fun c => absurd c.1 (by decide))) (hX30.b)) ?_
                    refine v_if (hi_X12_readCompanyName_45 hT) (fun _ => ?_) (fun hc56 => absurd (show (0 : Int) = 0 from (by decide)) hc56)
                    refine v_load (v := (0, (pIx (P 4) (τ 4 (i + 1 + 1)) (P 0 3).toNat 0))) (hz_X12_readCompanyName hT _ _ rfl) rfl rfl ?_
                    refine v_if (hz_X12_readCompanyName hT _ _ rfl) (fun hc57 => ?_) (fun hc57 => ?_)
                    · have hc57 : (pIx (P 4) (τ 4 (i + 1 + 1)) (P 0 3).toNat 0) < 0 := hc57
                      refine v_load (v := (2, 121)) (hz_X12_readCompanyName hT _ _ rfl) rfl rfl ?_
                      refine v_push (3) (hz_X12_readCompanyName hT _ _ rfl) rfl ?_
                      refine v_load (v := (2, 121)) (hz_X12_readCompanyName hT _ _ rfl) rfl rfl ?_
                      refine v_getf (v := (0, (τ 1 (i + 1 + 1)))) (r := 121) (hz_X12_readCompanyName hT _ _ rfl) rfl rfl (fun _ => Eq.trans (zset_ne (fun c => absurd c.1 (by decide))) (hX30.ps)) ?_
                      refine v_call (w := 3) [some (2, 121), some (0, 3), some (0, (τ 1 (i + 1 + 1)))] hO (hz_X12_readCompanyName hT _ _ rfl) rfl rfl (rx_fail hT hO 3 (rX.z (r := 126) (k := ((((2477 + (9 * (s : Int))) + 6)).toNat)) (v := (0, 1)) (by decide) hX30) (bN_y.mp hc37).1 (by decide) (fun g58 ft58 c58 => ?_))
                      · show vP D T N 297 61 g58 [some (2, 121), some (0, (pIx (P 4) (τ 4 (i + 1 + 1)) (P 0 3).toNat 0))] [] _
                        refine vP_hv (fun hv58 => ?_)
                        refine v_load (v := (2, 121)) (hi_X12_readCompanyName_61 hT) rfl rfl ?_
                        refine v_push (1) (hi_X12_readCompanyName_62 hT) rfl ?_
                        refine v_call (w := 2) [some (2, 121), some (0, 1)] hO (hi_X12_readCompanyName_63 hT) rfl rfl (rx_mustB hT hO 1 c58 ?_)
                        · show vP D T N 297 66 g58 [some (2, 121), some (0, (pIx (P 4) (τ 4 (i + 1 + 1)) (P 0 3).toNat 0))] [] _
                          refine v_load (v := (0, (pIx (P 4) (τ 4 (i + 1 + 1)) (P 0 3).toNat 0))) (hi_X12_readCompanyName_66 hT) rfl rfl ?_
                          refine v_ret (hi_X12_readCompanyName_67 hT) (Or.inl rfl) ?_
                          show vP D T N 305 84 g58 [some (2, 121), some (0, (2477 + (9 * (s : Int)))), some (0, 1)] [(0, (pIx (P 4) (τ 4 (i + 1 + 1)) (P 0 3).toNat 0)), (0, ((2477 + (9 * (s : Int))) + 1)), (2, 126)] _
                          refine v_ast (r := 126) (hz_X12_readTest hT _ _ rfl) rfl rfl (fun ha59 hb60 hf61 => ?_)
                          refine v_goto (hz_X12_readTest hT _ _ rfl) ?_
                          refine v_ret0 (hi_X12_readTest_172 hT) ?_
                          show vP D T N 301 186 (zset g58 126 ((((2477 + (9 * (s : Int))) + 1)).toNat) (0, (pIx (P 4) (τ 4 (i + 1 + 1)) (P 0 3).toNat 0))) [some (2, 121), some (0, (2477 + (9 * (s : Int)))), some (0, 7)] [] _
                          refine v_goto (hi_X12_readRest_186 hT) ?_
                          refine v_ret0 (hi_X12_readRest_210 hT) ?_
                          show vP D T N 304 132 (zset g58 126 ((((2477 + (9 * (s : Int))) + 1)).toNat) (0, (pIx (P 4) (τ 4 (i + 1 + 1)) (P 0 3).toNat 0))) [some (2, 121), some (0, (d : Int)), some (0, 7), some (0, 1), some (0, (2477 + (9 * (s : Int))))] [] _
                          refine v_load (v := (2, 121)) (hi_X12_readStep_132 hT) rfl rfl ?_
                          refine v_load (v := (2, 121)) (hi_X12_readStep_133 hT) rfl rfl ?_
                          refine v_push (59) (hi_X12_readStep_134 hT) rfl ?_
                          refine v_call (w := 2) [some (2, 121), some (0, 59)] hO (hi_X12_readStep_136 hT) rfl rfl (rb_any_isSign hT hO (fun v62 => ?_))
                          · show vP D T N 304 139 (zset g58 126 ((((2477 + (9 * (s : Int))) + 1)).toNat) (0, (pIx (P 4) (τ 4 (i + 1 + 1)) (P 0 3).toNat 0))) [some (2, 121), some (0, (d : Int)), some (0, 7), some (0, 1), some (0, (2477 + (9 * (s : Int))))] [(0, v62), (2, 121)] _
                            refine v_call (w := 2) [some (2, 121), some (0, v62)] hO (hi_X12_readStep_139 hT) rfl rfl (rx_mustB hT hO v62 (rE.z (r := 126) (k := ((((2477 + (9 * (s : Int))) + 1)).toNat)) (v := (0, (pIx (P 4) (τ 4 (i + 1 + 1)) (P 0 3).toNat 0))) (by decide) c58) ?_)
                            · show vP D T N 304 142 (zset g58 126 ((((2477 + (9 * (s : Int))) + 1)).toNat) (0, (pIx (P 4) (τ 4 (i + 1 + 1)) (P 0 3).toNat 0))) [some (2, 121), some (0, (d : Int)), some (0, 7), some (0, 1), some (0, (2477 + (9 * (s : Int))))] [] _
                              refine v_load (v := (0, 1)) (hi_X12_readStep_142 hT) rfl rfl ?_
                              refine v_if (hi_X12_readStep_143 hT) (fun hc63 => absurd (show (1 : Int) = 0 from hc63) nz29) (fun _ => ?_)
                              refine v_load (v := (2, 121)) (hi_X12_readStep_146 hT) rfl rfl ?_
                              refine v_getf (v := (0, (eF τ (i + 1 + 1) 3).1)) (r := 121) (hi_X12_readStep_147 hT) rfl rfl (fun _ => Eq.trans (zset_ne (fun c => absurd c.1 (by decide))) (c58.1)) ?_
                              refine v_if (hi_X12_readStep_150 hT) (fun hc64 => absurd (show (eF τ (i + 1 + 1) 3).1 = 0 from hc64) (by have := c58.2.1; omega)) (fun _ => ?_)
                              refine v_load (v := (0, 1)) (hi_X12_readStep_170 hT) rfl rfl ?_
                              refine v_if (hi_X12_readStep_171 hT) (fun hc65 => absurd (show (1 : Int) = 0 from hc65) nz29) (fun _ => ?_)
                              refine v_load (v := (2, 121)) (hi_X12_readStep_174 hT) rfl rfl ?_
                              refine v_load (v := (2, 121)) (hi_X12_readStep_175 hT) rfl rfl ?_
                              refine v_call (w := 1) [some (2, 121)] hO (hi_X12_readStep_176 hT) rfl rfl (rb_any_isEnd hT hO (fun v66 => ?_))
                              · show vP D T N 304 179 (zset g58 126 ((((2477 + (9 * (s : Int))) + 1)).toNat) (0, (pIx (P 4) (τ 4 (i + 1 + 1)) (P 0 3).toNat 0))) [some (2, 121), some (0, (d : Int)), some (0, 7), some (0, 1), some (0, (2477 + (9 * (s : Int))))] [(0, v66), (2, 121)] _
                                refine v_call (w := 2) [some (2, 121), some (0, v66)] hO (hi_X12_readStep_179 hT) rfl rfl (rx_mustB hT hO v66 (rE.z (r := 126) (k := ((((2477 + (9 * (s : Int))) + 1)).toNat)) (v := (0, (pIx (P 4) (τ 4 (i + 1 + 1)) (P 0 3).toNat 0))) (by decide) c58) ?_)
                                · show vP D T N 304 182 (zset g58 126 ((((2477 + (9 * (s : Int))) + 1)).toNat) (0, (pIx (P 4) (τ 4 (i + 1 + 1)) (P 0 3).toNat 0))) [some (2, 121), some (0, (d : Int)), some (0, 7), some (0, 1), some (0, (2477 + (9 * (s : Int))))] [] _
                                  refine v_load (v := (2, 121)) (hi_X12_readStep_182 hT) rfl rfl ?_
                                  refine v_load (v := (2, 121)) (hi_X12_readStep_183 hT) rfl rfl ?_
                                  refine v_push (59) (hi_X12_readStep_184 hT) rfl ?_
                                  refine v_call (w := 2) [some (2, 121), some (0, 59)] hO (hi_X12_readStep_186 hT) rfl rfl (rb_any_isSign hT hO (fun v67 => ?_))
                                  · show vP D T N 304 189 (zset g58 126 ((((2477 + (9 * (s : Int))) + 1)).toNat) (0, (pIx (P 4) (τ 4 (i + 1 + 1)) (P 0 3).toNat 0))) [some (2, 121), some (0, (d : Int)), some (0, 7), some (0, 1), some (0, (2477 + (9 * (s : Int))))] [(0, v67), (2, 121)] _
                                    refine v_call (w := 2) [some (2, 121), some (0, v67)] hO (hi_X12_readStep_189 hT) rfl rfl (rx_mustB hT hO v67 (rE.z (r := 126) (k := ((((2477 + (9 * (s : Int))) + 1)).toNat)) (v := (0, (pIx (P 4) (τ 4 (i + 1 + 1)) (P 0 3).toNat 0))) (by decide) c58) ?_)
                                    · show vP D T N 304 192 (zset g58 126 ((((2477 + (9 * (s : Int))) + 1)).toNat) (0, (pIx (P 4) (τ 4 (i + 1 + 1)) (P 0 3).toNat 0))) [some (2, 121), some (0, (d : Int)), some (0, 7), some (0, 1), some (0, (2477 + (9 * (s : Int))))] [] _
                                      refine v_load (v := (2, 121)) (hi_X12_readStep_192 hT) rfl rfl ?_
                                      refine v_getR (c := 126) (r := 121) (hi_X12_readStep_193 hT) rfl rfl rfl ?_
                                      refine v_load (v := (0, (2477 + (9 * (s : Int))))) (hi_X12_readStep_196 hT) rfl rfl ?_
                                      refine v_push (8) (hi_X12_readStep_198 hT) rfl ?_
                                      refine v_bin (w := ((2477 + (9 * (s : Int))) + 8)) (hi_X12_readStep_200 hT) (hq_add (by omega) (by omega)) ?_
                                      refine v_load (v := (2, 121)) (hi_X12_readStep_201 hT) rfl rfl ?_
                                      refine v_getf (v := (0, ((s : Int) + 1))) (r := 121) (hi_X12_readStep_202 hT) rfl rfl (fun _ => Eq.trans (zset_ne (fun c => absurd c.1 (by decide))) ((Eq.trans (ft58 121 25 (by first | decide | exact fun c => by omega)) (Eq.trans (zset_ne (fun c => absurd c.1 (by decide))) ((Eq.trans (ft30 121 25 (by first | decide | exact fun c => by omega)) (Eq.trans (zset_ne (fun c => absurd c.1 (by decide))) ((Eq.trans (ft15 121 25 (by first | decide | exact fun c => by omega)) (zset_same)))))))))) ?_
                                      refine v_ast (r := 126) (hi_X12_readStep_205 hT) rfl rfl (fun ha68 hb69 hf70 => ?_)
                                      refine v_ret0 (hi_X12_readStep_206 hT) ?_
                                      exact er _ _ (by simp only [pStep, hE, hsw, htw, hop, h15, opW15, harg, pNm, pWord, pSg, (show ¬ 30 ≤ s from by omega), (show ¬ 3 ≤ d from by omega), hc37, pIx_n hc57, ne_eq, not_true_eq_false, not_false_eq_true, if_true, if_false, eq_self, eb_l, eb_r, and_true, true_and, and_false, false_and]) (rE.z (r := 126) (k := ((((2477 + (9 * (s : Int))) + 8)).toNat)) (v := (0, ((s : Int) + 1))) (by decide) (rE.z (r := 126) (k := ((((2477 + (9 * (s : Int))) + 1)).toNat)) (v := (0, (pIx (P 4) (τ 4 (i + 1 + 1)) (P 0 3).toNat 0))) (by decide) c58)) (roF.z (a := 126) (b := ((((2477 + (9 * (s : Int))) + 8)).toNat)) (v := (0, ((s : Int) + 1))) (by omega) (roF.z (a := 126) (b := ((((2477 + (9 * (s : Int))) + 1)).toNat)) (v := (0, (pIx (P 4) (τ 4 (i + 1 + 1)) (P 0 3).toNat 0))) (by omega) (roF.t (roF.z (a := 126) (b := ((((2477 + (9 * (s : Int))) + 6)).toNat)) (v := (0, 1)) (by omega) (roF.t (roF.z (a := 126) (b := (((2477 + (9 * (s : Int)))).toNat)) (v := (0, 7)) (by omega) (roF.t (roF.z (a := 121) (b := 25) (v := (0, ((s : Int) + 1))) (by omega) roF.rfl) ft15)) ft30)) ft58)))
                    · have hc57 : 0 ≤ (pIx (P 4) (τ 4 (i + 1 + 1)) (P 0 3).toNat 0) := Int.not_lt.mp hc57
                      refine v_load (v := (2, 121)) (hi_X12_readCompanyName_61 hT) rfl rfl ?_
                      refine v_push (1) (hi_X12_readCompanyName_62 hT) rfl ?_
                      refine v_call (w := 2) [some (2, 121), some (0, 1)] hO (hi_X12_readCompanyName_63 hT) rfl rfl (rx_must hT hO 1 (rX.z (r := 126) (k := ((((2477 + (9 * (s : Int))) + 6)).toNat)) (v := (0, 1)) (by decide) hX30) (fun _ => ⟨ne_10 (bN_y.mp hc37).1, ne_14 (bN_y.mp hc37).1⟩) (k2 := fun _ _ c => absurd c (by decide)) (fun g72 ft72 nz71 hX72 => ?_))
                      · show vP D T N 297 66 g72 [some (2, 121), some (0, (pIx (P 4) (τ 4 (i + 1 + 1)) (P 0 3).toNat 0))] [] _
                        refine vP_hv (fun hv72 => ?_)
                        refine v_load (v := (0, (pIx (P 4) (τ 4 (i + 1 + 1)) (P 0 3).toNat 0))) (hi_X12_readCompanyName_66 hT) rfl rfl ?_
                        refine v_ret (hi_X12_readCompanyName_67 hT) (Or.inl rfl) ?_
                        show vP D T N 305 84 g72 [some (2, 121), some (0, (2477 + (9 * (s : Int)))), some (0, 1)] [(0, (pIx (P 4) (τ 4 (i + 1 + 1)) (P 0 3).toNat 0)), (0, ((2477 + (9 * (s : Int))) + 1)), (2, 126)] _
                        refine v_ast (r := 126) (hz_X12_readTest hT _ _ rfl) rfl rfl (fun ha73 hb74 hf75 => ?_)
                        refine v_goto (hz_X12_readTest hT _ _ rfl) ?_
                        refine v_ret0 (hi_X12_readTest_172 hT) ?_
                        show vP D T N 301 186 (zset g72 126 ((((2477 + (9 * (s : Int))) + 1)).toNat) (0, (pIx (P 4) (τ 4 (i + 1 + 1)) (P 0 3).toNat 0))) [some (2, 121), some (0, (2477 + (9 * (s : Int)))), some (0, 7)] [] _
                        refine v_goto (hi_X12_readRest_186 hT) ?_
                        refine v_ret0 (hi_X12_readRest_210 hT) ?_
                        show vP D T N 304 132 (zset g72 126 ((((2477 + (9 * (s : Int))) + 1)).toNat) (0, (pIx (P 4) (τ 4 (i + 1 + 1)) (P 0 3).toNat 0))) [some (2, 121), some (0, (d : Int)), some (0, 7), some (0, 1), some (0, (2477 + (9 * (s : Int))))] [] _
                        refine v_load (v := (2, 121)) (hi_X12_readStep_132 hT) rfl rfl ?_
                        refine v_load (v := (2, 121)) (hi_X12_readStep_133 hT) rfl rfl ?_
                        refine v_push (59) (hi_X12_readStep_134 hT) rfl ?_
                        refine v_call (w := 2) [some (2, 121), some (0, 59)] hO (hi_X12_readStep_136 hT) rfl rfl (rx_isSign hT hO 59 (rX.z (r := 126) (k := ((((2477 + (9 * (s : Int))) + 1)).toNat)) (v := (0, (pIx (P 4) (τ 4 (i + 1 + 1)) (P 0 3).toNat 0))) (by decide) hX72) ?_)
                        · show vP D T N 304 139 (zset g72 126 ((((2477 + (9 * (s : Int))) + 1)).toNat) (0, (pIx (P 4) (τ 4 (i + 1 + 1)) (P 0 3).toNat 0))) [some (2, 121), some (0, (d : Int)), some (0, 7), some (0, 1), some (0, (2477 + (9 * (s : Int))))] [(0, (bG τ 59 (i + 1 + 1 + 1))), (2, 121)] _
                          refine v_call (w := 2) [some (2, 121), some (0, (bG τ 59 (i + 1 + 1 + 1)))] hO (hi_X12_readStep_139 hT) rfl rfl (rx_must hT hO ((bG τ 59 (i + 1 + 1 + 1))) (rX.z (r := 126) (k := ((((2477 + (9 * (s : Int))) + 1)).toNat)) (v := (0, (pIx (P 4) (τ 4 (i + 1 + 1)) (P 0 3).toNat 0))) (by decide) hX72) (fun c => ⟨by have := (bG_y.mp c).1; omega, by have := (bG_y.mp c).1; omega⟩) (fun g77 ft77 hc76 hX77 => ?_) (fun g78 ft78 hc78 c78 => ?_))
                          · show vP D T N 304 142 g77 [some (2, 121), some (0, (d : Int)), some (0, 7), some (0, 1), some (0, (2477 + (9 * (s : Int))))] [] _
                            refine vP_hv (fun hv77 => ?_)
                            have kp_ : ∀ e, g77 126 e = (zset (zset (zset h 126 (((2477 + (9 * (s : Int)))).toNat) (0, 7)) 126 ((((2477 + (9 * (s : Int))) + 6)).toNat) (0, 1)) 126 ((((2477 + (9 * (s : Int))) + 1)).toNat) (0, (pIx (P 4) (τ 4 (i + 1 + 1)) (P 0 3).toNat 0))) 126 e := (kr_f (fun e => ft77 126 e (fun c => by omega)) (kr_z (k := ((((2477 + (9 * (s : Int))) + 1)).toNat)) (v := (0, (pIx (P 4) (τ 4 (i + 1 + 1)) (P 0 3).toNat 0))) (kr_f (fun e => ft72 126 e (fun c => by omega)) (kr_z (k := ((((2477 + (9 * (s : Int))) + 6)).toNat)) (v := (0, 1)) (kr_f (fun e => ft30 126 e (fun c => by omega)) (kr_z (k := (((2477 + (9 * (s : Int)))).toNat)) (v := (0, 7)) (kr_f (fun e => ft15 126 e (fun c => by omega)) (kr_n (a := 121) (k := 25) (v := (0, ((s : Int) + 1))) (by decide) (fun _ => Eq.refl _)))))))))
                            exact ih _ (s + 1) (d + 1) (i + 1 + 1 + 1 + 1) _ 17 ((pIx (P 4) (τ 4 (i + 1 + 1)) (P 0 3).toNat 0)) 0 (i + 1 + 1 + 1) (by simp only [pStep, hE, hsw, htw, hop, h15, opW15, harg, pNm, pWord, pSg, (show ¬ 30 ≤ s from by omega), (show ¬ 3 ≤ d from by omega), hc37, pIx_y hc57, hc76, ne_eq, not_true_eq_false, not_false_eq_true, if_true, if_false, eq_self, eb_l, eb_r, and_true, true_and, and_false, false_and]) hX77 (Eq.trans (ft77 121 25 (by first | decide | exact fun c => by omega)) (Eq.trans (zset_ne (fun c => absurd c.1 (by decide))) ((Eq.trans (ft72 121 25 (by first | decide | exact fun c => by omega)) (Eq.trans (zset_ne (fun c => absurd c.1 (by decide))) ((Eq.trans (ft30 121 25 (by first | decide | exact fun c => by omega)) (Eq.trans (zset_ne (fun c => absurd c.1 (by decide))) ((Eq.trans (ft15 121 25 (by first | decide | exact fun c => by omega)) (zset_same))))))))))) (by omega) (by omega) (roF.t (roF.z (a := 126) (b := ((((2477 + (9 * (s : Int))) + 1)).toNat)) (v := (0, (pIx (P 4) (τ 4 (i + 1 + 1)) (P 0 3).toNat 0))) (by omega) (roF.t (roF.z (a := 126) (b := ((((2477 + (9 * (s : Int))) + 6)).toNat)) (v := (0, 1)) (by omega) (roF.t (roF.z (a := 126) (b := (((2477 + (9 * (s : Int)))).toNat)) (v := (0, 7)) (by omega) (roF.t (roF.z (a := 121) (b := 25) (v := (0, ((s : Int) + 1))) (by omega) roF.rfl) ft15)) ft30)) ft72)) ft77) (pItV_b h3 h3b (by simp only [hargV, pWord, pNm, (show ¬ 30 ≤ s from by omega), (show ¬ 3 ≤ d from by omega), hc37, pIx_y hc57, hc76, ne_eq, not_true_eq_false, not_false_eq_true, if_true, if_false, eq_self, eb_l, eb_r, and_true, true_and, and_false, false_and])) (fun e_ hn_ => (kp_ e_).trans ((zset_ne (fun c => hn_ (by omega))).trans ((zset_ne (fun c => hn_ (by omega))).trans (zset_ne (fun c => hn_ (by omega)))))) ⟨((kp_ _).trans ((zset_ne (fun c => by omega)).trans ((zset_ne (fun c => by omega)).trans (zset_e (by omega))))), (fun _ => ((kp_ _).trans (zset_e (by omega)))), (fun c => absurd c (by decide)), (fun c => absurd c (by decide)), (fun _ => ((kp_ _).trans ((zset_ne (fun c => by omega)).trans (zset_e (by omega))))), (fun c => absurd c (by decide))⟩
                          · show vP D T N 304 142 g78 [some (2, 121), some (0, (d : Int)), some (0, 7), some (0, 1), some (0, (2477 + (9 * (s : Int))))] [] _
                            refine vP_hv (fun hv78 => ?_)
                            refine v_load (v := (0, 1)) (hi_X12_readStep_142 hT) rfl rfl ?_
                            refine v_if (hi_X12_readStep_143 hT) (fun hc79 => absurd (show (1 : Int) = 0 from hc79) nz29) (fun _ => ?_)
                            refine v_load (v := (2, 121)) (hi_X12_readStep_146 hT) rfl rfl ?_
                            refine v_getf (v := (0, (eF τ (i + 1 + 1 + 1) 2).1)) (r := 121) (hi_X12_readStep_147 hT) rfl rfl (fun _ => c78.1) ?_
                            refine v_if (hi_X12_readStep_150 hT) (fun hc80 => absurd (show (eF τ (i + 1 + 1 + 1) 2).1 = 0 from hc80) (by have := c78.2.1; omega)) (fun _ => ?_)
                            refine v_load (v := (0, 1)) (hi_X12_readStep_170 hT) rfl rfl ?_
                            refine v_if (hi_X12_readStep_171 hT) (fun hc81 => absurd (show (1 : Int) = 0 from hc81) nz29) (fun _ => ?_)
                            refine v_load (v := (2, 121)) (hi_X12_readStep_174 hT) rfl rfl ?_
                            refine v_load (v := (2, 121)) (hi_X12_readStep_175 hT) rfl rfl ?_
                            refine v_call (w := 1) [some (2, 121)] hO (hi_X12_readStep_176 hT) rfl rfl (rb_any_isEnd hT hO (fun v82 => ?_))
                            · show vP D T N 304 179 g78 [some (2, 121), some (0, (d : Int)), some (0, 7), some (0, 1), some (0, (2477 + (9 * (s : Int))))] [(0, v82), (2, 121)] _
                              refine v_call (w := 2) [some (2, 121), some (0, v82)] hO (hi_X12_readStep_179 hT) rfl rfl (rx_mustB hT hO v82 c78 ?_)
                              · show vP D T N 304 182 g78 [some (2, 121), some (0, (d : Int)), some (0, 7), some (0, 1), some (0, (2477 + (9 * (s : Int))))] [] _
                                refine v_load (v := (2, 121)) (hi_X12_readStep_182 hT) rfl rfl ?_
                                refine v_load (v := (2, 121)) (hi_X12_readStep_183 hT) rfl rfl ?_
                                refine v_push (59) (hi_X12_readStep_184 hT) rfl ?_
                                refine v_call (w := 2) [some (2, 121), some (0, 59)] hO (hi_X12_readStep_186 hT) rfl rfl (rb_any_isSign hT hO (fun v83 => ?_))
                                · show vP D T N 304 189 g78 [some (2, 121), some (0, (d : Int)), some (0, 7), some (0, 1), some (0, (2477 + (9 * (s : Int))))] [(0, v83), (2, 121)] _
                                  refine v_call (w := 2) [some (2, 121), some (0, v83)] hO (hi_X12_readStep_189 hT) rfl rfl (rx_mustB hT hO v83 c78 ?_)
                                  · show vP D T N 304 192 g78 [some (2, 121), some (0, (d : Int)), some (0, 7), some (0, 1), some (0, (2477 + (9 * (s : Int))))] [] _
                                    refine v_load (v := (2, 121)) (hi_X12_readStep_192 hT) rfl rfl ?_
                                    refine v_getR (c := 126) (r := 121) (hi_X12_readStep_193 hT) rfl rfl rfl ?_
                                    refine v_load (v := (0, (2477 + (9 * (s : Int))))) (hi_X12_readStep_196 hT) rfl rfl ?_
                                    refine v_push (8) (hi_X12_readStep_198 hT) rfl ?_
                                    refine v_bin (w := ((2477 + (9 * (s : Int))) + 8)) (hi_X12_readStep_200 hT) (hq_add (by omega) (by omega)) ?_
                                    refine v_load (v := (2, 121)) (hi_X12_readStep_201 hT) rfl rfl ?_
                                    refine v_getf (v := (0, ((s : Int) + 1))) (r := 121) (hi_X12_readStep_202 hT) rfl rfl (fun _ => (Eq.trans (ft78 121 25 (by first | decide | exact fun c => by omega)) (Eq.trans (zset_ne (fun c => absurd c.1 (by decide))) ((Eq.trans (ft72 121 25 (by first | decide | exact fun c => by omega)) (Eq.trans (zset_ne (fun c => absurd c.1 (by decide))) ((Eq.trans (ft30 121 25 (by first | decide | exact fun c => by omega)) (Eq.trans (zset_ne (fun c => absurd c.1 (by decide))) ((Eq.trans (ft15 121 25 (by first | decide | exact fun c => by omega)) (zset_same)))))))))))) ?_
                                    refine v_ast (r := 126) (hi_X12_readStep_205 hT) rfl rfl (fun ha84 hb85 hf86 => ?_)
                                    refine v_ret0 (hi_X12_readStep_206 hT) ?_
                                    exact er _ _ (by simp only [pStep, hE, hsw, htw, hop, h15, opW15, harg, pNm, pWord, pSg, (show ¬ 30 ≤ s from by omega), (show ¬ 3 ≤ d from by omega), hc37, pIx_y hc57, hc78, ne_eq, not_true_eq_false, not_false_eq_true, if_true, if_false, eq_self, eb_l, eb_r, and_true, true_and, and_false, false_and]) (rE.z (r := 126) (k := ((((2477 + (9 * (s : Int))) + 8)).toNat)) (v := (0, ((s : Int) + 1))) (by decide) c78) (roF.z (a := 126) (b := ((((2477 + (9 * (s : Int))) + 8)).toNat)) (v := (0, ((s : Int) + 1))) (by omega) (roF.t (roF.z (a := 126) (b := ((((2477 + (9 * (s : Int))) + 1)).toNat)) (v := (0, (pIx (P 4) (τ 4 (i + 1 + 1)) (P 0 3).toNat 0))) (by omega) (roF.t (roF.z (a := 126) (b := ((((2477 + (9 * (s : Int))) + 6)).toNat)) (v := (0, 1)) (by omega) (roF.t (roF.z (a := 126) (b := (((2477 + (9 * (s : Int)))).toNat)) (v := (0, 7)) (by omega) (roF.t (roF.z (a := 121) (b := 25) (v := (0, ((s : Int) + 1))) (by omega) roF.rfl) ft15)) ft30)) ft72)) ft78))
theorem ro7_15_18 {D : zD} {T : zT} (hT : hTab T) (hO : vOK T) {N : Nat} {h : zH} {Q : zR → Prop} {B : Nat → Int} {n m i s d : Nat} {τ P : PT} (hv0 : zHv h) (hX : rX B n m τ i h) (e0 : h 126 0 = (0, P 0 0)) (e1 : h 126 1 = (0, P 0 1)) (e2 : h 126 2 = (0, P 0 2)) (e3 : h 126 3 = (0, P 0 3)) (hN : rNm P h) (hb : (0 ≤ P 0 0 ∧ P 0 0 ≤ 8) ∧ (0 ≤ P 0 1 ∧ P 0 1 ≤ 6) ∧ (0 ≤ P 0 2 ∧ P 0 2 ≤ 3) ∧ (0 ≤ P 0 3 ∧ P 0 3 ≤ 6)) (hs : h 121 25 = (0, (s : Int))) (bs : s ≤ 30) (bd : d ≤ 3) (h1 : τ 0 i = 1) (h3 : τ 3 i = 15) (h1b : τ 0 (i + 1) = 1) (h3b : τ 3 (i + 1) = 18) (ih : ∀ g s' d' i' a K u v j, pStep τ P s d i = .inr (s', d', i') → rX B n m τ i' g → g 121 25 = (0, a) → a = (s' : Int) → s' ≤ 30 → roF h g → pItV τ P i = .inr (K, u, v, j) → (∀ e, ¬ (2477 + 9 * s ≤ e ∧ e < 2486 + 9 * s) → g 126 e = h 126 e) → rI7 (P 0 0) g s K u v → vP D T N 304 142 g [some (2, 121), some (0, (d : Int)), some (0, 7), some (0, 1), some (0, 2477 + 9 * (s : Int))] [] Q) (er : ∀ g e, pStep τ P s d i = .inl e → rE e g → roF h g → Q (g, none)) :
    vP D T (N + 1) 304 0 h [some (2, 121), some (0, (d : Int)), none, none, none] [] Q := by
  have h0 : τ 0 i ≠ 0 := by omega
  have hE : (bW τ 20 i) = 0 := bW_0.mpr (fun c => absurd (h3.symm.trans c.2) (by decide))
  have hsw : ¬ swd τ i < 0 := by rw [swd_v h1, h3]; decide
  have htw : ¬ twd τ (i + 1) < 0 := by rw [twd_v h1b, h3b]; decide
  have hop : opW (τ 3 i) = true := by rw [h3]; rfl
  have h15 : τ 3 i = 15 := h3
  have harg : ∀ j, oArg τ P (τ 3 (i + 1)) j = (eb (pCm τ j) fun a => eb (pNum τ 0 9999 a.2) fun b => .inr b.2) := fun j => by rw [h3b]; rfl
  have hargV : ∀ j, oArV τ P 18 j = (eb (pCm τ j) fun a => eb (pNum τ 0 9999 a.2) fun b => .inr (a.1, b.1, b.2)) := fun _ => rfl
  refine v_loadS (v := (2, 121)) (hi_X12_readStep_0 hT) rfl rfl ?_
  refine v_call (w := 1) [some (2, 121)] hO (hi_X12_readStep_1 hT) rfl rfl (rx_stepK hT hO 7 hX h1 h3 (by decide) ?_)
  · show vP D T N 304 4 h [some (2, 121), some (0, (d : Int)), none, none, none] [(0, 7)] _
    refine v_store1 [some (2, 121), some (0, (d : Int)), some (0, 7), none, none] (hi_X12_readStep_4 hT) ⟨rfl, Nat.ne_of_beq_eq_false rfl⟩ (Nat.le_of_ble_eq_true rfl) rfl ?_
    refine v_load (v := (0, 7)) (hi_X12_readStep_5 hT) rfl rfl ?_
    refine v_push (7) (hi_X12_readStep_6 hT) rfl ?_
    refine v_ic (hi_X12_readStep_8 hT) (fun _ => ?_) (fun hc1 => absurd (show (7 : Int) = 7 from (by decide)) hc1)
    refine v_push (1) (hi_X12_readStep_17 hT) rfl ?_
    refine v_goto (hi_X12_readStep_18 hT) ?_
    refine v_store1 [some (2, 121), some (0, (d : Int)), some (0, 7), some (0, 1), none] (hi_X12_readStep_22 hT) ⟨rfl, Nat.ne_of_beq_eq_false rfl⟩ (Nat.le_of_ble_eq_true rfl) rfl ?_
    refine v_load (v := (0, 7)) (hi_X12_readStep_23 hT) rfl rfl ?_
    refine v_if (hi_X12_readStep_24 hT) (fun hc2 => absurd (show (7 : Int) < 0 from hc2) (by decide)) (fun _ => ?_)
    refine v_load (v := (2, 121)) (hi_X12_readStep_31 hT) rfl rfl ?_
    refine v_getf (v := (0, 0)) (r := 121) (hi_X12_readStep_32 hT) rfl rfl (fun _ => hX.b) ?_
    refine v_if (hi_X12_readStep_35 hT) (fun _ => ?_) (fun hc3 => absurd (show (0 : Int) = 0 from (by decide)) hc3)
    refine v_load (v := (2, 121)) (hi_X12_readStep_38 hT) rfl rfl ?_
    refine v_getf (v := (0, (s : Int))) (r := 121) (hi_X12_readStep_39 hT) rfl rfl (fun _ => hs) ?_
    refine v_push (30) (hi_X12_readStep_42 hT) rfl ?_
    refine v_ic (hi_X12_readStep_44 hT) (fun hc4 => ?_) (fun hc4 => ?_)
    · have hc4 : (s : Int) = 30 := hc4
      refine v_load (v := (2, 121)) (hi_X12_readStep_47 hT) rfl rfl ?_
      refine v_push (6) (hi_X12_readStep_48 hT) rfl ?_
      refine v_load (v := (2, 121)) (hi_X12_readStep_50 hT) rfl rfl ?_
      refine v_getf (v := (0, (τ 1 i))) (r := 121) (hi_X12_readStep_51 hT) rfl rfl (fun _ => hX.ps) ?_
      refine v_call (w := 3) [some (2, 121), some (0, 6), some (0, (τ 1 i))] hO (hi_X12_readStep_54 hT) rfl rfl (rx_fail hT hO 6 hX h1 (by decide) (fun g5 ft5 c5 => ?_))
      · show vP D T N 304 57 g5 [some (2, 121), some (0, (d : Int)), some (0, 7), some (0, 1), none] [] _
        refine vP_hv (fun hv5 => ?_)
        refine v_load (v := (2, 121)) (hi_X12_readStep_57 hT) rfl rfl ?_
        refine v_getf (v := (0, (eF τ i 6).1)) (r := 121) (hi_X12_readStep_58 hT) rfl rfl (fun _ => c5.1) ?_
        refine v_if (hi_X12_readStep_61 hT) (fun hc6 => absurd (show (eF τ i 6).1 = 0 from hc6) (by have := c5.2.1; omega)) (fun _ => ?_)
        refine v_load (v := (2, 121)) (hi_X12_readStep_83 hT) rfl rfl ?_
        refine v_getf (v := (0, (eF τ i 6).1)) (r := 121) (hi_X12_readStep_84 hT) rfl rfl (fun _ => c5.1) ?_
        refine v_if (hi_X12_readStep_87 hT) (fun _ => ?_) (fun hc7 => absurd (show 0 < (eF τ i 6).1 from c5.2.1) hc7)
        refine v_ret0 (hi_X12_readStep_90 hT) ?_
        exact er _ _ (by simp only [pStep, hE, hsw, htw, hop, h15, opW15, harg, pNm, pWord, pSg, (show 30 ≤ s from by omega), ne_eq, not_true_eq_false, not_false_eq_true, if_true, if_false, eq_self, eb_l, eb_r, and_true, true_and, and_false, false_and]) c5 (roF.t roF.rfl ft5)
    · have hc4 : (s : Int) ≠ 30 := hc4
      refine v_load (v := (2, 121)) (hi_X12_readStep_57 hT) rfl rfl ?_
      refine v_getf (v := (0, 0)) (r := 121) (hi_X12_readStep_58 hT) rfl rfl (fun _ => hX.b) ?_
      refine v_if (hi_X12_readStep_61 hT) (fun _ => ?_) (fun hc8 => absurd (show (0 : Int) = 0 from (by decide)) hc8)
      refine v_load (v := (0, 1)) (hi_X12_readStep_64 hT) rfl rfl ?_
      refine v_if (hi_X12_readStep_65 hT) (fun hc9 => absurd (show (1 : Int) = 0 from hc9) (by decide)) (fun _ => ?_)
      refine v_load (v := (0, (d : Int))) (hi_X12_readStep_68 hT) rfl rfl ?_
      refine v_push (3) (hi_X12_readStep_69 hT) rfl ?_
      refine v_ic (hi_X12_readStep_70 hT) (fun hc10 => ?_) (fun hc10 => ?_)
      · have hc10 : (d : Int) = 3 := hc10
        refine v_load (v := (2, 121)) (hi_X12_readStep_73 hT) rfl rfl ?_
        refine v_push (7) (hi_X12_readStep_74 hT) rfl ?_
        refine v_load (v := (2, 121)) (hi_X12_readStep_76 hT) rfl rfl ?_
        refine v_getf (v := (0, (τ 1 i))) (r := 121) (hi_X12_readStep_77 hT) rfl rfl (fun _ => hX.ps) ?_
        refine v_call (w := 3) [some (2, 121), some (0, 7), some (0, (τ 1 i))] hO (hi_X12_readStep_80 hT) rfl rfl (rx_fail hT hO 7 hX h1 (by decide) (fun g11 ft11 c11 => ?_))
        · show vP D T N 304 83 g11 [some (2, 121), some (0, (d : Int)), some (0, 7), some (0, 1), none] [] _
          refine vP_hv (fun hv11 => ?_)
          refine v_load (v := (2, 121)) (hi_X12_readStep_83 hT) rfl rfl ?_
          refine v_getf (v := (0, (eF τ i 7).1)) (r := 121) (hi_X12_readStep_84 hT) rfl rfl (fun _ => c11.1) ?_
          refine v_if (hi_X12_readStep_87 hT) (fun _ => ?_) (fun hc12 => absurd (show 0 < (eF τ i 7).1 from c11.2.1) hc12)
          refine v_ret0 (hi_X12_readStep_90 hT) ?_
          exact er _ _ (by simp only [pStep, hE, hsw, htw, hop, h15, opW15, harg, pNm, pWord, pSg, (show ¬ 30 ≤ s from by omega), (show 3 ≤ d from by omega), ne_eq, not_true_eq_false, not_false_eq_true, if_true, if_false, eq_self, eb_l, eb_r, and_true, true_and, and_false, false_and]) c11 (roF.t roF.rfl ft11)
      · have hc10 : (d : Int) ≠ 3 := hc10
        refine v_load (v := (2, 121)) (hi_X12_readStep_83 hT) rfl rfl ?_
        refine v_getf (v := (0, 0)) (r := 121) (hi_X12_readStep_84 hT) rfl rfl (fun _ => hX.b) ?_
        refine v_if (hi_X12_readStep_87 hT) (fun hc13 => absurd (show 0 < (0 : Int) from hc13) (by decide)) (fun _ => ?_)
        refine v_push (2477) (hi_X12_readStep_91 hT) rfl ?_
        refine v_push (9) (hi_X12_readStep_94 hT) rfl ?_
        refine v_load (v := (2, 121)) (hi_X12_readStep_96 hT) rfl rfl ?_
        refine v_getf (v := (0, (s : Int))) (r := 121) (hi_X12_readStep_97 hT) rfl rfl (fun _ => hs) ?_
        refine v_bin (w := (9 * (s : Int))) (hi_X12_readStep_100 hT) (hq_mul (by omega) (by omega)) ?_
        refine v_bin (w := (2477 + (9 * (s : Int)))) (hi_X12_readStep_101 hT) (hq_add (by omega) (by omega)) ?_
        refine v_store1 [some (2, 121), some (0, (d : Int)), some (0, 7), some (0, 1), some (0, (2477 + (9 * (s : Int))))] (hi_X12_readStep_102 hT) ⟨rfl, Nat.ne_of_beq_eq_false rfl⟩ (Nat.le_of_ble_eq_true rfl) rfl ?_
        refine v_load (v := (2, 121)) (hi_X12_readStep_104 hT) rfl rfl ?_
        refine v_dup (hi_X12_readStep_105 hT) (Nat.ne_of_beq_eq_false rfl) ?_
        refine v_getf (v := (0, (s : Int))) (r := 121) (hi_X12_readStep_106 hT) rfl rfl (fun _ => hs) ?_
        refine v_push (1) (hi_X12_readStep_109 hT) rfl ?_
        refine v_bin (w := ((s : Int) + 1)) (hi_X12_readStep_110 hT) (hq_add (by omega) (by omega)) ?_
        refine v_putf (r := 121) hO (hi_X12_readStep_111 hT) rfl (fun hf14 => ?_)
        refine v_load (v := (2, 121)) (hi_X12_readStep_114 hT) rfl rfl ?_
        refine v_call (w := 2) [some (2, 121), none] hO (hi_X12_readStep_115 hT) rfl rfl (rx_next hT hO (rX.zf (k := 25) (v := (0, ((s : Int) + 1))) (by decide) hX) (ne_10 h1) (ne_14 h1) (fun g15 ft15 hX15 => ?_))
        · show vP D T N 304 118 g15 [some (2, 121), some (0, (d : Int)), some (0, 7), some (0, 1), some (0, (2477 + (9 * (s : Int))))] [] _
          refine vP_hv (fun hv15 => ?_)
          refine v_load (v := (2, 121)) (hi_X12_readStep_118 hT) rfl rfl ?_
          refine v_getR (c := 126) (r := 121) (hi_X12_readStep_119 hT) rfl rfl rfl ?_
          refine v_load (v := (0, (2477 + (9 * (s : Int))))) (hi_X12_readStep_122 hT) rfl rfl ?_
          refine v_load (v := (0, 7)) (hi_X12_readStep_124 hT) rfl rfl ?_
          refine v_ast (r := 126) (hi_X12_readStep_125 hT) rfl rfl (fun ha16 hb17 hf18 => ?_)
          refine v_load (v := (2, 121)) (hi_X12_readStep_126 hT) rfl rfl ?_
          refine v_load (v := (0, (2477 + (9 * (s : Int))))) (hi_X12_readStep_127 hT) rfl rfl ?_
          refine v_call (w := 3) [some (2, 121), some (0, (2477 + (9 * (s : Int)))), none] hO (hi_X12_readStep_129 hT) rfl rfl ?_
          refine v_load (v := (2, 121)) (hi_X12_readRest_0 hT) rfl rfl ?_
          refine v_getR (c := 126) (r := 121) (hi_X12_readRest_1 hT) rfl rfl rfl ?_
          refine v_load (v := (0, (2477 + (9 * (s : Int))))) (hi_X12_readRest_4 hT) rfl rfl ?_
          refine v_aldV (v := (0, 7)) (r := 126) (hi_X12_readRest_5 hT) rfl rfl (fun _ _ _ => zset_same) (fun ha19 hb20 => ?_)
          refine v_store1 [some (2, 121), some (0, (2477 + (9 * (s : Int)))), some (0, 7)] (hi_X12_readRest_6 hT) ⟨rfl, Nat.ne_of_beq_eq_false rfl⟩ (Nat.le_of_ble_eq_true rfl) rfl ?_
          refine v_load (v := (0, 7)) (hi_X12_readRest_7 hT) rfl rfl ?_
          refine v_if (hi_X12_readRest_8 hT) (fun hc21 => absurd (show (7 : Int) = 0 from hc21) (by decide)) (fun _ => ?_)
          refine v_load (v := (0, 7)) (hi_X12_readRest_11 hT) rfl rfl ?_
          refine v_push (2) (hi_X12_readRest_12 hT) rfl ?_
          refine v_ic (hi_X12_readRest_13 hT) (fun hc22 => absurd (show (7 : Int) = 2 from hc22) (by decide)) (fun _ => ?_)
          refine v_load (v := (0, 7)) (hi_X12_readRest_52 hT) rfl rfl ?_
          refine v_push (1) (hi_X12_readRest_53 hT) rfl ?_
          refine v_ic (hi_X12_readRest_54 hT) (fun hc23 => absurd (show (7 : Int) = 1 from hc23) (by decide)) (fun _ => ?_)
          refine v_load (v := (0, 7)) (hi_X12_readRest_72 hT) rfl rfl ?_
          refine v_push (3) (hi_X12_readRest_73 hT) rfl ?_
          refine v_ic (hi_X12_readRest_74 hT) (fun hc24 => absurd (show (7 : Int) = 3 from hc24) (by decide)) (fun _ => ?_)
          refine v_load (v := (0, 7)) (hi_X12_readRest_112 hT) rfl rfl ?_
          refine v_push (4) (hi_X12_readRest_113 hT) rfl ?_
          refine v_ic (hi_X12_readRest_114 hT) (fun hc25 => absurd (show (7 : Int) = 4 from hc25) (by decide)) (fun _ => ?_)
          refine v_load (v := (0, 7)) (hi_X12_readRest_155 hT) rfl rfl ?_
          refine v_push (5) (hi_X12_readRest_156 hT) rfl ?_
          refine v_ic (hi_X12_readRest_157 hT) (fun hc26 => absurd (show (7 : Int) = 5 from hc26) (by decide)) (fun _ => ?_)
          refine v_load (v := (0, 7)) (hi_X12_readRest_175 hT) rfl rfl ?_
          refine v_push (7) (hi_X12_readRest_176 hT) rfl ?_
          refine v_ic (hi_X12_readRest_178 hT) (fun _ => ?_) (fun hc27 => absurd (show (7 : Int) = 7 from (by decide)) hc27)
          refine v_load (v := (2, 121)) (hi_X12_readRest_181 hT) rfl rfl ?_
          refine v_load (v := (0, (2477 + (9 * (s : Int))))) (hi_X12_readRest_182 hT) rfl rfl ?_
          refine v_call (w := 3) [some (2, 121), some (0, (2477 + (9 * (s : Int)))), none] hO (hi_X12_readRest_183 hT) rfl rfl ?_
          refine v_load (v := (2, 121)) (hi_X12_readTest_0 hT) rfl rfl ?_
          refine v_call (w := 1) [some (2, 121)] hO (hi_X12_readTest_1 hT) rfl rfl (rx_testK hT hO 2 (rX.z (r := 126) (k := (((2477 + (9 * (s : Int)))).toNat)) (v := (0, 7)) (by decide) hX15) h1b h3b (by decide) ?_)
          · show vP D T N 305 4 (zset g15 126 (((2477 + (9 * (s : Int)))).toNat) (0, 7)) [some (2, 121), some (0, (2477 + (9 * (s : Int)))), none] [(0, 2)] _
            refine v_store1 [some (2, 121), some (0, (2477 + (9 * (s : Int)))), some (0, 2)] (hi_X12_readTest_4 hT) ⟨rfl, Nat.ne_of_beq_eq_false rfl⟩ (Nat.le_of_ble_eq_true rfl) rfl ?_
            refine v_load (v := (2, 121)) (hi_X12_readTest_5 hT) rfl rfl ?_
            refine v_load (v := (0, 2)) (hi_X12_readTest_6 hT) rfl rfl ?_
            refine v_if (hi_X12_readTest_7 hT) (fun hc28 => absurd (show (2 : Int) < 0 from hc28) (by decide)) (fun _ => ?_)
            refine v_push (1) (hz_X12_readTest hT _ _ rfl) rfl ?_
            refine v_goto (hz_X12_readTest hT _ _ rfl) ?_
            refine v_call (w := 2) [some (2, 121), some (0, 1)] hO (hi_X12_readTest_15 hT) rfl rfl (rx_must hT hO 1 (rX.z (r := 126) (k := (((2477 + (9 * (s : Int)))).toNat)) (v := (0, 7)) (by decide) hX15) (fun _ => ⟨ne_10 h1b, ne_14 h1b⟩) (k2 := fun _ _ c => absurd c (by decide)) (fun g30 ft30 nz29 hX30 => ?_))
            · show vP D T N 305 18 g30 [some (2, 121), some (0, (2477 + (9 * (s : Int)))), some (0, 2)] [] _
              refine vP_hv (fun hv30 => ?_)
              refine v_load (v := (2, 121)) (hi_X12_readTest_18 hT) rfl rfl ?_
              refine v_getR (c := 126) (r := 121) (hi_X12_readTest_19 hT) rfl rfl rfl ?_
              refine v_load (v := (0, (2477 + (9 * (s : Int))))) (hi_X12_readTest_22 hT) rfl rfl ?_
              refine v_push (6) (hi_X12_readTest_23 hT) rfl ?_
              refine v_bin (w := ((2477 + (9 * (s : Int))) + 6)) (hi_X12_readTest_25 hT) (hq_add (by omega) (by omega)) ?_
              refine v_load (v := (0, 2)) (hi_X12_readTest_26 hT) rfl rfl ?_
              refine v_ast (r := 126) (hi_X12_readTest_27 hT) rfl rfl (fun ha31 hb32 hf33 => ?_)
              refine v_load (v := (0, 2)) (hi_X12_readTest_28 hT) rfl rfl ?_
              refine v_if (hi_X12_readTest_29 hT) (fun hc34 => absurd (show (2 : Int) = 0 from hc34) (by decide)) (fun _ => ?_)
              refine v_load (v := (0, 2)) (hz_X12_readTest hT _ _ rfl) rfl rfl ?_
              refine v_push (1) (hz_X12_readTest hT _ _ rfl) rfl ?_
              refine v_ic (hz_X12_readTest hT _ _ rfl) (fun hc35 => absurd (show (2 : Int) = 1 from hc35) (by decide)) (fun _ => ?_)
              refine v_load (v := (2, 121)) (hz_X12_readTest hT _ _ rfl) rfl rfl ?_
              refine v_getf (v := (0, 0)) (r := 121) (hz_X12_readTest hT _ _ rfl) rfl rfl (fun _ => Eq.trans (zset_ne (fun c => absurd c.1 (by decide))) (hX30.b)) ?_
              refine v_if (hz_X12_readTest hT _ _ rfl) (fun _ => ?_) (fun hc36 => absurd (show (0 : Int) = 0 from (by decide)) hc36)
              refine v_load (v := (2, 121)) (hz_X12_readTest hT _ _ rfl) rfl rfl ?_
              refine v_getR (c := 126) (r := 121) (hz_X12_readTest hT _ _ rfl) rfl rfl rfl ?_
              refine v_load (v := (0, (2477 + (9 * (s : Int))))) (hz_X12_readTest hT _ _ rfl) rfl rfl ?_
              refine v_push (7) (hz_X12_readTest hT _ _ rfl) rfl ?_
              refine v_bin (w := ((2477 + (9 * (s : Int))) + 7)) (hz_X12_readTest hT _ _ rfl) (hq_add (by omega) (by omega)) ?_
              refine v_load (v := (2, 121)) (hz_X12_readTest hT _ _ rfl) rfl rfl ?_
              refine v_getf (v := (0, (τ 0 (i + 1 + 1)))) (r := 121) (hz_X12_readTest hT _ _ rfl) rfl rfl (fun _ => Eq.trans (zset_ne (fun c => absurd c.1 (by decide))) (hX30.tk)) ?_
              refine v_push (3) (hz_X12_readTest hT _ _ rfl) rfl ?_
              refine v_ic (hz_X12_readTest hT _ _ rfl) (fun hc37 => ?_) (fun hc37 => ?_)
              · have hc37 : (τ 0 (i + 1 + 1)) = 3 := hc37
                refine v_load (v := (2, 121)) (hz_X12_readTest hT _ _ rfl) rfl rfl ?_
                refine v_getf (v := (0, (τ 3 (i + 1 + 1)))) (r := 121) (hz_X12_readTest hT _ _ rfl) rfl rfl (fun _ => Eq.trans (zset_ne (fun c => absurd c.1 (by decide))) ((hX30.n3 hc37))) ?_
                refine v_goto (hz_X12_readTest hT _ _ rfl) ?_
                refine v_ast (r := 126) (hz_X12_readTest hT _ _ rfl) rfl rfl (fun ha38 hb39 hf40 => ?_)
                refine v_load (v := (2, 121)) (hz_X12_readTest hT _ _ rfl) rfl rfl ?_
                refine v_load (v := (2, 121)) (hz_X12_readTest hT _ _ rfl) rfl rfl ?_
                refine v_push (60) (hz_X12_readTest hT _ _ rfl) rfl ?_
                refine v_call (w := 2) [some (2, 121), some (0, 60)] hO (hz_X12_readTest hT _ _ rfl) rfl rfl (rx_isSign hT hO 60 (rX.z (r := 126) (k := ((((2477 + (9 * (s : Int))) + 7)).toNat)) (v := (0, (τ 3 (i + 1 + 1)))) (by decide) (rX.z (r := 126) (k := ((((2477 + (9 * (s : Int))) + 6)).toNat)) (v := (0, 2)) (by decide) hX30)) ?_)
                · show vP D T N 305 127 (zset (zset g30 126 ((((2477 + (9 * (s : Int))) + 6)).toNat) (0, 2)) 126 ((((2477 + (9 * (s : Int))) + 7)).toNat) (0, (τ 3 (i + 1 + 1)))) [some (2, 121), some (0, (2477 + (9 * (s : Int)))), some (0, 2)] [(0, (bG τ 60 (i + 1 + 1))), (2, 121)] _
                  refine v_if (hz_X12_readTest hT _ _ rfl) (fun hc41 => ?_) (fun hc41 => ?_)
                  · have hc41 : (bG τ 60 (i + 1 + 1)) = 0 := hc41
                    refine v_load (v := (2, 121)) (hz_X12_readTest hT _ _ rfl) rfl rfl ?_
                    refine v_push (62) (hz_X12_readTest hT _ _ rfl) rfl ?_
                    refine v_call (w := 2) [some (2, 121), some (0, 62)] hO (hz_X12_readTest hT _ _ rfl) rfl rfl (rx_isSign hT hO 62 (rX.z (r := 126) (k := ((((2477 + (9 * (s : Int))) + 7)).toNat)) (v := (0, (τ 3 (i + 1 + 1)))) (by decide) (rX.z (r := 126) (k := ((((2477 + (9 * (s : Int))) + 6)).toNat)) (v := (0, 2)) (by decide) hX30)) ?_)
                    · show vP D T N 305 136 (zset (zset g30 126 ((((2477 + (9 * (s : Int))) + 6)).toNat) (0, 2)) 126 ((((2477 + (9 * (s : Int))) + 7)).toNat) (0, (τ 3 (i + 1 + 1)))) [some (2, 121), some (0, (2477 + (9 * (s : Int)))), some (0, 2)] [(0, (bG τ 62 (i + 1 + 1))), (2, 121)] _
                      refine v_if (hz_X12_readTest hT _ _ rfl) (fun hc42 => ?_) (fun hc42 => ?_)
                      · have hc42 : (bG τ 62 (i + 1 + 1)) = 0 := hc42
                        refine v_load (v := (2, 121)) (hz_X12_readTest hT _ _ rfl) rfl rfl ?_
                        refine v_push (61) (hz_X12_readTest hT _ _ rfl) rfl ?_
                        refine v_call (w := 2) [some (2, 121), some (0, 61)] hO (hz_X12_readTest hT _ _ rfl) rfl rfl (rx_isSign hT hO 61 (rX.z (r := 126) (k := ((((2477 + (9 * (s : Int))) + 7)).toNat)) (v := (0, (τ 3 (i + 1 + 1)))) (by decide) (rX.z (r := 126) (k := ((((2477 + (9 * (s : Int))) + 6)).toNat)) (v := (0, 2)) (by decide) hX30)) ?_)
                        · show vP D T N 305 145 (zset (zset g30 126 ((((2477 + (9 * (s : Int))) + 6)).toNat) (0, 2)) 126 ((((2477 + (9 * (s : Int))) + 7)).toNat) (0, (τ 3 (i + 1 + 1)))) [some (2, 121), some (0, (2477 + (9 * (s : Int)))), some (0, 2)] [(0, (bG τ 61 (i + 1 + 1))), (2, 121)] _
                          refine v_if (hz_X12_readTest hT _ _ rfl) (fun hc43 => ?_) (fun hc43 => ?_)
                          · have hc43 : (bG τ 61 (i + 1 + 1)) = 0 := hc43
                            refine v_push (0) (hz_X12_readTest hT _ _ rfl) rfl ?_
                            refine v_call (w := 2) [some (2, 121), some (0, 0)] hO (hi_X12_readTest_153 hT) rfl rfl (rx_must hT hO 0 (rX.z (r := 126) (k := ((((2477 + (9 * (s : Int))) + 7)).toNat)) (v := (0, (τ 3 (i + 1 + 1)))) (by decide) (rX.z (r := 126) (k := ((((2477 + (9 * (s : Int))) + 6)).toNat)) (v := (0, 2)) (by decide) hX30)) (fun c => absurd rfl c) (fun _ _ c => absurd rfl c) (fun g44 ft44 _ c44 => ?_))
                            · show vP D T N 305 156 g44 [some (2, 121), some (0, (2477 + (9 * (s : Int)))), some (0, 2)] [] _
                              refine vP_hv (fun hv44 => ?_)
                              refine v_load (v := (2, 121)) (hi_X12_readTest_156 hT) rfl rfl ?_
                              refine v_getR (c := 126) (r := 121) (hi_X12_readTest_157 hT) rfl rfl rfl ?_
                              refine v_load (v := (0, (2477 + (9 * (s : Int))))) (hi_X12_readTest_160 hT) rfl rfl ?_
                              refine v_push (2) (hi_X12_readTest_161 hT) rfl ?_
                              refine v_bin (w := ((2477 + (9 * (s : Int))) + 2)) (hi_X12_readTest_162 hT) (hq_add (by omega) (by omega)) ?_
                              refine v_load (v := (2, 121)) (hi_X12_readTest_163 hT) rfl rfl ?_
                              refine v_push (0) (hi_X12_readTest_164 hT) rfl ?_
                              refine v_push (9999) (hi_X12_readTest_165 hT) rfl ?_
                              refine v_call (w := 4) [some (2, 121), some (0, 0), some (0, 9999), none] hO (hi_X12_readTest_168 hT) rfl rfl (rx_numB hT hO 0 9999 c44 ?_)
                              · show vP D T N 305 171 g44 [some (2, 121), some (0, (2477 + (9 * (s : Int)))), some (0, 2)] [(0, 0), (0, ((2477 + (9 * (s : Int))) + 2)), (2, 126)] _
                                refine v_ast (r := 126) (hi_X12_readTest_171 hT) rfl rfl (fun ha45 hb46 hf47 => ?_)
                                refine v_ret0 (hi_X12_readTest_172 hT) ?_
                                show vP D T N 301 186 (zset g44 126 ((((2477 + (9 * (s : Int))) + 2)).toNat) (0, 0)) [some (2, 121), some (0, (2477 + (9 * (s : Int)))), some (0, 7)] [] _
                                refine v_goto (hi_X12_readRest_186 hT) ?_
                                refine v_ret0 (hi_X12_readRest_210 hT) ?_
                                show vP D T N 304 132 (zset g44 126 ((((2477 + (9 * (s : Int))) + 2)).toNat) (0, 0)) [some (2, 121), some (0, (d : Int)), some (0, 7), some (0, 1), some (0, (2477 + (9 * (s : Int))))] [] _
                                refine v_load (v := (2, 121)) (hi_X12_readStep_132 hT) rfl rfl ?_
                                refine v_load (v := (2, 121)) (hi_X12_readStep_133 hT) rfl rfl ?_
                                refine v_push (59) (hi_X12_readStep_134 hT) rfl ?_
                                refine v_call (w := 2) [some (2, 121), some (0, 59)] hO (hi_X12_readStep_136 hT) rfl rfl (rb_any_isSign hT hO (fun v48 => ?_))
                                · show vP D T N 304 139 (zset g44 126 ((((2477 + (9 * (s : Int))) + 2)).toNat) (0, 0)) [some (2, 121), some (0, (d : Int)), some (0, 7), some (0, 1), some (0, (2477 + (9 * (s : Int))))] [(0, v48), (2, 121)] _
                                  refine v_call (w := 2) [some (2, 121), some (0, v48)] hO (hi_X12_readStep_139 hT) rfl rfl (rx_mustB hT hO v48 (rE.z (r := 126) (k := ((((2477 + (9 * (s : Int))) + 2)).toNat)) (v := (0, 0)) (by decide) c44) ?_)
                                  · show vP D T N 304 142 (zset g44 126 ((((2477 + (9 * (s : Int))) + 2)).toNat) (0, 0)) [some (2, 121), some (0, (d : Int)), some (0, 7), some (0, 1), some (0, (2477 + (9 * (s : Int))))] [] _
                                    refine v_load (v := (0, 1)) (hi_X12_readStep_142 hT) rfl rfl ?_
                                    refine v_if (hi_X12_readStep_143 hT) (fun hc49 => absurd (show (1 : Int) = 0 from hc49) nz29) (fun _ => ?_)
                                    refine v_load (v := (2, 121)) (hi_X12_readStep_146 hT) rfl rfl ?_
                                    refine v_getf (v := (0, (eF τ (i + 1 + 1) 2).1)) (r := 121) (hi_X12_readStep_147 hT) rfl rfl (fun _ => Eq.trans (zset_ne (fun c => absurd c.1 (by decide))) (c44.1)) ?_
                                    refine v_if (hi_X12_readStep_150 hT) (fun hc50 => absurd (show (eF τ (i + 1 + 1) 2).1 = 0 from hc50) (by have := c44.2.1; omega)) (fun _ => ?_)
                                    refine v_load (v := (0, 1)) (hi_X12_readStep_170 hT) rfl rfl ?_
                                    refine v_if (hi_X12_readStep_171 hT) (fun hc51 => absurd (show (1 : Int) = 0 from hc51) nz29) (fun _ => ?_)
                                    refine v_load (v := (2, 121)) (hi_X12_readStep_174 hT) rfl rfl ?_
                                    refine v_load (v := (2, 121)) (hi_X12_readStep_175 hT) rfl rfl ?_
                                    refine v_call (w := 1) [some (2, 121)] hO (hi_X12_readStep_176 hT) rfl rfl (rb_any_isEnd hT hO (fun v52 => ?_))
                                    · show vP D T N 304 179 (zset g44 126 ((((2477 + (9 * (s : Int))) + 2)).toNat) (0, 0)) [some (2, 121), some (0, (d : Int)), some (0, 7), some (0, 1), some (0, (2477 + (9 * (s : Int))))] [(0, v52), (2, 121)] _
                                      refine v_call (w := 2) [some (2, 121), some (0, v52)] hO (hi_X12_readStep_179 hT) rfl rfl (rx_mustB hT hO v52 (rE.z (r := 126) (k := ((((2477 + (9 * (s : Int))) + 2)).toNat)) (v := (0, 0)) (by decide) c44) ?_)
                                      · show vP D T N 304 182 (zset g44 126 ((((2477 + (9 * (s : Int))) + 2)).toNat) (0, 0)) [some (2, 121), some (0, (d : Int)), some (0, 7), some (0, 1), some (0, (2477 + (9 * (s : Int))))] [] _
                                        refine v_load (v := (2, 121)) (hi_X12_readStep_182 hT) rfl rfl ?_
                                        refine v_load (v := (2, 121)) (hi_X12_readStep_183 hT) rfl rfl ?_
                                        refine v_push (59) (hi_X12_readStep_184 hT) rfl ?_
                                        refine v_call (w := 2) [some (2, 121), some (0, 59)] hO (hi_X12_readStep_186 hT) rfl rfl (rb_any_isSign hT hO (fun v53 => ?_))
                                        · show vP D T N 304 189 (zset g44 126 ((((2477 + (9 * (s : Int))) + 2)).toNat) (0, 0)) [some (2, 121), some (0, (d : Int)), some (0, 7), some (0, 1), some (0, (2477 + (9 * (s : Int))))] [(0, v53), (2, 121)] _
                                          refine v_call (w := 2) [some (2, 121), some (0, v53)] hO (hi_X12_readStep_189 hT) rfl rfl (rx_mustB hT hO v53 (rE.z (r := 126) (k := ((((2477 + (9 * (s : Int))) + 2)).toNat)) (v := (0, 0)) (by decide) c44) ?_)
                                          · show vP D T N 304 192 (zset g44 126 ((((2477 + (9 * (s : Int))) + 2)).toNat) (0, 0)) [some (2, 121), some (0, (d : Int)), some (0, 7), some (0, 1), some (0, (2477 + (9 * (s : Int))))] [] _
                                            refine v_load (v := (2, 121)) (hi_X12_readStep_192 hT) rfl rfl ?_
                                            refine v_getR (c := 126) (r := 121) (hi_X12_readStep_193 hT) rfl rfl rfl ?_
                                            refine v_load (v := (0, (2477 + (9 * (s : Int))))) (hi_X12_readStep_196 hT) rfl rfl ?_
                                            refine v_push (8) (hi_X12_readStep_198 hT) rfl ?_
                                            refine v_bin (w := ((2477 + (9 * (s : Int))) + 8)) (hi_X12_readStep_200 hT) (hq_add (by omega) (by omega)) ?_
                                            refine v_load (v := (2, 121)) (hi_X12_readStep_201 hT) rfl rfl ?_
                                            refine v_getf (v := (0, ((s : Int) + 1))) (r := 121) (hi_X12_readStep_202 hT) rfl rfl (fun _ => Eq.trans (zset_ne (fun c => absurd c.1 (by decide))) ((Eq.trans (ft44 121 25 (by first | decide | exact fun c => by omega)) (Eq.trans (Eq.trans (zset_ne (fun c => absurd c.1 (by decide))) (zset_ne (fun c => absurd c.1 (by decide)))) ((Eq.trans (ft30 121 25 (by first | decide | exact fun c => by omega)) (Eq.trans (zset_ne (fun c => absurd c.1 (by decide))) ((Eq.trans (ft15 121 25 (by first | decide | exact fun c => by omega)) (zset_same)))))))))) ?_
                                            refine v_ast (r := 126) (hi_X12_readStep_205 hT) rfl rfl (fun ha54 hb55 hf56 => ?_)
                                            refine v_ret0 (hi_X12_readStep_206 hT) ?_
                                            exact er _ _ (by simp only [pStep, hE, hsw, htw, hop, h15, opW15, harg, pNm, pWord, pSg, (show ¬ 30 ≤ s from by omega), (show ¬ 3 ≤ d from by omega), pCm_n hc41 hc42 hc43, ne_eq, not_true_eq_false, not_false_eq_true, if_true, if_false, eq_self, eb_l, eb_r, and_true, true_and, and_false, false_and]) (rE.z (r := 126) (k := ((((2477 + (9 * (s : Int))) + 8)).toNat)) (v := (0, ((s : Int) + 1))) (by decide) (rE.z (r := 126) (k := ((((2477 + (9 * (s : Int))) + 2)).toNat)) (v := (0, 0)) (by decide) c44)) (roF.z (a := 126) (b := ((((2477 + (9 * (s : Int))) + 8)).toNat)) (v := (0, ((s : Int) + 1))) (by omega) (roF.z (a := 126) (b := ((((2477 + (9 * (s : Int))) + 2)).toNat)) (v := (0, 0)) (by omega) (roF.t (roF.z (a := 126) (b := ((((2477 + (9 * (s : Int))) + 7)).toNat)) (v := (0, (τ 3 (i + 1 + 1)))) (by omega) (roF.z (a := 126) (b := ((((2477 + (9 * (s : Int))) + 6)).toNat)) (v := (0, 2)) (by omega) (roF.t (roF.z (a := 126) (b := (((2477 + (9 * (s : Int)))).toNat)) (v := (0, 7)) (by omega) (roF.t (roF.z (a := 121) (b := 25) (v := (0, ((s : Int) + 1))) (by omega) roF.rfl) ft15)) ft30))) ft44)))
                          · have hc43 : (bG τ 61 (i + 1 + 1)) ≠ 0 := hc43
                            refine v_push (1) (hi_X12_readTest_148 hT) rfl ?_
                            refine v_goto (hi_X12_readTest_149 hT) ?_
                            refine v_call (w := 2) [some (2, 121), some (0, 1)] hO (hi_X12_readTest_153 hT) rfl rfl (rx_must hT hO 1 (rX.z (r := 126) (k := ((((2477 + (9 * (s : Int))) + 7)).toNat)) (v := (0, (τ 3 (i + 1 + 1)))) (by decide) (rX.z (r := 126) (k := ((((2477 + (9 * (s : Int))) + 6)).toNat)) (v := (0, 2)) (by decide) hX30)) (fun _ => ⟨by have := (bG_y.mp hc43).1; omega, by have := (bG_y.mp hc43).1; omega⟩) (k2 := fun _ _ c => absurd c (by decide)) (fun g58 ft58 nz57 hX58 => ?_))
                            · show vP D T N 305 156 g58 [some (2, 121), some (0, (2477 + (9 * (s : Int)))), some (0, 2)] [] _
                              refine vP_hv (fun hv58 => ?_)
                              refine v_load (v := (2, 121)) (hi_X12_readTest_156 hT) rfl rfl ?_
                              refine v_getR (c := 126) (r := 121) (hi_X12_readTest_157 hT) rfl rfl rfl ?_
                              refine v_load (v := (0, (2477 + (9 * (s : Int))))) (hi_X12_readTest_160 hT) rfl rfl ?_
                              refine v_push (2) (hi_X12_readTest_161 hT) rfl ?_
                              refine v_bin (w := ((2477 + (9 * (s : Int))) + 2)) (hi_X12_readTest_162 hT) (hq_add (by omega) (by omega)) ?_
                              refine v_load (v := (2, 121)) (hi_X12_readTest_163 hT) rfl rfl ?_
                              refine v_push (0) (hi_X12_readTest_164 hT) rfl ?_
                              refine v_push (9999) (hi_X12_readTest_165 hT) rfl ?_
                              refine v_call (w := 4) [some (2, 121), some (0, 0), some (0, 9999), none] hO (hi_X12_readTest_168 hT) rfl rfl (rx_num hT hO 0 9999 hX58 (fun g60 x59 ft60 q60 bux59 bvx59 hX60 => ?_) (fun g61 e61 ft61 q61 c61 => ?_))
                              · show vP D T N 305 171 g60 [some (2, 121), some (0, (2477 + (9 * (s : Int)))), some (0, 2)] [(0, x59), (0, ((2477 + (9 * (s : Int))) + 2)), (2, 126)] _
                                refine vP_hv (fun hv60 => ?_)
                                refine v_ast (r := 126) (hi_X12_readTest_171 hT) rfl rfl (fun ha62 hb63 hf64 => ?_)
                                refine v_ret0 (hi_X12_readTest_172 hT) ?_
                                show vP D T N 301 186 (zset g60 126 ((((2477 + (9 * (s : Int))) + 2)).toNat) (0, x59)) [some (2, 121), some (0, (2477 + (9 * (s : Int)))), some (0, 7)] [] _
                                refine v_goto (hi_X12_readRest_186 hT) ?_
                                refine v_ret0 (hi_X12_readRest_210 hT) ?_
                                show vP D T N 304 132 (zset g60 126 ((((2477 + (9 * (s : Int))) + 2)).toNat) (0, x59)) [some (2, 121), some (0, (d : Int)), some (0, 7), some (0, 1), some (0, (2477 + (9 * (s : Int))))] [] _
                                refine v_load (v := (2, 121)) (hi_X12_readStep_132 hT) rfl rfl ?_
                                refine v_load (v := (2, 121)) (hi_X12_readStep_133 hT) rfl rfl ?_
                                refine v_push (59) (hi_X12_readStep_134 hT) rfl ?_
                                refine v_call (w := 2) [some (2, 121), some (0, 59)] hO (hi_X12_readStep_136 hT) rfl rfl (rx_isSign hT hO 59 (rX.z (r := 126) (k := ((((2477 + (9 * (s : Int))) + 2)).toNat)) (v := (0, x59)) (by decide) hX60) ?_)
                                · show vP D T N 304 139 (zset g60 126 ((((2477 + (9 * (s : Int))) + 2)).toNat) (0, x59)) [some (2, 121), some (0, (d : Int)), some (0, 7), some (0, 1), some (0, (2477 + (9 * (s : Int))))] [(0, (bG τ 59 (i + 1 + 1 + 1 + 1))), (2, 121)] _
                                  refine v_call (w := 2) [some (2, 121), some (0, (bG τ 59 (i + 1 + 1 + 1 + 1)))] hO (hi_X12_readStep_139 hT) rfl rfl (rx_must hT hO ((bG τ 59 (i + 1 + 1 + 1 + 1))) (rX.z (r := 126) (k := ((((2477 + (9 * (s : Int))) + 2)).toNat)) (v := (0, x59)) (by decide) hX60) (fun c => ⟨by have := (bG_y.mp c).1; omega, by have := (bG_y.mp c).1; omega⟩) (fun g66 ft66 hc65 hX66 => ?_) (fun g67 ft67 hc67 c67 => ?_))
                                  · show vP D T N 304 142 g66 [some (2, 121), some (0, (d : Int)), some (0, 7), some (0, 1), some (0, (2477 + (9 * (s : Int))))] [] _
                                    refine vP_hv (fun hv66 => ?_)
                                    have kp_ : ∀ e, g66 126 e = (zset (zset (zset (zset h 126 (((2477 + (9 * (s : Int)))).toNat) (0, 7)) 126 ((((2477 + (9 * (s : Int))) + 6)).toNat) (0, 2)) 126 ((((2477 + (9 * (s : Int))) + 7)).toNat) (0, (τ 3 (i + 1 + 1)))) 126 ((((2477 + (9 * (s : Int))) + 2)).toNat) (0, x59)) 126 e := (kr_f (fun e => ft66 126 e (fun c => by omega)) (kr_z (k := ((((2477 + (9 * (s : Int))) + 2)).toNat)) (v := (0, x59)) (kr_f (fun e => ft60 126 e (fun c => by omega)) (kr_f (fun e => ft58 126 e (fun c => by omega)) (kr_z (k := ((((2477 + (9 * (s : Int))) + 7)).toNat)) (v := (0, (τ 3 (i + 1 + 1)))) (kr_z (k := ((((2477 + (9 * (s : Int))) + 6)).toNat)) (v := (0, 2)) (kr_f (fun e => ft30 126 e (fun c => by omega)) (kr_z (k := (((2477 + (9 * (s : Int)))).toNat)) (v := (0, 7)) (kr_f (fun e => ft15 126 e (fun c => by omega)) (kr_n (a := 121) (k := 25) (v := (0, ((s : Int) + 1))) (by decide) (fun _ => Eq.refl _)))))))))))
                                    exact ih _ (s + 1) (d + 1) (i + 1 + 1 + 1 + 1 + 1) _ 18 ((τ 3 (i + 1 + 1))) x59 (i + 1 + 1 + 1 + 1) (by simp only [pStep, hE, hsw, htw, hop, h15, opW15, harg, pNm, pWord, pSg, (show ¬ 30 ≤ s from by omega), (show ¬ 3 ≤ d from by omega), pCm_y (x := 61) (by decide) hc43, q60, hc65, ne_eq, not_true_eq_false, not_false_eq_true, if_true, if_false, eq_self, eb_l, eb_r, and_true, true_and, and_false, false_and]) hX66 (Eq.trans (ft66 121 25 (by first | decide | exact fun c => by omega)) (Eq.trans (zset_ne (fun c => absurd c.1 (by decide))) ((Eq.trans (ft60 121 25 (by first | decide | exact fun c => by omega)) (Eq.trans (ft58 121 25 (by first | decide | exact fun c => by omega)) (Eq.trans (Eq.trans (zset_ne (fun c => absurd c.1 (by decide))) (zset_ne (fun c => absurd c.1 (by decide)))) ((Eq.trans (ft30 121 25 (by first | decide | exact fun c => by omega)) (Eq.trans (zset_ne (fun c => absurd c.1 (by decide))) ((Eq.trans (ft15 121 25 (by first | decide | exact fun c => by omega)) (zset_same)))))))))))) (by omega) (by omega) (roF.t (roF.z (a := 126) (b := ((((2477 + (9 * (s : Int))) + 2)).toNat)) (v := (0, x59)) (by omega) (roF.t (roF.t (roF.z (a := 126) (b := ((((2477 + (9 * (s : Int))) + 7)).toNat)) (v := (0, (τ 3 (i + 1 + 1)))) (by omega) (roF.z (a := 126) (b := ((((2477 + (9 * (s : Int))) + 6)).toNat)) (v := (0, 2)) (by omega) (roF.t (roF.z (a := 126) (b := (((2477 + (9 * (s : Int)))).toNat)) (v := (0, 7)) (by omega) (roF.t (roF.z (a := 121) (b := 25) (v := (0, ((s : Int) + 1))) (by omega) roF.rfl) ft15)) ft30))) ft58) ft60)) ft66) (pItV_b h3 h3b (by simp only [hargV, pWord, (show ¬ 30 ≤ s from by omega), (show ¬ 3 ≤ d from by omega), pCm_y (x := 61) (by decide) hc43, q60, hc65, ne_eq, not_true_eq_false, not_false_eq_true, if_true, if_false, eq_self, eb_l, eb_r, and_true, true_and, and_false, false_and])) (fun e_ hn_ => (kp_ e_).trans ((zset_ne (fun c => hn_ (by omega))).trans ((zset_ne (fun c => hn_ (by omega))).trans ((zset_ne (fun c => hn_ (by omega))).trans (zset_ne (fun c => hn_ (by omega))))))) ⟨((kp_ _).trans ((zset_ne (fun c => by omega)).trans ((zset_ne (fun c => by omega)).trans ((zset_ne (fun c => by omega)).trans (zset_e (by omega)))))), (fun c => by omega), (fun c => absurd c (by decide)), (fun _ => ((kp_ _).trans (zset_e (by omega)))), (fun _ => ((kp_ _).trans ((zset_ne (fun c => by omega)).trans ((zset_ne (fun c => by omega)).trans (zset_e (by omega)))))), (fun _ => ((kp_ _).trans ((zset_ne (fun c => by omega)).trans (zset_e (by omega)))))⟩
                                  · show vP D T N 304 142 g67 [some (2, 121), some (0, (d : Int)), some (0, 7), some (0, 1), some (0, (2477 + (9 * (s : Int))))] [] _
                                    refine vP_hv (fun hv67 => ?_)
                                    refine v_load (v := (0, 1)) (hi_X12_readStep_142 hT) rfl rfl ?_
                                    refine v_if (hi_X12_readStep_143 hT) (fun hc68 => absurd (show (1 : Int) = 0 from hc68) nz29) (fun _ => ?_)
                                    refine v_load (v := (2, 121)) (hi_X12_readStep_146 hT) rfl rfl ?_
                                    refine v_getf (v := (0, (eF τ (i + 1 + 1 + 1 + 1) 2).1)) (r := 121) (hi_X12_readStep_147 hT) rfl rfl (fun _ => c67.1) ?_
                                    refine v_if (hi_X12_readStep_150 hT) (fun hc69 => absurd (show (eF τ (i + 1 + 1 + 1 + 1) 2).1 = 0 from hc69) (by have := c67.2.1; omega)) (fun _ => ?_)
                                    refine v_load (v := (0, 1)) (hi_X12_readStep_170 hT) rfl rfl ?_
                                    refine v_if (hi_X12_readStep_171 hT) (fun hc70 => absurd (show (1 : Int) = 0 from hc70) nz29) (fun _ => ?_)
                                    refine v_load (v := (2, 121)) (hi_X12_readStep_174 hT) rfl rfl ?_
                                    refine v_load (v := (2, 121)) (hi_X12_readStep_175 hT) rfl rfl ?_
                                    refine v_call (w := 1) [some (2, 121)] hO (hi_X12_readStep_176 hT) rfl rfl (rb_any_isEnd hT hO (fun v71 => ?_))
                                    · show vP D T N 304 179 g67 [some (2, 121), some (0, (d : Int)), some (0, 7), some (0, 1), some (0, (2477 + (9 * (s : Int))))] [(0, v71), (2, 121)] _
                                      refine v_call (w := 2) [some (2, 121), some (0, v71)] hO (hi_X12_readStep_179 hT) rfl rfl (rx_mustB hT hO v71 c67 ?_)
                                      · show vP D T N 304 182 g67 [some (2, 121), some (0, (d : Int)), some (0, 7), some (0, 1), some (0, (2477 + (9 * (s : Int))))] [] _
                                        refine v_load (v := (2, 121)) (hi_X12_readStep_182 hT) rfl rfl ?_
                                        refine v_load (v := (2, 121)) (hi_X12_readStep_183 hT) rfl rfl ?_
                                        refine v_push (59) (hi_X12_readStep_184 hT) rfl ?_
                                        refine v_call (w := 2) [some (2, 121), some (0, 59)] hO (hi_X12_readStep_186 hT) rfl rfl (rb_any_isSign hT hO (fun v72 => ?_))
                                        · show vP D T N 304 189 g67 [some (2, 121), some (0, (d : Int)), some (0, 7), some (0, 1), some (0, (2477 + (9 * (s : Int))))] [(0, v72), (2, 121)] _
                                          refine v_call (w := 2) [some (2, 121), some (0, v72)] hO (hi_X12_readStep_189 hT) rfl rfl (rx_mustB hT hO v72 c67 ?_)
                                          · show vP D T N 304 192 g67 [some (2, 121), some (0, (d : Int)), some (0, 7), some (0, 1), some (0, (2477 + (9 * (s : Int))))] [] _
                                            refine v_load (v := (2, 121)) (hi_X12_readStep_192 hT) rfl rfl ?_
                                            refine v_getR (c := 126) (r := 121) (hi_X12_readStep_193 hT) rfl rfl rfl ?_
                                            refine v_load (v := (0, (2477 + (9 * (s : Int))))) (hi_X12_readStep_196 hT) rfl rfl ?_
                                            refine v_push (8) (hi_X12_readStep_198 hT) rfl ?_
                                            refine v_bin (w := ((2477 + (9 * (s : Int))) + 8)) (hi_X12_readStep_200 hT) (hq_add (by omega) (by omega)) ?_
                                            refine v_load (v := (2, 121)) (hi_X12_readStep_201 hT) rfl rfl ?_
                                            refine v_getf (v := (0, ((s : Int) + 1))) (r := 121) (hi_X12_readStep_202 hT) rfl rfl (fun _ => (Eq.trans (ft67 121 25 (by first | decide | exact fun c => by omega)) (Eq.trans (zset_ne (fun c => absurd c.1 (by decide))) ((Eq.trans (ft60 121 25 (by first | decide | exact fun c => by omega)) (Eq.trans (ft58 121 25 (by first | decide | exact fun c => by omega)) (Eq.trans (Eq.trans (zset_ne (fun c => absurd c.1 (by decide))) (zset_ne (fun c => absurd c.1 (by decide)))) ((Eq.trans (ft30 121 25 (by first | decide | exact fun c => by omega)) (Eq.trans (zset_ne (fun c => absurd c.1 (by decide))) ((Eq.trans (ft15 121 25 (by first | decide | exact fun c => by omega)) (zset_same))))))))))))) ?_
                                            refine v_ast (r := 126) (hi_X12_readStep_205 hT) rfl rfl (fun ha73 hb74 hf75 => ?_)
                                            refine v_ret0 (hi_X12_readStep_206 hT) ?_
                                            exact er _ _ (by simp only [pStep, hE, hsw, htw, hop, h15, opW15, harg, pNm, pWord, pSg, (show ¬ 30 ≤ s from by omega), (show ¬ 3 ≤ d from by omega), pCm_y (x := 61) (by decide) hc43, q60, hc67, ne_eq, not_true_eq_false, not_false_eq_true, if_true, if_false, eq_self, eb_l, eb_r, and_true, true_and, and_false, false_and]) (rE.z (r := 126) (k := ((((2477 + (9 * (s : Int))) + 8)).toNat)) (v := (0, ((s : Int) + 1))) (by decide) c67) (roF.z (a := 126) (b := ((((2477 + (9 * (s : Int))) + 8)).toNat)) (v := (0, ((s : Int) + 1))) (by omega) (roF.t (roF.z (a := 126) (b := ((((2477 + (9 * (s : Int))) + 2)).toNat)) (v := (0, x59)) (by omega) (roF.t (roF.t (roF.z (a := 126) (b := ((((2477 + (9 * (s : Int))) + 7)).toNat)) (v := (0, (τ 3 (i + 1 + 1)))) (by omega) (roF.z (a := 126) (b := ((((2477 + (9 * (s : Int))) + 6)).toNat)) (v := (0, 2)) (by omega) (roF.t (roF.z (a := 126) (b := (((2477 + (9 * (s : Int)))).toNat)) (v := (0, 7)) (by omega) (roF.t (roF.z (a := 121) (b := 25) (v := (0, ((s : Int) + 1))) (by omega) roF.rfl) ft15)) ft30))) ft58) ft60)) ft67))
                              · show vP D T N 305 171 g61 [some (2, 121), some (0, (2477 + (9 * (s : Int)))), some (0, 2)] [(0, 0), (0, ((2477 + (9 * (s : Int))) + 2)), (2, 126)] _
                                refine vP_hv (fun hv61 => ?_)
                                refine v_ast (r := 126) (hi_X12_readTest_171 hT) rfl rfl (fun ha76 hb77 hf78 => ?_)
                                refine v_ret0 (hi_X12_readTest_172 hT) ?_
                                show vP D T N 301 186 (zset g61 126 ((((2477 + (9 * (s : Int))) + 2)).toNat) (0, 0)) [some (2, 121), some (0, (2477 + (9 * (s : Int)))), some (0, 7)] [] _
                                refine v_goto (hi_X12_readRest_186 hT) ?_
                                refine v_ret0 (hi_X12_readRest_210 hT) ?_
                                show vP D T N 304 132 (zset g61 126 ((((2477 + (9 * (s : Int))) + 2)).toNat) (0, 0)) [some (2, 121), some (0, (d : Int)), some (0, 7), some (0, 1), some (0, (2477 + (9 * (s : Int))))] [] _
                                refine v_load (v := (2, 121)) (hi_X12_readStep_132 hT) rfl rfl ?_
                                refine v_load (v := (2, 121)) (hi_X12_readStep_133 hT) rfl rfl ?_
                                refine v_push (59) (hi_X12_readStep_134 hT) rfl ?_
                                refine v_call (w := 2) [some (2, 121), some (0, 59)] hO (hi_X12_readStep_136 hT) rfl rfl (rb_any_isSign hT hO (fun v79 => ?_))
                                · show vP D T N 304 139 (zset g61 126 ((((2477 + (9 * (s : Int))) + 2)).toNat) (0, 0)) [some (2, 121), some (0, (d : Int)), some (0, 7), some (0, 1), some (0, (2477 + (9 * (s : Int))))] [(0, v79), (2, 121)] _
                                  refine v_call (w := 2) [some (2, 121), some (0, v79)] hO (hi_X12_readStep_139 hT) rfl rfl (rx_mustB hT hO v79 (rE.z (r := 126) (k := ((((2477 + (9 * (s : Int))) + 2)).toNat)) (v := (0, 0)) (by decide) c61) ?_)
                                  · show vP D T N 304 142 (zset g61 126 ((((2477 + (9 * (s : Int))) + 2)).toNat) (0, 0)) [some (2, 121), some (0, (d : Int)), some (0, 7), some (0, 1), some (0, (2477 + (9 * (s : Int))))] [] _
                                    refine v_load (v := (0, 1)) (hi_X12_readStep_142 hT) rfl rfl ?_
                                    refine v_if (hi_X12_readStep_143 hT) (fun hc80 => absurd (show (1 : Int) = 0 from hc80) nz29) (fun _ => ?_)
                                    refine v_load (v := (2, 121)) (hi_X12_readStep_146 hT) rfl rfl ?_
                                    refine v_getf (v := (0, e61.1)) (r := 121) (hi_X12_readStep_147 hT) rfl rfl (fun _ => Eq.trans (zset_ne (fun c => absurd c.1 (by decide))) (c61.1)) ?_
                                    refine v_if (hi_X12_readStep_150 hT) (fun hc81 => absurd (show e61.1 = 0 from hc81) (by have := c61.2.1; omega)) (fun _ => ?_)
                                    refine v_load (v := (0, 1)) (hi_X12_readStep_170 hT) rfl rfl ?_
                                    refine v_if (hi_X12_readStep_171 hT) (fun hc82 => absurd (show (1 : Int) = 0 from hc82) nz29) (fun _ => ?_)
                                    refine v_load (v := (2, 121)) (hi_X12_readStep_174 hT) rfl rfl ?_
                                    refine v_load (v := (2, 121)) (hi_X12_readStep_175 hT) rfl rfl ?_
                                    refine v_call (w := 1) [some (2, 121)] hO (hi_X12_readStep_176 hT) rfl rfl (rb_any_isEnd hT hO (fun v83 => ?_))
                                    · show vP D T N 304 179 (zset g61 126 ((((2477 + (9 * (s : Int))) + 2)).toNat) (0, 0)) [some (2, 121), some (0, (d : Int)), some (0, 7), some (0, 1), some (0, (2477 + (9 * (s : Int))))] [(0, v83), (2, 121)] _
                                      refine v_call (w := 2) [some (2, 121), some (0, v83)] hO (hi_X12_readStep_179 hT) rfl rfl (rx_mustB hT hO v83 (rE.z (r := 126) (k := ((((2477 + (9 * (s : Int))) + 2)).toNat)) (v := (0, 0)) (by decide) c61) ?_)
                                      · show vP D T N 304 182 (zset g61 126 ((((2477 + (9 * (s : Int))) + 2)).toNat) (0, 0)) [some (2, 121), some (0, (d : Int)), some (0, 7), some (0, 1), some (0, (2477 + (9 * (s : Int))))] [] _
                                        refine v_load (v := (2, 121)) (hi_X12_readStep_182 hT) rfl rfl ?_
                                        refine v_load (v := (2, 121)) (hi_X12_readStep_183 hT) rfl rfl ?_
                                        refine v_push (59) (hi_X12_readStep_184 hT) rfl ?_
                                        refine v_call (w := 2) [some (2, 121), some (0, 59)] hO (hi_X12_readStep_186 hT) rfl rfl (rb_any_isSign hT hO (fun v84 => ?_))
                                        · show vP D T N 304 189 (zset g61 126 ((((2477 + (9 * (s : Int))) + 2)).toNat) (0, 0)) [some (2, 121), some (0, (d : Int)), some (0, 7), some (0, 1), some (0, (2477 + (9 * (s : Int))))] [(0, v84), (2, 121)] _
                                          refine v_call (w := 2) [some (2, 121), some (0, v84)] hO (hi_X12_readStep_189 hT) rfl rfl (rx_mustB hT hO v84 (rE.z (r := 126) (k := ((((2477 + (9 * (s : Int))) + 2)).toNat)) (v := (0, 0)) (by decide) c61) ?_)
                                          · show vP D T N 304 192 (zset g61 126 ((((2477 + (9 * (s : Int))) + 2)).toNat) (0, 0)) [some (2, 121), some (0, (d : Int)), some (0, 7), some (0, 1), some (0, (2477 + (9 * (s : Int))))] [] _
                                            refine v_load (v := (2, 121)) (hi_X12_readStep_192 hT) rfl rfl ?_
                                            refine v_getR (c := 126) (r := 121) (hi_X12_readStep_193 hT) rfl rfl rfl ?_
                                            refine v_load (v := (0, (2477 + (9 * (s : Int))))) (hi_X12_readStep_196 hT) rfl rfl ?_
                                            refine v_push (8) (hi_X12_readStep_198 hT) rfl ?_
                                            refine v_bin (w := ((2477 + (9 * (s : Int))) + 8)) (hi_X12_readStep_200 hT) (hq_add (by omega) (by omega)) ?_
                                            refine v_load (v := (2, 121)) (hi_X12_readStep_201 hT) rfl rfl ?_
                                            refine v_getf (v := (0, ((s : Int) + 1))) (r := 121) (hi_X12_readStep_202 hT) rfl rfl (fun _ => Eq.trans (zset_ne (fun c => absurd c.1 (by decide))) ((Eq.trans (ft61 121 25 (by first | decide | exact fun c => by omega)) (Eq.trans (ft58 121 25 (by first | decide | exact fun c => by omega)) (Eq.trans (Eq.trans (zset_ne (fun c => absurd c.1 (by decide))) (zset_ne (fun c => absurd c.1 (by decide)))) ((Eq.trans (ft30 121 25 (by first | decide | exact fun c => by omega)) (Eq.trans (zset_ne (fun c => absurd c.1 (by decide))) ((Eq.trans (ft15 121 25 (by first | decide | exact fun c => by omega)) (zset_same))))))))))) ?_
                                            refine v_ast (r := 126) (hi_X12_readStep_205 hT) rfl rfl (fun ha85 hb86 hf87 => ?_)
                                            refine v_ret0 (hi_X12_readStep_206 hT) ?_
                                            exact er _ _ (by simp only [pStep, hE, hsw, htw, hop, h15, opW15, harg, pNm, pWord, pSg, (show ¬ 30 ≤ s from by omega), (show ¬ 3 ≤ d from by omega), pCm_y (x := 61) (by decide) hc43, q61, ne_eq, not_true_eq_false, not_false_eq_true, if_true, if_false, eq_self, eb_l, eb_r, and_true, true_and, and_false, false_and]) (rE.z (r := 126) (k := ((((2477 + (9 * (s : Int))) + 8)).toNat)) (v := (0, ((s : Int) + 1))) (by decide) (rE.z (r := 126) (k := ((((2477 + (9 * (s : Int))) + 2)).toNat)) (v := (0, 0)) (by decide) c61)) (roF.z (a := 126) (b := ((((2477 + (9 * (s : Int))) + 8)).toNat)) (v := (0, ((s : Int) + 1))) (by omega) (roF.z (a := 126) (b := ((((2477 + (9 * (s : Int))) + 2)).toNat)) (v := (0, 0)) (by omega) (roF.t (roF.t (roF.z (a := 126) (b := ((((2477 + (9 * (s : Int))) + 7)).toNat)) (v := (0, (τ 3 (i + 1 + 1)))) (by omega) (roF.z (a := 126) (b := ((((2477 + (9 * (s : Int))) + 6)).toNat)) (v := (0, 2)) (by omega) (roF.t (roF.z (a := 126) (b := (((2477 + (9 * (s : Int)))).toNat)) (v := (0, 7)) (by omega) (roF.t (roF.z (a := 121) (b := 25) (v := (0, ((s : Int) + 1))) (by omega) roF.rfl) ft15)) ft30))) ft58) ft61)))
                      · have hc42 : (bG τ 62 (i + 1 + 1)) ≠ 0 := hc42
                        refine v_push (1) (hi_X12_readTest_148 hT) rfl ?_
                        refine v_goto (hi_X12_readTest_149 hT) ?_
                        refine v_call (w := 2) [some (2, 121), some (0, 1)] hO (hi_X12_readTest_153 hT) rfl rfl (rx_must hT hO 1 (rX.z (r := 126) (k := ((((2477 + (9 * (s : Int))) + 7)).toNat)) (v := (0, (τ 3 (i + 1 + 1)))) (by decide) (rX.z (r := 126) (k := ((((2477 + (9 * (s : Int))) + 6)).toNat)) (v := (0, 2)) (by decide) hX30)) (fun _ => ⟨by have := (bG_y.mp hc42).1; omega, by have := (bG_y.mp hc42).1; omega⟩) (k2 := fun _ _ c => absurd c (by decide)) (fun g89 ft89 nz88 hX89 => ?_))
                        · show vP D T N 305 156 g89 [some (2, 121), some (0, (2477 + (9 * (s : Int)))), some (0, 2)] [] _
                          refine vP_hv (fun hv89 => ?_)
                          refine v_load (v := (2, 121)) (hi_X12_readTest_156 hT) rfl rfl ?_
                          refine v_getR (c := 126) (r := 121) (hi_X12_readTest_157 hT) rfl rfl rfl ?_
                          refine v_load (v := (0, (2477 + (9 * (s : Int))))) (hi_X12_readTest_160 hT) rfl rfl ?_
                          refine v_push (2) (hi_X12_readTest_161 hT) rfl ?_
                          refine v_bin (w := ((2477 + (9 * (s : Int))) + 2)) (hi_X12_readTest_162 hT) (hq_add (by omega) (by omega)) ?_
                          refine v_load (v := (2, 121)) (hi_X12_readTest_163 hT) rfl rfl ?_
                          refine v_push (0) (hi_X12_readTest_164 hT) rfl ?_
                          refine v_push (9999) (hi_X12_readTest_165 hT) rfl ?_
                          refine v_call (w := 4) [some (2, 121), some (0, 0), some (0, 9999), none] hO (hi_X12_readTest_168 hT) rfl rfl (rx_num hT hO 0 9999 hX89 (fun g91 x90 ft91 q91 bux90 bvx90 hX91 => ?_) (fun g92 e92 ft92 q92 c92 => ?_))
                          · show vP D T N 305 171 g91 [some (2, 121), some (0, (2477 + (9 * (s : Int)))), some (0, 2)] [(0, x90), (0, ((2477 + (9 * (s : Int))) + 2)), (2, 126)] _
                            refine vP_hv (fun hv91 => ?_)
                            refine v_ast (r := 126) (hi_X12_readTest_171 hT) rfl rfl (fun ha93 hb94 hf95 => ?_)
                            refine v_ret0 (hi_X12_readTest_172 hT) ?_
                            show vP D T N 301 186 (zset g91 126 ((((2477 + (9 * (s : Int))) + 2)).toNat) (0, x90)) [some (2, 121), some (0, (2477 + (9 * (s : Int)))), some (0, 7)] [] _
                            refine v_goto (hi_X12_readRest_186 hT) ?_
                            refine v_ret0 (hi_X12_readRest_210 hT) ?_
                            show vP D T N 304 132 (zset g91 126 ((((2477 + (9 * (s : Int))) + 2)).toNat) (0, x90)) [some (2, 121), some (0, (d : Int)), some (0, 7), some (0, 1), some (0, (2477 + (9 * (s : Int))))] [] _
                            refine v_load (v := (2, 121)) (hi_X12_readStep_132 hT) rfl rfl ?_
                            refine v_load (v := (2, 121)) (hi_X12_readStep_133 hT) rfl rfl ?_
                            refine v_push (59) (hi_X12_readStep_134 hT) rfl ?_
                            refine v_call (w := 2) [some (2, 121), some (0, 59)] hO (hi_X12_readStep_136 hT) rfl rfl (rx_isSign hT hO 59 (rX.z (r := 126) (k := ((((2477 + (9 * (s : Int))) + 2)).toNat)) (v := (0, x90)) (by decide) hX91) ?_)
                            · show vP D T N 304 139 (zset g91 126 ((((2477 + (9 * (s : Int))) + 2)).toNat) (0, x90)) [some (2, 121), some (0, (d : Int)), some (0, 7), some (0, 1), some (0, (2477 + (9 * (s : Int))))] [(0, (bG τ 59 (i + 1 + 1 + 1 + 1))), (2, 121)] _
                              refine v_call (w := 2) [some (2, 121), some (0, (bG τ 59 (i + 1 + 1 + 1 + 1)))] hO (hi_X12_readStep_139 hT) rfl rfl (rx_must hT hO ((bG τ 59 (i + 1 + 1 + 1 + 1))) (rX.z (r := 126) (k := ((((2477 + (9 * (s : Int))) + 2)).toNat)) (v := (0, x90)) (by decide) hX91) (fun c => ⟨by have := (bG_y.mp c).1; omega, by have := (bG_y.mp c).1; omega⟩) (fun g97 ft97 hc96 hX97 => ?_) (fun g98 ft98 hc98 c98 => ?_))
                              · show vP D T N 304 142 g97 [some (2, 121), some (0, (d : Int)), some (0, 7), some (0, 1), some (0, (2477 + (9 * (s : Int))))] [] _
                                refine vP_hv (fun hv97 => ?_)
                                have kp_ : ∀ e, g97 126 e = (zset (zset (zset (zset h 126 (((2477 + (9 * (s : Int)))).toNat) (0, 7)) 126 ((((2477 + (9 * (s : Int))) + 6)).toNat) (0, 2)) 126 ((((2477 + (9 * (s : Int))) + 7)).toNat) (0, (τ 3 (i + 1 + 1)))) 126 ((((2477 + (9 * (s : Int))) + 2)).toNat) (0, x90)) 126 e := (kr_f (fun e => ft97 126 e (fun c => by omega)) (kr_z (k := ((((2477 + (9 * (s : Int))) + 2)).toNat)) (v := (0, x90)) (kr_f (fun e => ft91 126 e (fun c => by omega)) (kr_f (fun e => ft89 126 e (fun c => by omega)) (kr_z (k := ((((2477 + (9 * (s : Int))) + 7)).toNat)) (v := (0, (τ 3 (i + 1 + 1)))) (kr_z (k := ((((2477 + (9 * (s : Int))) + 6)).toNat)) (v := (0, 2)) (kr_f (fun e => ft30 126 e (fun c => by omega)) (kr_z (k := (((2477 + (9 * (s : Int)))).toNat)) (v := (0, 7)) (kr_f (fun e => ft15 126 e (fun c => by omega)) (kr_n (a := 121) (k := 25) (v := (0, ((s : Int) + 1))) (by decide) (fun _ => Eq.refl _)))))))))))
                                exact ih _ (s + 1) (d + 1) (i + 1 + 1 + 1 + 1 + 1) _ 18 ((τ 3 (i + 1 + 1))) x90 (i + 1 + 1 + 1 + 1) (by simp only [pStep, hE, hsw, htw, hop, h15, opW15, harg, pNm, pWord, pSg, (show ¬ 30 ≤ s from by omega), (show ¬ 3 ≤ d from by omega), pCm_y (x := 62) (by decide) hc42, q91, hc96, ne_eq, not_true_eq_false, not_false_eq_true, if_true, if_false, eq_self, eb_l, eb_r, and_true, true_and, and_false, false_and]) hX97 (Eq.trans (ft97 121 25 (by first | decide | exact fun c => by omega)) (Eq.trans (zset_ne (fun c => absurd c.1 (by decide))) ((Eq.trans (ft91 121 25 (by first | decide | exact fun c => by omega)) (Eq.trans (ft89 121 25 (by first | decide | exact fun c => by omega)) (Eq.trans (Eq.trans (zset_ne (fun c => absurd c.1 (by decide))) (zset_ne (fun c => absurd c.1 (by decide)))) ((Eq.trans (ft30 121 25 (by first | decide | exact fun c => by omega)) (Eq.trans (zset_ne (fun c => absurd c.1 (by decide))) ((Eq.trans (ft15 121 25 (by first | decide | exact fun c => by omega)) (zset_same)))))))))))) (by omega) (by omega) (roF.t (roF.z (a := 126) (b := ((((2477 + (9 * (s : Int))) + 2)).toNat)) (v := (0, x90)) (by omega) (roF.t (roF.t (roF.z (a := 126) (b := ((((2477 + (9 * (s : Int))) + 7)).toNat)) (v := (0, (τ 3 (i + 1 + 1)))) (by omega) (roF.z (a := 126) (b := ((((2477 + (9 * (s : Int))) + 6)).toNat)) (v := (0, 2)) (by omega) (roF.t (roF.z (a := 126) (b := (((2477 + (9 * (s : Int)))).toNat)) (v := (0, 7)) (by omega) (roF.t (roF.z (a := 121) (b := 25) (v := (0, ((s : Int) + 1))) (by omega) roF.rfl) ft15)) ft30))) ft89) ft91)) ft97) (pItV_b h3 h3b (by simp only [hargV, pWord, (show ¬ 30 ≤ s from by omega), (show ¬ 3 ≤ d from by omega), pCm_y (x := 62) (by decide) hc42, q91, hc96, ne_eq, not_true_eq_false, not_false_eq_true, if_true, if_false, eq_self, eb_l, eb_r, and_true, true_and, and_false, false_and])) (fun e_ hn_ => (kp_ e_).trans ((zset_ne (fun c => hn_ (by omega))).trans ((zset_ne (fun c => hn_ (by omega))).trans ((zset_ne (fun c => hn_ (by omega))).trans (zset_ne (fun c => hn_ (by omega))))))) ⟨((kp_ _).trans ((zset_ne (fun c => by omega)).trans ((zset_ne (fun c => by omega)).trans ((zset_ne (fun c => by omega)).trans (zset_e (by omega)))))), (fun c => by omega), (fun c => absurd c (by decide)), (fun _ => ((kp_ _).trans (zset_e (by omega)))), (fun _ => ((kp_ _).trans ((zset_ne (fun c => by omega)).trans ((zset_ne (fun c => by omega)).trans (zset_e (by omega)))))), (fun _ => ((kp_ _).trans ((zset_ne (fun c => by omega)).trans (zset_e (by omega)))))⟩
                              · show vP D T N 304 142 g98 [some (2, 121), some (0, (d : Int)), some (0, 7), some (0, 1), some (0, (2477 + (9 * (s : Int))))] [] _
                                refine vP_hv (fun hv98 => ?_)
                                refine v_load (v := (0, 1)) (hi_X12_readStep_142 hT) rfl rfl ?_
                                refine v_if (hi_X12_readStep_143 hT) (fun hc99 => absurd (show (1 : Int) = 0 from hc99) nz29) (fun _ => ?_)
                                refine v_load (v := (2, 121)) (hi_X12_readStep_146 hT) rfl rfl ?_
                                refine v_getf (v := (0, (eF τ (i + 1 + 1 + 1 + 1) 2).1)) (r := 121) (hi_X12_readStep_147 hT) rfl rfl (fun _ => c98.1) ?_
                                refine v_if (hi_X12_readStep_150 hT) (fun hc100 => absurd (show (eF τ (i + 1 + 1 + 1 + 1) 2).1 = 0 from hc100) (by have := c98.2.1; omega)) (fun _ => ?_)
                                refine v_load (v := (0, 1)) (hi_X12_readStep_170 hT) rfl rfl ?_
                                refine v_if (hi_X12_readStep_171 hT) (fun hc101 => absurd (show (1 : Int) = 0 from hc101) nz29) (fun _ => ?_)
                                refine v_load (v := (2, 121)) (hi_X12_readStep_174 hT) rfl rfl ?_
                                refine v_load (v := (2, 121)) (hi_X12_readStep_175 hT) rfl rfl ?_
                                refine v_call (w := 1) [some (2, 121)] hO (hi_X12_readStep_176 hT) rfl rfl (rb_any_isEnd hT hO (fun v102 => ?_))
                                · show vP D T N 304 179 g98 [some (2, 121), some (0, (d : Int)), some (0, 7), some (0, 1), some (0, (2477 + (9 * (s : Int))))] [(0, v102), (2, 121)] _
                                  refine v_call (w := 2) [some (2, 121), some (0, v102)] hO (hi_X12_readStep_179 hT) rfl rfl (rx_mustB hT hO v102 c98 ?_)
                                  · show vP D T N 304 182 g98 [some (2, 121), some (0, (d : Int)), some (0, 7), some (0, 1), some (0, (2477 + (9 * (s : Int))))] [] _
                                    refine v_load (v := (2, 121)) (hi_X12_readStep_182 hT) rfl rfl ?_
                                    refine v_load (v := (2, 121)) (hi_X12_readStep_183 hT) rfl rfl ?_
                                    refine v_push (59) (hi_X12_readStep_184 hT) rfl ?_
                                    refine v_call (w := 2) [some (2, 121), some (0, 59)] hO (hi_X12_readStep_186 hT) rfl rfl (rb_any_isSign hT hO (fun v103 => ?_))
                                    · show vP D T N 304 189 g98 [some (2, 121), some (0, (d : Int)), some (0, 7), some (0, 1), some (0, (2477 + (9 * (s : Int))))] [(0, v103), (2, 121)] _
                                      refine v_call (w := 2) [some (2, 121), some (0, v103)] hO (hi_X12_readStep_189 hT) rfl rfl (rx_mustB hT hO v103 c98 ?_)
                                      · show vP D T N 304 192 g98 [some (2, 121), some (0, (d : Int)), some (0, 7), some (0, 1), some (0, (2477 + (9 * (s : Int))))] [] _
                                        refine v_load (v := (2, 121)) (hi_X12_readStep_192 hT) rfl rfl ?_
                                        refine v_getR (c := 126) (r := 121) (hi_X12_readStep_193 hT) rfl rfl rfl ?_
                                        refine v_load (v := (0, (2477 + (9 * (s : Int))))) (hi_X12_readStep_196 hT) rfl rfl ?_
                                        refine v_push (8) (hi_X12_readStep_198 hT) rfl ?_
                                        refine v_bin (w := ((2477 + (9 * (s : Int))) + 8)) (hi_X12_readStep_200 hT) (hq_add (by omega) (by omega)) ?_
                                        refine v_load (v := (2, 121)) (hi_X12_readStep_201 hT) rfl rfl ?_
                                        refine v_getf (v := (0, ((s : Int) + 1))) (r := 121) (hi_X12_readStep_202 hT) rfl rfl (fun _ => (Eq.trans (ft98 121 25 (by first | decide | exact fun c => by omega)) (Eq.trans (zset_ne (fun c => absurd c.1 (by decide))) ((Eq.trans (ft91 121 25 (by first | decide | exact fun c => by omega)) (Eq.trans (ft89 121 25 (by first | decide | exact fun c => by omega)) (Eq.trans (Eq.trans (zset_ne (fun c => absurd c.1 (by decide))) (zset_ne (fun c => absurd c.1 (by decide)))) ((Eq.trans (ft30 121 25 (by first | decide | exact fun c => by omega)) (Eq.trans (zset_ne (fun c => absurd c.1 (by decide))) ((Eq.trans (ft15 121 25 (by first | decide | exact fun c => by omega)) (zset_same))))))))))))) ?_
                                        refine v_ast (r := 126) (hi_X12_readStep_205 hT) rfl rfl (fun ha104 hb105 hf106 => ?_)
                                        refine v_ret0 (hi_X12_readStep_206 hT) ?_
                                        exact er _ _ (by simp only [pStep, hE, hsw, htw, hop, h15, opW15, harg, pNm, pWord, pSg, (show ¬ 30 ≤ s from by omega), (show ¬ 3 ≤ d from by omega), pCm_y (x := 62) (by decide) hc42, q91, hc98, ne_eq, not_true_eq_false, not_false_eq_true, if_true, if_false, eq_self, eb_l, eb_r, and_true, true_and, and_false, false_and]) (rE.z (r := 126) (k := ((((2477 + (9 * (s : Int))) + 8)).toNat)) (v := (0, ((s : Int) + 1))) (by decide) c98) (roF.z (a := 126) (b := ((((2477 + (9 * (s : Int))) + 8)).toNat)) (v := (0, ((s : Int) + 1))) (by omega) (roF.t (roF.z (a := 126) (b := ((((2477 + (9 * (s : Int))) + 2)).toNat)) (v := (0, x90)) (by omega) (roF.t (roF.t (roF.z (a := 126) (b := ((((2477 + (9 * (s : Int))) + 7)).toNat)) (v := (0, (τ 3 (i + 1 + 1)))) (by omega) (roF.z (a := 126) (b := ((((2477 + (9 * (s : Int))) + 6)).toNat)) (v := (0, 2)) (by omega) (roF.t (roF.z (a := 126) (b := (((2477 + (9 * (s : Int)))).toNat)) (v := (0, 7)) (by omega) (roF.t (roF.z (a := 121) (b := 25) (v := (0, ((s : Int) + 1))) (by omega) roF.rfl) ft15)) ft30))) ft89) ft91)) ft98))
                          · show vP D T N 305 171 g92 [some (2, 121), some (0, (2477 + (9 * (s : Int)))), some (0, 2)] [(0, 0), (0, ((2477 + (9 * (s : Int))) + 2)), (2, 126)] _
                            refine vP_hv (fun hv92 => ?_)
                            refine v_ast (r := 126) (hi_X12_readTest_171 hT) rfl rfl (fun ha107 hb108 hf109 => ?_)
                            refine v_ret0 (hi_X12_readTest_172 hT) ?_
                            show vP D T N 301 186 (zset g92 126 ((((2477 + (9 * (s : Int))) + 2)).toNat) (0, 0)) [some (2, 121), some (0, (2477 + (9 * (s : Int)))), some (0, 7)] [] _
                            refine v_goto (hi_X12_readRest_186 hT) ?_
                            refine v_ret0 (hi_X12_readRest_210 hT) ?_
                            show vP D T N 304 132 (zset g92 126 ((((2477 + (9 * (s : Int))) + 2)).toNat) (0, 0)) [some (2, 121), some (0, (d : Int)), some (0, 7), some (0, 1), some (0, (2477 + (9 * (s : Int))))] [] _
                            refine v_load (v := (2, 121)) (hi_X12_readStep_132 hT) rfl rfl ?_
                            refine v_load (v := (2, 121)) (hi_X12_readStep_133 hT) rfl rfl ?_
                            refine v_push (59) (hi_X12_readStep_134 hT) rfl ?_
                            refine v_call (w := 2) [some (2, 121), some (0, 59)] hO (hi_X12_readStep_136 hT) rfl rfl (rb_any_isSign hT hO (fun v110 => ?_))
                            · show vP D T N 304 139 (zset g92 126 ((((2477 + (9 * (s : Int))) + 2)).toNat) (0, 0)) [some (2, 121), some (0, (d : Int)), some (0, 7), some (0, 1), some (0, (2477 + (9 * (s : Int))))] [(0, v110), (2, 121)] _
                              refine v_call (w := 2) [some (2, 121), some (0, v110)] hO (hi_X12_readStep_139 hT) rfl rfl (rx_mustB hT hO v110 (rE.z (r := 126) (k := ((((2477 + (9 * (s : Int))) + 2)).toNat)) (v := (0, 0)) (by decide) c92) ?_)
                              · show vP D T N 304 142 (zset g92 126 ((((2477 + (9 * (s : Int))) + 2)).toNat) (0, 0)) [some (2, 121), some (0, (d : Int)), some (0, 7), some (0, 1), some (0, (2477 + (9 * (s : Int))))] [] _
                                refine v_load (v := (0, 1)) (hi_X12_readStep_142 hT) rfl rfl ?_
                                refine v_if (hi_X12_readStep_143 hT) (fun hc111 => absurd (show (1 : Int) = 0 from hc111) nz29) (fun _ => ?_)
                                refine v_load (v := (2, 121)) (hi_X12_readStep_146 hT) rfl rfl ?_
                                refine v_getf (v := (0, e92.1)) (r := 121) (hi_X12_readStep_147 hT) rfl rfl (fun _ => Eq.trans (zset_ne (fun c => absurd c.1 (by decide))) (c92.1)) ?_
                                refine v_if (hi_X12_readStep_150 hT) (fun hc112 => absurd (show e92.1 = 0 from hc112) (by have := c92.2.1; omega)) (fun _ => ?_)
                                refine v_load (v := (0, 1)) (hi_X12_readStep_170 hT) rfl rfl ?_
                                refine v_if (hi_X12_readStep_171 hT) (fun hc113 => absurd (show (1 : Int) = 0 from hc113) nz29) (fun _ => ?_)
                                refine v_load (v := (2, 121)) (hi_X12_readStep_174 hT) rfl rfl ?_
                                refine v_load (v := (2, 121)) (hi_X12_readStep_175 hT) rfl rfl ?_
                                refine v_call (w := 1) [some (2, 121)] hO (hi_X12_readStep_176 hT) rfl rfl (rb_any_isEnd hT hO (fun v114 => ?_))
                                · show vP D T N 304 179 (zset g92 126 ((((2477 + (9 * (s : Int))) + 2)).toNat) (0, 0)) [some (2, 121), some (0, (d : Int)), some (0, 7), some (0, 1), some (0, (2477 + (9 * (s : Int))))] [(0, v114), (2, 121)] _
                                  refine v_call (w := 2) [some (2, 121), some (0, v114)] hO (hi_X12_readStep_179 hT) rfl rfl (rx_mustB hT hO v114 (rE.z (r := 126) (k := ((((2477 + (9 * (s : Int))) + 2)).toNat)) (v := (0, 0)) (by decide) c92) ?_)
                                  · show vP D T N 304 182 (zset g92 126 ((((2477 + (9 * (s : Int))) + 2)).toNat) (0, 0)) [some (2, 121), some (0, (d : Int)), some (0, 7), some (0, 1), some (0, (2477 + (9 * (s : Int))))] [] _
                                    refine v_load (v := (2, 121)) (hi_X12_readStep_182 hT) rfl rfl ?_
                                    refine v_load (v := (2, 121)) (hi_X12_readStep_183 hT) rfl rfl ?_
                                    refine v_push (59) (hi_X12_readStep_184 hT) rfl ?_
                                    refine v_call (w := 2) [some (2, 121), some (0, 59)] hO (hi_X12_readStep_186 hT) rfl rfl (rb_any_isSign hT hO (fun v115 => ?_))
                                    · show vP D T N 304 189 (zset g92 126 ((((2477 + (9 * (s : Int))) + 2)).toNat) (0, 0)) [some (2, 121), some (0, (d : Int)), some (0, 7), some (0, 1), some (0, (2477 + (9 * (s : Int))))] [(0, v115), (2, 121)] _
                                      refine v_call (w := 2) [some (2, 121), some (0, v115)] hO (hi_X12_readStep_189 hT) rfl rfl (rx_mustB hT hO v115 (rE.z (r := 126) (k := ((((2477 + (9 * (s : Int))) + 2)).toNat)) (v := (0, 0)) (by decide) c92) ?_)
                                      · show vP D T N 304 192 (zset g92 126 ((((2477 + (9 * (s : Int))) + 2)).toNat) (0, 0)) [some (2, 121), some (0, (d : Int)), some (0, 7), some (0, 1), some (0, (2477 + (9 * (s : Int))))] [] _
                                        refine v_load (v := (2, 121)) (hi_X12_readStep_192 hT) rfl rfl ?_
                                        refine v_getR (c := 126) (r := 121) (hi_X12_readStep_193 hT) rfl rfl rfl ?_
                                        refine v_load (v := (0, (2477 + (9 * (s : Int))))) (hi_X12_readStep_196 hT) rfl rfl ?_
                                        refine v_push (8) (hi_X12_readStep_198 hT) rfl ?_
                                        refine v_bin (w := ((2477 + (9 * (s : Int))) + 8)) (hi_X12_readStep_200 hT) (hq_add (by omega) (by omega)) ?_
                                        refine v_load (v := (2, 121)) (hi_X12_readStep_201 hT) rfl rfl ?_
                                        refine v_getf (v := (0, ((s : Int) + 1))) (r := 121) (hi_X12_readStep_202 hT) rfl rfl (fun _ => Eq.trans (zset_ne (fun c => absurd c.1 (by decide))) ((Eq.trans (ft92 121 25 (by first | decide | exact fun c => by omega)) (Eq.trans (ft89 121 25 (by first | decide | exact fun c => by omega)) (Eq.trans (Eq.trans (zset_ne (fun c => absurd c.1 (by decide))) (zset_ne (fun c => absurd c.1 (by decide)))) ((Eq.trans (ft30 121 25 (by first | decide | exact fun c => by omega)) (Eq.trans (zset_ne (fun c => absurd c.1 (by decide))) ((Eq.trans (ft15 121 25 (by first | decide | exact fun c => by omega)) (zset_same))))))))))) ?_
                                        refine v_ast (r := 126) (hi_X12_readStep_205 hT) rfl rfl (fun ha116 hb117 hf118 => ?_)
                                        refine v_ret0 (hi_X12_readStep_206 hT) ?_
                                        exact er _ _ (by simp only [pStep, hE, hsw, htw, hop, h15, opW15, harg, pNm, pWord, pSg, (show ¬ 30 ≤ s from by omega), (show ¬ 3 ≤ d from by omega), pCm_y (x := 62) (by decide) hc42, q92, ne_eq, not_true_eq_false, not_false_eq_true, if_true, if_false, eq_self, eb_l, eb_r, and_true, true_and, and_false, false_and]) (rE.z (r := 126) (k := ((((2477 + (9 * (s : Int))) + 8)).toNat)) (v := (0, ((s : Int) + 1))) (by decide) (rE.z (r := 126) (k := ((((2477 + (9 * (s : Int))) + 2)).toNat)) (v := (0, 0)) (by decide) c92)) (roF.z (a := 126) (b := ((((2477 + (9 * (s : Int))) + 8)).toNat)) (v := (0, ((s : Int) + 1))) (by omega) (roF.z (a := 126) (b := ((((2477 + (9 * (s : Int))) + 2)).toNat)) (v := (0, 0)) (by omega) (roF.t (roF.t (roF.z (a := 126) (b := ((((2477 + (9 * (s : Int))) + 7)).toNat)) (v := (0, (τ 3 (i + 1 + 1)))) (by omega) (roF.z (a := 126) (b := ((((2477 + (9 * (s : Int))) + 6)).toNat)) (v := (0, 2)) (by omega) (roF.t (roF.z (a := 126) (b := (((2477 + (9 * (s : Int)))).toNat)) (v := (0, 7)) (by omega) (roF.t (roF.z (a := 121) (b := 25) (v := (0, ((s : Int) + 1))) (by omega) roF.rfl) ft15)) ft30))) ft89) ft92)))
                  · have hc41 : (bG τ 60 (i + 1 + 1)) ≠ 0 := hc41
                    refine v_push (1) (hi_X12_readTest_148 hT) rfl ?_
                    refine v_goto (hi_X12_readTest_149 hT) ?_
                    refine v_call (w := 2) [some (2, 121), some (0, 1)] hO (hi_X12_readTest_153 hT) rfl rfl (rx_must hT hO 1 (rX.z (r := 126) (k := ((((2477 + (9 * (s : Int))) + 7)).toNat)) (v := (0, (τ 3 (i + 1 + 1)))) (by decide) (rX.z (r := 126) (k := ((((2477 + (9 * (s : Int))) + 6)).toNat)) (v := (0, 2)) (by decide) hX30)) (fun _ => ⟨by have := (bG_y.mp hc41).1; omega, by have := (bG_y.mp hc41).1; omega⟩) (k2 := fun _ _ c => absurd c (by decide)) (fun g120 ft120 nz119 hX120 => ?_))
                    · show vP D T N 305 156 g120 [some (2, 121), some (0, (2477 + (9 * (s : Int)))), some (0, 2)] [] _
                      refine vP_hv (fun hv120 => ?_)
                      refine v_load (v := (2, 121)) (hi_X12_readTest_156 hT) rfl rfl ?_
                      refine v_getR (c := 126) (r := 121) (hi_X12_readTest_157 hT) rfl rfl rfl ?_
                      refine v_load (v := (0, (2477 + (9 * (s : Int))))) (hi_X12_readTest_160 hT) rfl rfl ?_
                      refine v_push (2) (hi_X12_readTest_161 hT) rfl ?_
                      refine v_bin (w := ((2477 + (9 * (s : Int))) + 2)) (hi_X12_readTest_162 hT) (hq_add (by omega) (by omega)) ?_
                      refine v_load (v := (2, 121)) (hi_X12_readTest_163 hT) rfl rfl ?_
                      refine v_push (0) (hi_X12_readTest_164 hT) rfl ?_
                      refine v_push (9999) (hi_X12_readTest_165 hT) rfl ?_
                      refine v_call (w := 4) [some (2, 121), some (0, 0), some (0, 9999), none] hO (hi_X12_readTest_168 hT) rfl rfl (rx_num hT hO 0 9999 hX120 (fun g122 x121 ft122 q122 bux121 bvx121 hX122 => ?_) (fun g123 e123 ft123 q123 c123 => ?_))
                      · show vP D T N 305 171 g122 [some (2, 121), some (0, (2477 + (9 * (s : Int)))), some (0, 2)] [(0, x121), (0, ((2477 + (9 * (s : Int))) + 2)), (2, 126)] _
                        refine vP_hv (fun hv122 => ?_)
                        refine v_ast (r := 126) (hi_X12_readTest_171 hT) rfl rfl (fun ha124 hb125 hf126 => ?_)
                        refine v_ret0 (hi_X12_readTest_172 hT) ?_
                        show vP D T N 301 186 (zset g122 126 ((((2477 + (9 * (s : Int))) + 2)).toNat) (0, x121)) [some (2, 121), some (0, (2477 + (9 * (s : Int)))), some (0, 7)] [] _
                        refine v_goto (hi_X12_readRest_186 hT) ?_
                        refine v_ret0 (hi_X12_readRest_210 hT) ?_
                        show vP D T N 304 132 (zset g122 126 ((((2477 + (9 * (s : Int))) + 2)).toNat) (0, x121)) [some (2, 121), some (0, (d : Int)), some (0, 7), some (0, 1), some (0, (2477 + (9 * (s : Int))))] [] _
                        refine v_load (v := (2, 121)) (hi_X12_readStep_132 hT) rfl rfl ?_
                        refine v_load (v := (2, 121)) (hi_X12_readStep_133 hT) rfl rfl ?_
                        refine v_push (59) (hi_X12_readStep_134 hT) rfl ?_
                        refine v_call (w := 2) [some (2, 121), some (0, 59)] hO (hi_X12_readStep_136 hT) rfl rfl (rx_isSign hT hO 59 (rX.z (r := 126) (k := ((((2477 + (9 * (s : Int))) + 2)).toNat)) (v := (0, x121)) (by decide) hX122) ?_)
                        · show vP D T N 304 139 (zset g122 126 ((((2477 + (9 * (s : Int))) + 2)).toNat) (0, x121)) [some (2, 121), some (0, (d : Int)), some (0, 7), some (0, 1), some (0, (2477 + (9 * (s : Int))))] [(0, (bG τ 59 (i + 1 + 1 + 1 + 1))), (2, 121)] _
                          refine v_call (w := 2) [some (2, 121), some (0, (bG τ 59 (i + 1 + 1 + 1 + 1)))] hO (hi_X12_readStep_139 hT) rfl rfl (rx_must hT hO ((bG τ 59 (i + 1 + 1 + 1 + 1))) (rX.z (r := 126) (k := ((((2477 + (9 * (s : Int))) + 2)).toNat)) (v := (0, x121)) (by decide) hX122) (fun c => ⟨by have := (bG_y.mp c).1; omega, by have := (bG_y.mp c).1; omega⟩) (fun g128 ft128 hc127 hX128 => ?_) (fun g129 ft129 hc129 c129 => ?_))
                          · show vP D T N 304 142 g128 [some (2, 121), some (0, (d : Int)), some (0, 7), some (0, 1), some (0, (2477 + (9 * (s : Int))))] [] _
                            refine vP_hv (fun hv128 => ?_)
                            have kp_ : ∀ e, g128 126 e = (zset (zset (zset (zset h 126 (((2477 + (9 * (s : Int)))).toNat) (0, 7)) 126 ((((2477 + (9 * (s : Int))) + 6)).toNat) (0, 2)) 126 ((((2477 + (9 * (s : Int))) + 7)).toNat) (0, (τ 3 (i + 1 + 1)))) 126 ((((2477 + (9 * (s : Int))) + 2)).toNat) (0, x121)) 126 e := (kr_f (fun e => ft128 126 e (fun c => by omega)) (kr_z (k := ((((2477 + (9 * (s : Int))) + 2)).toNat)) (v := (0, x121)) (kr_f (fun e => ft122 126 e (fun c => by omega)) (kr_f (fun e => ft120 126 e (fun c => by omega)) (kr_z (k := ((((2477 + (9 * (s : Int))) + 7)).toNat)) (v := (0, (τ 3 (i + 1 + 1)))) (kr_z (k := ((((2477 + (9 * (s : Int))) + 6)).toNat)) (v := (0, 2)) (kr_f (fun e => ft30 126 e (fun c => by omega)) (kr_z (k := (((2477 + (9 * (s : Int)))).toNat)) (v := (0, 7)) (kr_f (fun e => ft15 126 e (fun c => by omega)) (kr_n (a := 121) (k := 25) (v := (0, ((s : Int) + 1))) (by decide) (fun _ => Eq.refl _)))))))))))
                            exact ih _ (s + 1) (d + 1) (i + 1 + 1 + 1 + 1 + 1) _ 18 ((τ 3 (i + 1 + 1))) x121 (i + 1 + 1 + 1 + 1) (by simp only [pStep, hE, hsw, htw, hop, h15, opW15, harg, pNm, pWord, pSg, (show ¬ 30 ≤ s from by omega), (show ¬ 3 ≤ d from by omega), pCm_y (x := 60) (by decide) hc41, q122, hc127, ne_eq, not_true_eq_false, not_false_eq_true, if_true, if_false, eq_self, eb_l, eb_r, and_true, true_and, and_false, false_and]) hX128 (Eq.trans (ft128 121 25 (by first | decide | exact fun c => by omega)) (Eq.trans (zset_ne (fun c => absurd c.1 (by decide))) ((Eq.trans (ft122 121 25 (by first | decide | exact fun c => by omega)) (Eq.trans (ft120 121 25 (by first | decide | exact fun c => by omega)) (Eq.trans (Eq.trans (zset_ne (fun c => absurd c.1 (by decide))) (zset_ne (fun c => absurd c.1 (by decide)))) ((Eq.trans (ft30 121 25 (by first | decide | exact fun c => by omega)) (Eq.trans (zset_ne (fun c => absurd c.1 (by decide))) ((Eq.trans (ft15 121 25 (by first | decide | exact fun c => by omega)) (zset_same)))))))))))) (by omega) (by omega) (roF.t (roF.z (a := 126) (b := ((((2477 + (9 * (s : Int))) + 2)).toNat)) (v := (0, x121)) (by omega) (roF.t (roF.t (roF.z (a := 126) (b := ((((2477 + (9 * (s : Int))) + 7)).toNat)) (v := (0, (τ 3 (i + 1 + 1)))) (by omega) (roF.z (a := 126) (b := ((((2477 + (9 * (s : Int))) + 6)).toNat)) (v := (0, 2)) (by omega) (roF.t (roF.z (a := 126) (b := (((2477 + (9 * (s : Int)))).toNat)) (v := (0, 7)) (by omega) (roF.t (roF.z (a := 121) (b := 25) (v := (0, ((s : Int) + 1))) (by omega) roF.rfl) ft15)) ft30))) ft120) ft122)) ft128) (pItV_b h3 h3b (by simp only [hargV, pWord, (show ¬ 30 ≤ s from by omega), (show ¬ 3 ≤ d from by omega), pCm_y (x := 60) (by decide) hc41, q122, hc127, ne_eq, not_true_eq_false, not_false_eq_true, if_true, if_false, eq_self, eb_l, eb_r, and_true, true_and, and_false, false_and])) (fun e_ hn_ => (kp_ e_).trans ((zset_ne (fun c => hn_ (by omega))).trans ((zset_ne (fun c => hn_ (by omega))).trans ((zset_ne (fun c => hn_ (by omega))).trans (zset_ne (fun c => hn_ (by omega))))))) ⟨((kp_ _).trans ((zset_ne (fun c => by omega)).trans ((zset_ne (fun c => by omega)).trans ((zset_ne (fun c => by omega)).trans (zset_e (by omega)))))), (fun c => by omega), (fun c => absurd c (by decide)), (fun _ => ((kp_ _).trans (zset_e (by omega)))), (fun _ => ((kp_ _).trans ((zset_ne (fun c => by omega)).trans ((zset_ne (fun c => by omega)).trans (zset_e (by omega)))))), (fun _ => ((kp_ _).trans ((zset_ne (fun c => by omega)).trans (zset_e (by omega)))))⟩
                          · show vP D T N 304 142 g129 [some (2, 121), some (0, (d : Int)), some (0, 7), some (0, 1), some (0, (2477 + (9 * (s : Int))))] [] _
                            refine vP_hv (fun hv129 => ?_)
                            refine v_load (v := (0, 1)) (hi_X12_readStep_142 hT) rfl rfl ?_
                            refine v_if (hi_X12_readStep_143 hT) (fun hc130 => absurd (show (1 : Int) = 0 from hc130) nz29) (fun _ => ?_)
                            refine v_load (v := (2, 121)) (hi_X12_readStep_146 hT) rfl rfl ?_
                            refine v_getf (v := (0, (eF τ (i + 1 + 1 + 1 + 1) 2).1)) (r := 121) (hi_X12_readStep_147 hT) rfl rfl (fun _ => c129.1) ?_
                            refine v_if (hi_X12_readStep_150 hT) (fun hc131 => absurd (show (eF τ (i + 1 + 1 + 1 + 1) 2).1 = 0 from hc131) (by have := c129.2.1; omega)) (fun _ => ?_)
                            refine v_load (v := (0, 1)) (hi_X12_readStep_170 hT) rfl rfl ?_
                            refine v_if (hi_X12_readStep_171 hT) (fun hc132 => absurd (show (1 : Int) = 0 from hc132) nz29) (fun _ => ?_)
                            refine v_load (v := (2, 121)) (hi_X12_readStep_174 hT) rfl rfl ?_
                            refine v_load (v := (2, 121)) (hi_X12_readStep_175 hT) rfl rfl ?_
                            refine v_call (w := 1) [some (2, 121)] hO (hi_X12_readStep_176 hT) rfl rfl (rb_any_isEnd hT hO (fun v133 => ?_))
                            · show vP D T N 304 179 g129 [some (2, 121), some (0, (d : Int)), some (0, 7), some (0, 1), some (0, (2477 + (9 * (s : Int))))] [(0, v133), (2, 121)] _
                              refine v_call (w := 2) [some (2, 121), some (0, v133)] hO (hi_X12_readStep_179 hT) rfl rfl (rx_mustB hT hO v133 c129 ?_)
                              · show vP D T N 304 182 g129 [some (2, 121), some (0, (d : Int)), some (0, 7), some (0, 1), some (0, (2477 + (9 * (s : Int))))] [] _
                                refine v_load (v := (2, 121)) (hi_X12_readStep_182 hT) rfl rfl ?_
                                refine v_load (v := (2, 121)) (hi_X12_readStep_183 hT) rfl rfl ?_
                                refine v_push (59) (hi_X12_readStep_184 hT) rfl ?_
                                refine v_call (w := 2) [some (2, 121), some (0, 59)] hO (hi_X12_readStep_186 hT) rfl rfl (rb_any_isSign hT hO (fun v134 => ?_))
                                · show vP D T N 304 189 g129 [some (2, 121), some (0, (d : Int)), some (0, 7), some (0, 1), some (0, (2477 + (9 * (s : Int))))] [(0, v134), (2, 121)] _
                                  refine v_call (w := 2) [some (2, 121), some (0, v134)] hO (hi_X12_readStep_189 hT) rfl rfl (rx_mustB hT hO v134 c129 ?_)
                                  · show vP D T N 304 192 g129 [some (2, 121), some (0, (d : Int)), some (0, 7), some (0, 1), some (0, (2477 + (9 * (s : Int))))] [] _
                                    refine v_load (v := (2, 121)) (hi_X12_readStep_192 hT) rfl rfl ?_
                                    refine v_getR (c := 126) (r := 121) (hi_X12_readStep_193 hT) rfl rfl rfl ?_
                                    refine v_load (v := (0, (2477 + (9 * (s : Int))))) (hi_X12_readStep_196 hT) rfl rfl ?_
                                    refine v_push (8) (hi_X12_readStep_198 hT) rfl ?_
                                    refine v_bin (w := ((2477 + (9 * (s : Int))) + 8)) (hi_X12_readStep_200 hT) (hq_add (by omega) (by omega)) ?_
                                    refine v_load (v := (2, 121)) (hi_X12_readStep_201 hT) rfl rfl ?_
                                    refine v_getf (v := (0, ((s : Int) + 1))) (r := 121) (hi_X12_readStep_202 hT) rfl rfl (fun _ => (Eq.trans (ft129 121 25 (by first | decide | exact fun c => by omega)) (Eq.trans (zset_ne (fun c => absurd c.1 (by decide))) ((Eq.trans (ft122 121 25 (by first | decide | exact fun c => by omega)) (Eq.trans (ft120 121 25 (by first | decide | exact fun c => by omega)) (Eq.trans (Eq.trans (zset_ne (fun c => absurd c.1 (by decide))) (zset_ne (fun c => absurd c.1 (by decide)))) ((Eq.trans (ft30 121 25 (by first | decide | exact fun c => by omega)) (Eq.trans (zset_ne (fun c => absurd c.1 (by decide))) ((Eq.trans (ft15 121 25 (by first | decide | exact fun c => by omega)) (zset_same))))))))))))) ?_
                                    refine v_ast (r := 126) (hi_X12_readStep_205 hT) rfl rfl (fun ha135 hb136 hf137 => ?_)
                                    refine v_ret0 (hi_X12_readStep_206 hT) ?_
                                    exact er _ _ (by simp only [pStep, hE, hsw, htw, hop, h15, opW15, harg, pNm, pWord, pSg, (show ¬ 30 ≤ s from by omega), (show ¬ 3 ≤ d from by omega), pCm_y (x := 60) (by decide) hc41, q122, hc129, ne_eq, not_true_eq_false, not_false_eq_true, if_true, if_false, eq_self, eb_l, eb_r, and_true, true_and, and_false, false_and]) (rE.z (r := 126) (k := ((((2477 + (9 * (s : Int))) + 8)).toNat)) (v := (0, ((s : Int) + 1))) (by decide) c129) (roF.z (a := 126) (b := ((((2477 + (9 * (s : Int))) + 8)).toNat)) (v := (0, ((s : Int) + 1))) (by omega) (roF.t (roF.z (a := 126) (b := ((((2477 + (9 * (s : Int))) + 2)).toNat)) (v := (0, x121)) (by omega) (roF.t (roF.t (roF.z (a := 126) (b := ((((2477 + (9 * (s : Int))) + 7)).toNat)) (v := (0, (τ 3 (i + 1 + 1)))) (by omega) (roF.z (a := 126) (b := ((((2477 + (9 * (s : Int))) + 6)).toNat)) (v := (0, 2)) (by omega) (roF.t (roF.z (a := 126) (b := (((2477 + (9 * (s : Int)))).toNat)) (v := (0, 7)) (by omega) (roF.t (roF.z (a := 121) (b := 25) (v := (0, ((s : Int) + 1))) (by omega) roF.rfl) ft15)) ft30))) ft120) ft122)) ft129))
                      · show vP D T N 305 171 g123 [some (2, 121), some (0, (2477 + (9 * (s : Int)))), some (0, 2)] [(0, 0), (0, ((2477 + (9 * (s : Int))) + 2)), (2, 126)] _
                        refine vP_hv (fun hv123 => ?_)
                        refine v_ast (r := 126) (hi_X12_readTest_171 hT) rfl rfl (fun ha138 hb139 hf140 => ?_)
                        refine v_ret0 (hi_X12_readTest_172 hT) ?_
                        show vP D T N 301 186 (zset g123 126 ((((2477 + (9 * (s : Int))) + 2)).toNat) (0, 0)) [some (2, 121), some (0, (2477 + (9 * (s : Int)))), some (0, 7)] [] _
                        refine v_goto (hi_X12_readRest_186 hT) ?_
                        refine v_ret0 (hi_X12_readRest_210 hT) ?_
                        show vP D T N 304 132 (zset g123 126 ((((2477 + (9 * (s : Int))) + 2)).toNat) (0, 0)) [some (2, 121), some (0, (d : Int)), some (0, 7), some (0, 1), some (0, (2477 + (9 * (s : Int))))] [] _
                        refine v_load (v := (2, 121)) (hi_X12_readStep_132 hT) rfl rfl ?_
                        refine v_load (v := (2, 121)) (hi_X12_readStep_133 hT) rfl rfl ?_
                        refine v_push (59) (hi_X12_readStep_134 hT) rfl ?_
                        refine v_call (w := 2) [some (2, 121), some (0, 59)] hO (hi_X12_readStep_136 hT) rfl rfl (rb_any_isSign hT hO (fun v141 => ?_))
                        · show vP D T N 304 139 (zset g123 126 ((((2477 + (9 * (s : Int))) + 2)).toNat) (0, 0)) [some (2, 121), some (0, (d : Int)), some (0, 7), some (0, 1), some (0, (2477 + (9 * (s : Int))))] [(0, v141), (2, 121)] _
                          refine v_call (w := 2) [some (2, 121), some (0, v141)] hO (hi_X12_readStep_139 hT) rfl rfl (rx_mustB hT hO v141 (rE.z (r := 126) (k := ((((2477 + (9 * (s : Int))) + 2)).toNat)) (v := (0, 0)) (by decide) c123) ?_)
                          · show vP D T N 304 142 (zset g123 126 ((((2477 + (9 * (s : Int))) + 2)).toNat) (0, 0)) [some (2, 121), some (0, (d : Int)), some (0, 7), some (0, 1), some (0, (2477 + (9 * (s : Int))))] [] _
                            refine v_load (v := (0, 1)) (hi_X12_readStep_142 hT) rfl rfl ?_
                            refine v_if (hi_X12_readStep_143 hT) (fun hc142 => absurd (show (1 : Int) = 0 from hc142) nz29) (fun _ => ?_)
                            refine v_load (v := (2, 121)) (hi_X12_readStep_146 hT) rfl rfl ?_
                            refine v_getf (v := (0, e123.1)) (r := 121) (hi_X12_readStep_147 hT) rfl rfl (fun _ => Eq.trans (zset_ne (fun c => absurd c.1 (by decide))) (c123.1)) ?_
                            refine v_if (hi_X12_readStep_150 hT) (fun hc143 => absurd (show e123.1 = 0 from hc143) (by have := c123.2.1; omega)) (fun _ => ?_)
                            refine v_load (v := (0, 1)) (hi_X12_readStep_170 hT) rfl rfl ?_
                            refine v_if (hi_X12_readStep_171 hT) (fun hc144 => absurd (show (1 : Int) = 0 from hc144) nz29) (fun _ => ?_)
                            refine v_load (v := (2, 121)) (hi_X12_readStep_174 hT) rfl rfl ?_
                            refine v_load (v := (2, 121)) (hi_X12_readStep_175 hT) rfl rfl ?_
                            refine v_call (w := 1) [some (2, 121)] hO (hi_X12_readStep_176 hT) rfl rfl (rb_any_isEnd hT hO (fun v145 => ?_))
                            · show vP D T N 304 179 (zset g123 126 ((((2477 + (9 * (s : Int))) + 2)).toNat) (0, 0)) [some (2, 121), some (0, (d : Int)), some (0, 7), some (0, 1), some (0, (2477 + (9 * (s : Int))))] [(0, v145), (2, 121)] _
                              refine v_call (w := 2) [some (2, 121), some (0, v145)] hO (hi_X12_readStep_179 hT) rfl rfl (rx_mustB hT hO v145 (rE.z (r := 126) (k := ((((2477 + (9 * (s : Int))) + 2)).toNat)) (v := (0, 0)) (by decide) c123) ?_)
                              · show vP D T N 304 182 (zset g123 126 ((((2477 + (9 * (s : Int))) + 2)).toNat) (0, 0)) [some (2, 121), some (0, (d : Int)), some (0, 7), some (0, 1), some (0, (2477 + (9 * (s : Int))))] [] _
                                refine v_load (v := (2, 121)) (hi_X12_readStep_182 hT) rfl rfl ?_
                                refine v_load (v := (2, 121)) (hi_X12_readStep_183 hT) rfl rfl ?_
                                refine v_push (59) (hi_X12_readStep_184 hT) rfl ?_
                                refine v_call (w := 2) [some (2, 121), some (0, 59)] hO (hi_X12_readStep_186 hT) rfl rfl (rb_any_isSign hT hO (fun v146 => ?_))
                                · show vP D T N 304 189 (zset g123 126 ((((2477 + (9 * (s : Int))) + 2)).toNat) (0, 0)) [some (2, 121), some (0, (d : Int)), some (0, 7), some (0, 1), some (0, (2477 + (9 * (s : Int))))] [(0, v146), (2, 121)] _
                                  refine v_call (w := 2) [some (2, 121), some (0, v146)] hO (hi_X12_readStep_189 hT) rfl rfl (rx_mustB hT hO v146 (rE.z (r := 126) (k := ((((2477 + (9 * (s : Int))) + 2)).toNat)) (v := (0, 0)) (by decide) c123) ?_)
                                  · show vP D T N 304 192 (zset g123 126 ((((2477 + (9 * (s : Int))) + 2)).toNat) (0, 0)) [some (2, 121), some (0, (d : Int)), some (0, 7), some (0, 1), some (0, (2477 + (9 * (s : Int))))] [] _
                                    refine v_load (v := (2, 121)) (hi_X12_readStep_192 hT) rfl rfl ?_
                                    refine v_getR (c := 126) (r := 121) (hi_X12_readStep_193 hT) rfl rfl rfl ?_
                                    refine v_load (v := (0, (2477 + (9 * (s : Int))))) (hi_X12_readStep_196 hT) rfl rfl ?_
                                    refine v_push (8) (hi_X12_readStep_198 hT) rfl ?_
                                    refine v_bin (w := ((2477 + (9 * (s : Int))) + 8)) (hi_X12_readStep_200 hT) (hq_add (by omega) (by omega)) ?_
                                    refine v_load (v := (2, 121)) (hi_X12_readStep_201 hT) rfl rfl ?_
                                    refine v_getf (v := (0, ((s : Int) + 1))) (r := 121) (hi_X12_readStep_202 hT) rfl rfl (fun _ => Eq.trans (zset_ne (fun c => absurd c.1 (by decide))) ((Eq.trans (ft123 121 25 (by first | decide | exact fun c => by omega)) (Eq.trans (ft120 121 25 (by first | decide | exact fun c => by omega)) (Eq.trans (Eq.trans (zset_ne (fun c => absurd c.1 (by decide))) (zset_ne (fun c => absurd c.1 (by decide)))) ((Eq.trans (ft30 121 25 (by first | decide | exact fun c => by omega)) (Eq.trans (zset_ne (fun c => absurd c.1 (by decide))) ((Eq.trans (ft15 121 25 (by first | decide | exact fun c => by omega)) (zset_same))))))))))) ?_
                                    refine v_ast (r := 126) (hi_X12_readStep_205 hT) rfl rfl (fun ha147 hb148 hf149 => ?_)
                                    refine v_ret0 (hi_X12_readStep_206 hT) ?_
                                    exact er _ _ (by simp only [pStep, hE, hsw, htw, hop, h15, opW15, harg, pNm, pWord, pSg, (show ¬ 30 ≤ s from by omega), (show ¬ 3 ≤ d from by omega), pCm_y (x := 60) (by decide) hc41, q123, ne_eq, not_true_eq_false, not_false_eq_true, if_true, if_false, eq_self, eb_l, eb_r, and_true, true_and, and_false, false_and]) (rE.z (r := 126) (k := ((((2477 + (9 * (s : Int))) + 8)).toNat)) (v := (0, ((s : Int) + 1))) (by decide) (rE.z (r := 126) (k := ((((2477 + (9 * (s : Int))) + 2)).toNat)) (v := (0, 0)) (by decide) c123)) (roF.z (a := 126) (b := ((((2477 + (9 * (s : Int))) + 8)).toNat)) (v := (0, ((s : Int) + 1))) (by omega) (roF.z (a := 126) (b := ((((2477 + (9 * (s : Int))) + 2)).toNat)) (v := (0, 0)) (by omega) (roF.t (roF.t (roF.z (a := 126) (b := ((((2477 + (9 * (s : Int))) + 7)).toNat)) (v := (0, (τ 3 (i + 1 + 1)))) (by omega) (roF.z (a := 126) (b := ((((2477 + (9 * (s : Int))) + 6)).toNat)) (v := (0, 2)) (by omega) (roF.t (roF.z (a := 126) (b := (((2477 + (9 * (s : Int)))).toNat)) (v := (0, 7)) (by omega) (roF.t (roF.z (a := 121) (b := 25) (v := (0, ((s : Int) + 1))) (by omega) roF.rfl) ft15)) ft30))) ft120) ft123)))
              · have hc37 : (τ 0 (i + 1 + 1)) ≠ 3 := hc37
                refine v_push (0) (hz_X12_readTest hT _ _ rfl) rfl ?_
                refine v_ast (r := 126) (hz_X12_readTest hT _ _ rfl) rfl rfl (fun ha150 hb151 hf152 => ?_)
                refine v_load (v := (2, 121)) (hz_X12_readTest hT _ _ rfl) rfl rfl ?_
                refine v_load (v := (2, 121)) (hz_X12_readTest hT _ _ rfl) rfl rfl ?_
                refine v_push (60) (hz_X12_readTest hT _ _ rfl) rfl ?_
                refine v_call (w := 2) [some (2, 121), some (0, 60)] hO (hz_X12_readTest hT _ _ rfl) rfl rfl (rx_isSign hT hO 60 (rX.z (r := 126) (k := ((((2477 + (9 * (s : Int))) + 7)).toNat)) (v := (0, 0)) (by decide) (rX.z (r := 126) (k := ((((2477 + (9 * (s : Int))) + 6)).toNat)) (v := (0, 2)) (by decide) hX30)) ?_)
                · show vP D T N 305 127 (zset (zset g30 126 ((((2477 + (9 * (s : Int))) + 6)).toNat) (0, 2)) 126 ((((2477 + (9 * (s : Int))) + 7)).toNat) (0, 0)) [some (2, 121), some (0, (2477 + (9 * (s : Int)))), some (0, 2)] [(0, (bG τ 60 (i + 1 + 1))), (2, 121)] _
                  refine v_if (hz_X12_readTest hT _ _ rfl) (fun hc153 => ?_) (fun hc153 => ?_)
                  · have hc153 : (bG τ 60 (i + 1 + 1)) = 0 := hc153
                    refine v_load (v := (2, 121)) (hz_X12_readTest hT _ _ rfl) rfl rfl ?_
                    refine v_push (62) (hz_X12_readTest hT _ _ rfl) rfl ?_
                    refine v_call (w := 2) [some (2, 121), some (0, 62)] hO (hz_X12_readTest hT _ _ rfl) rfl rfl (rx_isSign hT hO 62 (rX.z (r := 126) (k := ((((2477 + (9 * (s : Int))) + 7)).toNat)) (v := (0, 0)) (by decide) (rX.z (r := 126) (k := ((((2477 + (9 * (s : Int))) + 6)).toNat)) (v := (0, 2)) (by decide) hX30)) ?_)
                    · show vP D T N 305 136 (zset (zset g30 126 ((((2477 + (9 * (s : Int))) + 6)).toNat) (0, 2)) 126 ((((2477 + (9 * (s : Int))) + 7)).toNat) (0, 0)) [some (2, 121), some (0, (2477 + (9 * (s : Int)))), some (0, 2)] [(0, (bG τ 62 (i + 1 + 1))), (2, 121)] _
                      refine v_if (hz_X12_readTest hT _ _ rfl) (fun hc154 => ?_) (fun hc154 => ?_)
                      · have hc154 : (bG τ 62 (i + 1 + 1)) = 0 := hc154
                        refine v_load (v := (2, 121)) (hz_X12_readTest hT _ _ rfl) rfl rfl ?_
                        refine v_push (61) (hz_X12_readTest hT _ _ rfl) rfl ?_
                        refine v_call (w := 2) [some (2, 121), some (0, 61)] hO (hz_X12_readTest hT _ _ rfl) rfl rfl (rx_isSign hT hO 61 (rX.z (r := 126) (k := ((((2477 + (9 * (s : Int))) + 7)).toNat)) (v := (0, 0)) (by decide) (rX.z (r := 126) (k := ((((2477 + (9 * (s : Int))) + 6)).toNat)) (v := (0, 2)) (by decide) hX30)) ?_)
                        · show vP D T N 305 145 (zset (zset g30 126 ((((2477 + (9 * (s : Int))) + 6)).toNat) (0, 2)) 126 ((((2477 + (9 * (s : Int))) + 7)).toNat) (0, 0)) [some (2, 121), some (0, (2477 + (9 * (s : Int)))), some (0, 2)] [(0, (bG τ 61 (i + 1 + 1))), (2, 121)] _
                          refine v_if (hz_X12_readTest hT _ _ rfl) (fun hc155 => ?_) (fun hc155 => ?_)
                          · have hc155 : (bG τ 61 (i + 1 + 1)) = 0 := hc155
                            refine v_push (0) (hz_X12_readTest hT _ _ rfl) rfl ?_
                            refine v_call (w := 2) [some (2, 121), some (0, 0)] hO (hi_X12_readTest_153 hT) rfl rfl (rx_must hT hO 0 (rX.z (r := 126) (k := ((((2477 + (9 * (s : Int))) + 7)).toNat)) (v := (0, 0)) (by decide) (rX.z (r := 126) (k := ((((2477 + (9 * (s : Int))) + 6)).toNat)) (v := (0, 2)) (by decide) hX30)) (fun c => absurd rfl c) (fun _ _ c => absurd rfl c) (fun g156 ft156 _ c156 => ?_))
                            · show vP D T N 305 156 g156 [some (2, 121), some (0, (2477 + (9 * (s : Int)))), some (0, 2)] [] _
                              refine vP_hv (fun hv156 => ?_)
                              refine v_load (v := (2, 121)) (hi_X12_readTest_156 hT) rfl rfl ?_
                              refine v_getR (c := 126) (r := 121) (hi_X12_readTest_157 hT) rfl rfl rfl ?_
                              refine v_load (v := (0, (2477 + (9 * (s : Int))))) (hi_X12_readTest_160 hT) rfl rfl ?_
                              refine v_push (2) (hi_X12_readTest_161 hT) rfl ?_
                              refine v_bin (w := ((2477 + (9 * (s : Int))) + 2)) (hi_X12_readTest_162 hT) (hq_add (by omega) (by omega)) ?_
                              refine v_load (v := (2, 121)) (hi_X12_readTest_163 hT) rfl rfl ?_
                              refine v_push (0) (hi_X12_readTest_164 hT) rfl ?_
                              refine v_push (9999) (hi_X12_readTest_165 hT) rfl ?_
                              refine v_call (w := 4) [some (2, 121), some (0, 0), some (0, 9999), none] hO (hi_X12_readTest_168 hT) rfl rfl (rx_numB hT hO 0 9999 c156 ?_)
                              · show vP D T N 305 171 g156 [some (2, 121), some (0, (2477 + (9 * (s : Int)))), some (0, 2)] [(0, 0), (0, ((2477 + (9 * (s : Int))) + 2)), (2, 126)] _
                                refine v_ast (r := 126) (hi_X12_readTest_171 hT) rfl rfl (fun ha157 hb158 hf159 => ?_)
                                refine v_ret0 (hi_X12_readTest_172 hT) ?_
                                show vP D T N 301 186 (zset g156 126 ((((2477 + (9 * (s : Int))) + 2)).toNat) (0, 0)) [some (2, 121), some (0, (2477 + (9 * (s : Int)))), some (0, 7)] [] _
                                refine v_goto (hi_X12_readRest_186 hT) ?_
                                refine v_ret0 (hi_X12_readRest_210 hT) ?_
                                show vP D T N 304 132 (zset g156 126 ((((2477 + (9 * (s : Int))) + 2)).toNat) (0, 0)) [some (2, 121), some (0, (d : Int)), some (0, 7), some (0, 1), some (0, (2477 + (9 * (s : Int))))] [] _
                                refine v_load (v := (2, 121)) (hi_X12_readStep_132 hT) rfl rfl ?_
                                refine v_load (v := (2, 121)) (hi_X12_readStep_133 hT) rfl rfl ?_
                                refine v_push (59) (hi_X12_readStep_134 hT) rfl ?_
                                refine v_call (w := 2) [some (2, 121), some (0, 59)] hO (hi_X12_readStep_136 hT) rfl rfl (rb_any_isSign hT hO (fun v160 => ?_))
                                · show vP D T N 304 139 (zset g156 126 ((((2477 + (9 * (s : Int))) + 2)).toNat) (0, 0)) [some (2, 121), some (0, (d : Int)), some (0, 7), some (0, 1), some (0, (2477 + (9 * (s : Int))))] [(0, v160), (2, 121)] _
                                  refine v_call (w := 2) [some (2, 121), some (0, v160)] hO (hi_X12_readStep_139 hT) rfl rfl (rx_mustB hT hO v160 (rE.z (r := 126) (k := ((((2477 + (9 * (s : Int))) + 2)).toNat)) (v := (0, 0)) (by decide) c156) ?_)
                                  · show vP D T N 304 142 (zset g156 126 ((((2477 + (9 * (s : Int))) + 2)).toNat) (0, 0)) [some (2, 121), some (0, (d : Int)), some (0, 7), some (0, 1), some (0, (2477 + (9 * (s : Int))))] [] _
                                    refine v_load (v := (0, 1)) (hi_X12_readStep_142 hT) rfl rfl ?_
                                    refine v_if (hi_X12_readStep_143 hT) (fun hc161 => absurd (show (1 : Int) = 0 from hc161) nz29) (fun _ => ?_)
                                    refine v_load (v := (2, 121)) (hi_X12_readStep_146 hT) rfl rfl ?_
                                    refine v_getf (v := (0, (eF τ (i + 1 + 1) 2).1)) (r := 121) (hi_X12_readStep_147 hT) rfl rfl (fun _ => Eq.trans (zset_ne (fun c => absurd c.1 (by decide))) (c156.1)) ?_
                                    refine v_if (hi_X12_readStep_150 hT) (fun hc162 => absurd (show (eF τ (i + 1 + 1) 2).1 = 0 from hc162) (by have := c156.2.1; omega)) (fun _ => ?_)
                                    refine v_load (v := (0, 1)) (hi_X12_readStep_170 hT) rfl rfl ?_
                                    refine v_if (hi_X12_readStep_171 hT) (fun hc163 => absurd (show (1 : Int) = 0 from hc163) nz29) (fun _ => ?_)
                                    refine v_load (v := (2, 121)) (hi_X12_readStep_174 hT) rfl rfl ?_
                                    refine v_load (v := (2, 121)) (hi_X12_readStep_175 hT) rfl rfl ?_
                                    refine v_call (w := 1) [some (2, 121)] hO (hi_X12_readStep_176 hT) rfl rfl (rb_any_isEnd hT hO (fun v164 => ?_))
                                    · show vP D T N 304 179 (zset g156 126 ((((2477 + (9 * (s : Int))) + 2)).toNat) (0, 0)) [some (2, 121), some (0, (d : Int)), some (0, 7), some (0, 1), some (0, (2477 + (9 * (s : Int))))] [(0, v164), (2, 121)] _
                                      refine v_call (w := 2) [some (2, 121), some (0, v164)] hO (hi_X12_readStep_179 hT) rfl rfl (rx_mustB hT hO v164 (rE.z (r := 126) (k := ((((2477 + (9 * (s : Int))) + 2)).toNat)) (v := (0, 0)) (by decide) c156) ?_)
                                      · show vP D T N 304 182 (zset g156 126 ((((2477 + (9 * (s : Int))) + 2)).toNat) (0, 0)) [some (2, 121), some (0, (d : Int)), some (0, 7), some (0, 1), some (0, (2477 + (9 * (s : Int))))] [] _
                                        refine v_load (v := (2, 121)) (hi_X12_readStep_182 hT) rfl rfl ?_
                                        refine v_load (v := (2, 121)) (hi_X12_readStep_183 hT) rfl rfl ?_
                                        refine v_push (59) (hi_X12_readStep_184 hT) rfl ?_
                                        refine v_call (w := 2) [some (2, 121), some (0, 59)] hO (hi_X12_readStep_186 hT) rfl rfl (rb_any_isSign hT hO (fun v165 => ?_))
                                        · show vP D T N 304 189 (zset g156 126 ((((2477 + (9 * (s : Int))) + 2)).toNat) (0, 0)) [some (2, 121), some (0, (d : Int)), some (0, 7), some (0, 1), some (0, (2477 + (9 * (s : Int))))] [(0, v165), (2, 121)] _
                                          refine v_call (w := 2) [some (2, 121), some (0, v165)] hO (hi_X12_readStep_189 hT) rfl rfl (rx_mustB hT hO v165 (rE.z (r := 126) (k := ((((2477 + (9 * (s : Int))) + 2)).toNat)) (v := (0, 0)) (by decide) c156) ?_)
                                          · show vP D T N 304 192 (zset g156 126 ((((2477 + (9 * (s : Int))) + 2)).toNat) (0, 0)) [some (2, 121), some (0, (d : Int)), some (0, 7), some (0, 1), some (0, (2477 + (9 * (s : Int))))] [] _
                                            refine v_load (v := (2, 121)) (hi_X12_readStep_192 hT) rfl rfl ?_
                                            refine v_getR (c := 126) (r := 121) (hi_X12_readStep_193 hT) rfl rfl rfl ?_
                                            refine v_load (v := (0, (2477 + (9 * (s : Int))))) (hi_X12_readStep_196 hT) rfl rfl ?_
                                            refine v_push (8) (hi_X12_readStep_198 hT) rfl ?_
                                            refine v_bin (w := ((2477 + (9 * (s : Int))) + 8)) (hi_X12_readStep_200 hT) (hq_add (by omega) (by omega)) ?_
                                            refine v_load (v := (2, 121)) (hi_X12_readStep_201 hT) rfl rfl ?_
                                            refine v_getf (v := (0, ((s : Int) + 1))) (r := 121) (hi_X12_readStep_202 hT) rfl rfl (fun _ => Eq.trans (zset_ne (fun c => absurd c.1 (by decide))) ((Eq.trans (ft156 121 25 (by first | decide | exact fun c => by omega)) (Eq.trans (Eq.trans (zset_ne (fun c => absurd c.1 (by decide))) (zset_ne (fun c => absurd c.1 (by decide)))) ((Eq.trans (ft30 121 25 (by first | decide | exact fun c => by omega)) (Eq.trans (zset_ne (fun c => absurd c.1 (by decide))) ((Eq.trans (ft15 121 25 (by first | decide | exact fun c => by omega)) (zset_same)))))))))) ?_
                                            refine v_ast (r := 126) (hi_X12_readStep_205 hT) rfl rfl (fun ha166 hb167 hf168 => ?_)
                                            refine v_ret0 (hi_X12_readStep_206 hT) ?_
                                            exact er _ _ (by simp only [pStep, hE, hsw, htw, hop, h15, opW15, harg, pNm, pWord, pSg, (show ¬ 30 ≤ s from by omega), (show ¬ 3 ≤ d from by omega), pCm_n hc153 hc154 hc155, ne_eq, not_true_eq_false, not_false_eq_true, if_true, if_false, eq_self, eb_l, eb_r, and_true, true_and, and_false, false_and]) (rE.z (r := 126) (k := ((((2477 + (9 * (s : Int))) + 8)).toNat)) (v := (0, ((s : Int) + 1))) (by decide) (rE.z (r := 126) (k := ((((2477 + (9 * (s : Int))) + 2)).toNat)) (v := (0, 0)) (by decide) c156)) (roF.z (a := 126) (b := ((((2477 + (9 * (s : Int))) + 8)).toNat)) (v := (0, ((s : Int) + 1))) (by omega) (roF.z (a := 126) (b := ((((2477 + (9 * (s : Int))) + 2)).toNat)) (v := (0, 0)) (by omega) (roF.t (roF.z (a := 126) (b := ((((2477 + (9 * (s : Int))) + 7)).toNat)) (v := (0, 0)) (by omega) (roF.z (a := 126) (b := ((((2477 + (9 * (s : Int))) + 6)).toNat)) (v := (0, 2)) (by omega) (roF.t (roF.z (a := 126) (b := (((2477 + (9 * (s : Int)))).toNat)) (v := (0, 7)) (by omega) (roF.t (roF.z (a := 121) (b := 25) (v := (0, ((s : Int) + 1))) (by omega) roF.rfl) ft15)) ft30))) ft156)))
                          · have hc155 : (bG τ 61 (i + 1 + 1)) ≠ 0 := hc155
                            refine v_push (1) (hi_X12_readTest_148 hT) rfl ?_
                            refine v_goto (hi_X12_readTest_149 hT) ?_
                            refine v_call (w := 2) [some (2, 121), some (0, 1)] hO (hi_X12_readTest_153 hT) rfl rfl (rx_must hT hO 1 (rX.z (r := 126) (k := ((((2477 + (9 * (s : Int))) + 7)).toNat)) (v := (0, 0)) (by decide) (rX.z (r := 126) (k := ((((2477 + (9 * (s : Int))) + 6)).toNat)) (v := (0, 2)) (by decide) hX30)) (fun _ => ⟨by have := (bG_y.mp hc155).1; omega, by have := (bG_y.mp hc155).1; omega⟩) (k2 := fun _ _ c => absurd c (by decide)) (fun g170 ft170 nz169 hX170 => ?_))
                            · show vP D T N 305 156 g170 [some (2, 121), some (0, (2477 + (9 * (s : Int)))), some (0, 2)] [] _
                              refine vP_hv (fun hv170 => ?_)
                              refine v_load (v := (2, 121)) (hi_X12_readTest_156 hT) rfl rfl ?_
                              refine v_getR (c := 126) (r := 121) (hi_X12_readTest_157 hT) rfl rfl rfl ?_
                              refine v_load (v := (0, (2477 + (9 * (s : Int))))) (hi_X12_readTest_160 hT) rfl rfl ?_
                              refine v_push (2) (hi_X12_readTest_161 hT) rfl ?_
                              refine v_bin (w := ((2477 + (9 * (s : Int))) + 2)) (hi_X12_readTest_162 hT) (hq_add (by omega) (by omega)) ?_
                              refine v_load (v := (2, 121)) (hi_X12_readTest_163 hT) rfl rfl ?_
                              refine v_push (0) (hi_X12_readTest_164 hT) rfl ?_
                              refine v_push (9999) (hi_X12_readTest_165 hT) rfl ?_
                              refine v_call (w := 4) [some (2, 121), some (0, 0), some (0, 9999), none] hO (hi_X12_readTest_168 hT) rfl rfl (rx_num hT hO 0 9999 hX170 (fun g172 x171 ft172 q172 bux171 bvx171 hX172 => ?_) (fun g173 e173 ft173 q173 c173 => ?_))
                              · show vP D T N 305 171 g172 [some (2, 121), some (0, (2477 + (9 * (s : Int)))), some (0, 2)] [(0, x171), (0, ((2477 + (9 * (s : Int))) + 2)), (2, 126)] _
                                refine vP_hv (fun hv172 => ?_)
                                refine v_ast (r := 126) (hi_X12_readTest_171 hT) rfl rfl (fun ha174 hb175 hf176 => ?_)
                                refine v_ret0 (hi_X12_readTest_172 hT) ?_
                                show vP D T N 301 186 (zset g172 126 ((((2477 + (9 * (s : Int))) + 2)).toNat) (0, x171)) [some (2, 121), some (0, (2477 + (9 * (s : Int)))), some (0, 7)] [] _
                                refine v_goto (hi_X12_readRest_186 hT) ?_
                                refine v_ret0 (hi_X12_readRest_210 hT) ?_
                                show vP D T N 304 132 (zset g172 126 ((((2477 + (9 * (s : Int))) + 2)).toNat) (0, x171)) [some (2, 121), some (0, (d : Int)), some (0, 7), some (0, 1), some (0, (2477 + (9 * (s : Int))))] [] _
                                refine v_load (v := (2, 121)) (hi_X12_readStep_132 hT) rfl rfl ?_
                                refine v_load (v := (2, 121)) (hi_X12_readStep_133 hT) rfl rfl ?_
                                refine v_push (59) (hi_X12_readStep_134 hT) rfl ?_
                                refine v_call (w := 2) [some (2, 121), some (0, 59)] hO (hi_X12_readStep_136 hT) rfl rfl (rx_isSign hT hO 59 (rX.z (r := 126) (k := ((((2477 + (9 * (s : Int))) + 2)).toNat)) (v := (0, x171)) (by decide) hX172) ?_)
                                · show vP D T N 304 139 (zset g172 126 ((((2477 + (9 * (s : Int))) + 2)).toNat) (0, x171)) [some (2, 121), some (0, (d : Int)), some (0, 7), some (0, 1), some (0, (2477 + (9 * (s : Int))))] [(0, (bG τ 59 (i + 1 + 1 + 1 + 1))), (2, 121)] _
                                  refine v_call (w := 2) [some (2, 121), some (0, (bG τ 59 (i + 1 + 1 + 1 + 1)))] hO (hi_X12_readStep_139 hT) rfl rfl (rx_must hT hO ((bG τ 59 (i + 1 + 1 + 1 + 1))) (rX.z (r := 126) (k := ((((2477 + (9 * (s : Int))) + 2)).toNat)) (v := (0, x171)) (by decide) hX172) (fun c => ⟨by have := (bG_y.mp c).1; omega, by have := (bG_y.mp c).1; omega⟩) (fun g178 ft178 hc177 hX178 => ?_) (fun g179 ft179 hc179 c179 => ?_))
                                  · show vP D T N 304 142 g178 [some (2, 121), some (0, (d : Int)), some (0, 7), some (0, 1), some (0, (2477 + (9 * (s : Int))))] [] _
                                    refine vP_hv (fun hv178 => ?_)
                                    exact absurd (bG_y.mp hc155).1 hc37
                                  · show vP D T N 304 142 g179 [some (2, 121), some (0, (d : Int)), some (0, 7), some (0, 1), some (0, (2477 + (9 * (s : Int))))] [] _
                                    refine vP_hv (fun hv179 => ?_)
                                    refine v_load (v := (0, 1)) (hi_X12_readStep_142 hT) rfl rfl ?_
                                    refine v_if (hi_X12_readStep_143 hT) (fun hc180 => absurd (show (1 : Int) = 0 from hc180) nz29) (fun _ => ?_)
                                    refine v_load (v := (2, 121)) (hi_X12_readStep_146 hT) rfl rfl ?_
                                    refine v_getf (v := (0, (eF τ (i + 1 + 1 + 1 + 1) 2).1)) (r := 121) (hi_X12_readStep_147 hT) rfl rfl (fun _ => c179.1) ?_
                                    refine v_if (hi_X12_readStep_150 hT) (fun hc181 => absurd (show (eF τ (i + 1 + 1 + 1 + 1) 2).1 = 0 from hc181) (by have := c179.2.1; omega)) (fun _ => ?_)
                                    refine v_load (v := (0, 1)) (hi_X12_readStep_170 hT) rfl rfl ?_
                                    refine v_if (hi_X12_readStep_171 hT) (fun hc182 => absurd (show (1 : Int) = 0 from hc182) nz29) (fun _ => ?_)
                                    refine v_load (v := (2, 121)) (hi_X12_readStep_174 hT) rfl rfl ?_
                                    refine v_load (v := (2, 121)) (hi_X12_readStep_175 hT) rfl rfl ?_
                                    refine v_call (w := 1) [some (2, 121)] hO (hi_X12_readStep_176 hT) rfl rfl (rb_any_isEnd hT hO (fun v183 => ?_))
                                    · show vP D T N 304 179 g179 [some (2, 121), some (0, (d : Int)), some (0, 7), some (0, 1), some (0, (2477 + (9 * (s : Int))))] [(0, v183), (2, 121)] _
                                      refine v_call (w := 2) [some (2, 121), some (0, v183)] hO (hi_X12_readStep_179 hT) rfl rfl (rx_mustB hT hO v183 c179 ?_)
                                      · show vP D T N 304 182 g179 [some (2, 121), some (0, (d : Int)), some (0, 7), some (0, 1), some (0, (2477 + (9 * (s : Int))))] [] _
                                        refine v_load (v := (2, 121)) (hi_X12_readStep_182 hT) rfl rfl ?_
                                        refine v_load (v := (2, 121)) (hi_X12_readStep_183 hT) rfl rfl ?_
                                        refine v_push (59) (hi_X12_readStep_184 hT) rfl ?_
                                        refine v_call (w := 2) [some (2, 121), some (0, 59)] hO (hi_X12_readStep_186 hT) rfl rfl (rb_any_isSign hT hO (fun v184 => ?_))
                                        · show vP D T N 304 189 g179 [some (2, 121), some (0, (d : Int)), some (0, 7), some (0, 1), some (0, (2477 + (9 * (s : Int))))] [(0, v184), (2, 121)] _
                                          refine v_call (w := 2) [some (2, 121), some (0, v184)] hO (hi_X12_readStep_189 hT) rfl rfl (rx_mustB hT hO v184 c179 ?_)
                                          · show vP D T N 304 192 g179 [some (2, 121), some (0, (d : Int)), some (0, 7), some (0, 1), some (0, (2477 + (9 * (s : Int))))] [] _
                                            refine v_load (v := (2, 121)) (hi_X12_readStep_192 hT) rfl rfl ?_
                                            refine v_getR (c := 126) (r := 121) (hi_X12_readStep_193 hT) rfl rfl rfl ?_
                                            refine v_load (v := (0, (2477 + (9 * (s : Int))))) (hi_X12_readStep_196 hT) rfl rfl ?_
                                            refine v_push (8) (hi_X12_readStep_198 hT) rfl ?_
                                            refine v_bin (w := ((2477 + (9 * (s : Int))) + 8)) (hi_X12_readStep_200 hT) (hq_add (by omega) (by omega)) ?_
                                            refine v_load (v := (2, 121)) (hi_X12_readStep_201 hT) rfl rfl ?_
                                            refine v_getf (v := (0, ((s : Int) + 1))) (r := 121) (hi_X12_readStep_202 hT) rfl rfl (fun _ => (Eq.trans (ft179 121 25 (by first | decide | exact fun c => by omega)) (Eq.trans (zset_ne (fun c => absurd c.1 (by decide))) ((Eq.trans (ft172 121 25 (by first | decide | exact fun c => by omega)) (Eq.trans (ft170 121 25 (by first | decide | exact fun c => by omega)) (Eq.trans (Eq.trans (zset_ne (fun c => absurd c.1 (by decide))) (zset_ne (fun c => absurd c.1 (by decide)))) ((Eq.trans (ft30 121 25 (by first | decide | exact fun c => by omega)) (Eq.trans (zset_ne (fun c => absurd c.1 (by decide))) ((Eq.trans (ft15 121 25 (by first | decide | exact fun c => by omega)) (zset_same))))))))))))) ?_
                                            refine v_ast (r := 126) (hi_X12_readStep_205 hT) rfl rfl (fun ha185 hb186 hf187 => ?_)
                                            refine v_ret0 (hi_X12_readStep_206 hT) ?_
                                            exact er _ _ (by simp only [pStep, hE, hsw, htw, hop, h15, opW15, harg, pNm, pWord, pSg, (show ¬ 30 ≤ s from by omega), (show ¬ 3 ≤ d from by omega), pCm_y (x := 61) (by decide) hc155, q172, hc179, ne_eq, not_true_eq_false, not_false_eq_true, if_true, if_false, eq_self, eb_l, eb_r, and_true, true_and, and_false, false_and]) (rE.z (r := 126) (k := ((((2477 + (9 * (s : Int))) + 8)).toNat)) (v := (0, ((s : Int) + 1))) (by decide) c179) (roF.z (a := 126) (b := ((((2477 + (9 * (s : Int))) + 8)).toNat)) (v := (0, ((s : Int) + 1))) (by omega) (roF.t (roF.z (a := 126) (b := ((((2477 + (9 * (s : Int))) + 2)).toNat)) (v := (0, x171)) (by omega) (roF.t (roF.t (roF.z (a := 126) (b := ((((2477 + (9 * (s : Int))) + 7)).toNat)) (v := (0, 0)) (by omega) (roF.z (a := 126) (b := ((((2477 + (9 * (s : Int))) + 6)).toNat)) (v := (0, 2)) (by omega) (roF.t (roF.z (a := 126) (b := (((2477 + (9 * (s : Int)))).toNat)) (v := (0, 7)) (by omega) (roF.t (roF.z (a := 121) (b := 25) (v := (0, ((s : Int) + 1))) (by omega) roF.rfl) ft15)) ft30))) ft170) ft172)) ft179))
                              · show vP D T N 305 171 g173 [some (2, 121), some (0, (2477 + (9 * (s : Int)))), some (0, 2)] [(0, 0), (0, ((2477 + (9 * (s : Int))) + 2)), (2, 126)] _
                                refine vP_hv (fun hv173 => ?_)
                                refine v_ast (r := 126) (hi_X12_readTest_171 hT) rfl rfl (fun ha188 hb189 hf190 => ?_)
                                refine v_ret0 (hi_X12_readTest_172 hT) ?_
                                show vP D T N 301 186 (zset g173 126 ((((2477 + (9 * (s : Int))) + 2)).toNat) (0, 0)) [some (2, 121), some (0, (2477 + (9 * (s : Int)))), some (0, 7)] [] _
                                refine v_goto (hi_X12_readRest_186 hT) ?_
                                refine v_ret0 (hi_X12_readRest_210 hT) ?_
                                show vP D T N 304 132 (zset g173 126 ((((2477 + (9 * (s : Int))) + 2)).toNat) (0, 0)) [some (2, 121), some (0, (d : Int)), some (0, 7), some (0, 1), some (0, (2477 + (9 * (s : Int))))] [] _
                                refine v_load (v := (2, 121)) (hi_X12_readStep_132 hT) rfl rfl ?_
                                refine v_load (v := (2, 121)) (hi_X12_readStep_133 hT) rfl rfl ?_
                                refine v_push (59) (hi_X12_readStep_134 hT) rfl ?_
                                refine v_call (w := 2) [some (2, 121), some (0, 59)] hO (hi_X12_readStep_136 hT) rfl rfl (rb_any_isSign hT hO (fun v191 => ?_))
                                · show vP D T N 304 139 (zset g173 126 ((((2477 + (9 * (s : Int))) + 2)).toNat) (0, 0)) [some (2, 121), some (0, (d : Int)), some (0, 7), some (0, 1), some (0, (2477 + (9 * (s : Int))))] [(0, v191), (2, 121)] _
                                  refine v_call (w := 2) [some (2, 121), some (0, v191)] hO (hi_X12_readStep_139 hT) rfl rfl (rx_mustB hT hO v191 (rE.z (r := 126) (k := ((((2477 + (9 * (s : Int))) + 2)).toNat)) (v := (0, 0)) (by decide) c173) ?_)
                                  · show vP D T N 304 142 (zset g173 126 ((((2477 + (9 * (s : Int))) + 2)).toNat) (0, 0)) [some (2, 121), some (0, (d : Int)), some (0, 7), some (0, 1), some (0, (2477 + (9 * (s : Int))))] [] _
                                    refine v_load (v := (0, 1)) (hi_X12_readStep_142 hT) rfl rfl ?_
                                    refine v_if (hi_X12_readStep_143 hT) (fun hc192 => absurd (show (1 : Int) = 0 from hc192) nz29) (fun _ => ?_)
                                    refine v_load (v := (2, 121)) (hi_X12_readStep_146 hT) rfl rfl ?_
                                    refine v_getf (v := (0, e173.1)) (r := 121) (hi_X12_readStep_147 hT) rfl rfl (fun _ => Eq.trans (zset_ne (fun c => absurd c.1 (by decide))) (c173.1)) ?_
                                    refine v_if (hi_X12_readStep_150 hT) (fun hc193 => absurd (show e173.1 = 0 from hc193) (by have := c173.2.1; omega)) (fun _ => ?_)
                                    refine v_load (v := (0, 1)) (hi_X12_readStep_170 hT) rfl rfl ?_
                                    refine v_if (hi_X12_readStep_171 hT) (fun hc194 => absurd (show (1 : Int) = 0 from hc194) nz29) (fun _ => ?_)
                                    refine v_load (v := (2, 121)) (hi_X12_readStep_174 hT) rfl rfl ?_
                                    refine v_load (v := (2, 121)) (hi_X12_readStep_175 hT) rfl rfl ?_
                                    refine v_call (w := 1) [some (2, 121)] hO (hi_X12_readStep_176 hT) rfl rfl (rb_any_isEnd hT hO (fun v195 => ?_))
                                    · show vP D T N 304 179 (zset g173 126 ((((2477 + (9 * (s : Int))) + 2)).toNat) (0, 0)) [some (2, 121), some (0, (d : Int)), some (0, 7), some (0, 1), some (0, (2477 + (9 * (s : Int))))] [(0, v195), (2, 121)] _
                                      refine v_call (w := 2) [some (2, 121), some (0, v195)] hO (hi_X12_readStep_179 hT) rfl rfl (rx_mustB hT hO v195 (rE.z (r := 126) (k := ((((2477 + (9 * (s : Int))) + 2)).toNat)) (v := (0, 0)) (by decide) c173) ?_)
                                      · show vP D T N 304 182 (zset g173 126 ((((2477 + (9 * (s : Int))) + 2)).toNat) (0, 0)) [some (2, 121), some (0, (d : Int)), some (0, 7), some (0, 1), some (0, (2477 + (9 * (s : Int))))] [] _
                                        refine v_load (v := (2, 121)) (hi_X12_readStep_182 hT) rfl rfl ?_
                                        refine v_load (v := (2, 121)) (hi_X12_readStep_183 hT) rfl rfl ?_
                                        refine v_push (59) (hi_X12_readStep_184 hT) rfl ?_
                                        refine v_call (w := 2) [some (2, 121), some (0, 59)] hO (hi_X12_readStep_186 hT) rfl rfl (rb_any_isSign hT hO (fun v196 => ?_))
                                        · show vP D T N 304 189 (zset g173 126 ((((2477 + (9 * (s : Int))) + 2)).toNat) (0, 0)) [some (2, 121), some (0, (d : Int)), some (0, 7), some (0, 1), some (0, (2477 + (9 * (s : Int))))] [(0, v196), (2, 121)] _
                                          refine v_call (w := 2) [some (2, 121), some (0, v196)] hO (hi_X12_readStep_189 hT) rfl rfl (rx_mustB hT hO v196 (rE.z (r := 126) (k := ((((2477 + (9 * (s : Int))) + 2)).toNat)) (v := (0, 0)) (by decide) c173) ?_)
                                          · show vP D T N 304 192 (zset g173 126 ((((2477 + (9 * (s : Int))) + 2)).toNat) (0, 0)) [some (2, 121), some (0, (d : Int)), some (0, 7), some (0, 1), some (0, (2477 + (9 * (s : Int))))] [] _
                                            refine v_load (v := (2, 121)) (hi_X12_readStep_192 hT) rfl rfl ?_
                                            refine v_getR (c := 126) (r := 121) (hi_X12_readStep_193 hT) rfl rfl rfl ?_
                                            refine v_load (v := (0, (2477 + (9 * (s : Int))))) (hi_X12_readStep_196 hT) rfl rfl ?_
                                            refine v_push (8) (hi_X12_readStep_198 hT) rfl ?_
                                            refine v_bin (w := ((2477 + (9 * (s : Int))) + 8)) (hi_X12_readStep_200 hT) (hq_add (by omega) (by omega)) ?_
                                            refine v_load (v := (2, 121)) (hi_X12_readStep_201 hT) rfl rfl ?_
                                            refine v_getf (v := (0, ((s : Int) + 1))) (r := 121) (hi_X12_readStep_202 hT) rfl rfl (fun _ => Eq.trans (zset_ne (fun c => absurd c.1 (by decide))) ((Eq.trans (ft173 121 25 (by first | decide | exact fun c => by omega)) (Eq.trans (ft170 121 25 (by first | decide | exact fun c => by omega)) (Eq.trans (Eq.trans (zset_ne (fun c => absurd c.1 (by decide))) (zset_ne (fun c => absurd c.1 (by decide)))) ((Eq.trans (ft30 121 25 (by first | decide | exact fun c => by omega)) (Eq.trans (zset_ne (fun c => absurd c.1 (by decide))) ((Eq.trans (ft15 121 25 (by first | decide | exact fun c => by omega)) (zset_same))))))))))) ?_
                                            refine v_ast (r := 126) (hi_X12_readStep_205 hT) rfl rfl (fun ha197 hb198 hf199 => ?_)
                                            refine v_ret0 (hi_X12_readStep_206 hT) ?_
                                            exact er _ _ (by simp only [pStep, hE, hsw, htw, hop, h15, opW15, harg, pNm, pWord, pSg, (show ¬ 30 ≤ s from by omega), (show ¬ 3 ≤ d from by omega), pCm_y (x := 61) (by decide) hc155, q173, ne_eq, not_true_eq_false, not_false_eq_true, if_true, if_false, eq_self, eb_l, eb_r, and_true, true_and, and_false, false_and]) (rE.z (r := 126) (k := ((((2477 + (9 * (s : Int))) + 8)).toNat)) (v := (0, ((s : Int) + 1))) (by decide) (rE.z (r := 126) (k := ((((2477 + (9 * (s : Int))) + 2)).toNat)) (v := (0, 0)) (by decide) c173)) (roF.z (a := 126) (b := ((((2477 + (9 * (s : Int))) + 8)).toNat)) (v := (0, ((s : Int) + 1))) (by omega) (roF.z (a := 126) (b := ((((2477 + (9 * (s : Int))) + 2)).toNat)) (v := (0, 0)) (by omega) (roF.t (roF.t (roF.z (a := 126) (b := ((((2477 + (9 * (s : Int))) + 7)).toNat)) (v := (0, 0)) (by omega) (roF.z (a := 126) (b := ((((2477 + (9 * (s : Int))) + 6)).toNat)) (v := (0, 2)) (by omega) (roF.t (roF.z (a := 126) (b := (((2477 + (9 * (s : Int)))).toNat)) (v := (0, 7)) (by omega) (roF.t (roF.z (a := 121) (b := 25) (v := (0, ((s : Int) + 1))) (by omega) roF.rfl) ft15)) ft30))) ft170) ft173)))
                      · have hc154 : (bG τ 62 (i + 1 + 1)) ≠ 0 := hc154
                        refine v_push (1) (hi_X12_readTest_148 hT) rfl ?_
                        refine v_goto (hi_X12_readTest_149 hT) ?_
                        refine v_call (w := 2) [some (2, 121), some (0, 1)] hO (hi_X12_readTest_153 hT) rfl rfl (rx_must hT hO 1 (rX.z (r := 126) (k := ((((2477 + (9 * (s : Int))) + 7)).toNat)) (v := (0, 0)) (by decide) (rX.z (r := 126) (k := ((((2477 + (9 * (s : Int))) + 6)).toNat)) (v := (0, 2)) (by decide) hX30)) (fun _ => ⟨by have := (bG_y.mp hc154).1; omega, by have := (bG_y.mp hc154).1; omega⟩) (k2 := fun _ _ c => absurd c (by decide)) (fun g201 ft201 nz200 hX201 => ?_))
                        · show vP D T N 305 156 g201 [some (2, 121), some (0, (2477 + (9 * (s : Int)))), some (0, 2)] [] _
                          refine vP_hv (fun hv201 => ?_)
                          refine v_load (v := (2, 121)) (hi_X12_readTest_156 hT) rfl rfl ?_
                          refine v_getR (c := 126) (r := 121) (hi_X12_readTest_157 hT) rfl rfl rfl ?_
                          refine v_load (v := (0, (2477 + (9 * (s : Int))))) (hi_X12_readTest_160 hT) rfl rfl ?_
                          refine v_push (2) (hi_X12_readTest_161 hT) rfl ?_
                          refine v_bin (w := ((2477 + (9 * (s : Int))) + 2)) (hi_X12_readTest_162 hT) (hq_add (by omega) (by omega)) ?_
                          refine v_load (v := (2, 121)) (hi_X12_readTest_163 hT) rfl rfl ?_
                          refine v_push (0) (hi_X12_readTest_164 hT) rfl ?_
                          refine v_push (9999) (hi_X12_readTest_165 hT) rfl ?_
                          refine v_call (w := 4) [some (2, 121), some (0, 0), some (0, 9999), none] hO (hi_X12_readTest_168 hT) rfl rfl (rx_num hT hO 0 9999 hX201 (fun g203 x202 ft203 q203 bux202 bvx202 hX203 => ?_) (fun g204 e204 ft204 q204 c204 => ?_))
                          · show vP D T N 305 171 g203 [some (2, 121), some (0, (2477 + (9 * (s : Int)))), some (0, 2)] [(0, x202), (0, ((2477 + (9 * (s : Int))) + 2)), (2, 126)] _
                            refine vP_hv (fun hv203 => ?_)
                            refine v_ast (r := 126) (hi_X12_readTest_171 hT) rfl rfl (fun ha205 hb206 hf207 => ?_)
                            refine v_ret0 (hi_X12_readTest_172 hT) ?_
                            show vP D T N 301 186 (zset g203 126 ((((2477 + (9 * (s : Int))) + 2)).toNat) (0, x202)) [some (2, 121), some (0, (2477 + (9 * (s : Int)))), some (0, 7)] [] _
                            refine v_goto (hi_X12_readRest_186 hT) ?_
                            refine v_ret0 (hi_X12_readRest_210 hT) ?_
                            show vP D T N 304 132 (zset g203 126 ((((2477 + (9 * (s : Int))) + 2)).toNat) (0, x202)) [some (2, 121), some (0, (d : Int)), some (0, 7), some (0, 1), some (0, (2477 + (9 * (s : Int))))] [] _
                            refine v_load (v := (2, 121)) (hi_X12_readStep_132 hT) rfl rfl ?_
                            refine v_load (v := (2, 121)) (hi_X12_readStep_133 hT) rfl rfl ?_
                            refine v_push (59) (hi_X12_readStep_134 hT) rfl ?_
                            refine v_call (w := 2) [some (2, 121), some (0, 59)] hO (hi_X12_readStep_136 hT) rfl rfl (rx_isSign hT hO 59 (rX.z (r := 126) (k := ((((2477 + (9 * (s : Int))) + 2)).toNat)) (v := (0, x202)) (by decide) hX203) ?_)
                            · show vP D T N 304 139 (zset g203 126 ((((2477 + (9 * (s : Int))) + 2)).toNat) (0, x202)) [some (2, 121), some (0, (d : Int)), some (0, 7), some (0, 1), some (0, (2477 + (9 * (s : Int))))] [(0, (bG τ 59 (i + 1 + 1 + 1 + 1))), (2, 121)] _
                              refine v_call (w := 2) [some (2, 121), some (0, (bG τ 59 (i + 1 + 1 + 1 + 1)))] hO (hi_X12_readStep_139 hT) rfl rfl (rx_must hT hO ((bG τ 59 (i + 1 + 1 + 1 + 1))) (rX.z (r := 126) (k := ((((2477 + (9 * (s : Int))) + 2)).toNat)) (v := (0, x202)) (by decide) hX203) (fun c => ⟨by have := (bG_y.mp c).1; omega, by have := (bG_y.mp c).1; omega⟩) (fun g209 ft209 hc208 hX209 => ?_) (fun g210 ft210 hc210 c210 => ?_))
                              · show vP D T N 304 142 g209 [some (2, 121), some (0, (d : Int)), some (0, 7), some (0, 1), some (0, (2477 + (9 * (s : Int))))] [] _
                                refine vP_hv (fun hv209 => ?_)
                                exact absurd (bG_y.mp hc154).1 hc37
                              · show vP D T N 304 142 g210 [some (2, 121), some (0, (d : Int)), some (0, 7), some (0, 1), some (0, (2477 + (9 * (s : Int))))] [] _
                                refine vP_hv (fun hv210 => ?_)
                                refine v_load (v := (0, 1)) (hi_X12_readStep_142 hT) rfl rfl ?_
                                refine v_if (hi_X12_readStep_143 hT) (fun hc211 => absurd (show (1 : Int) = 0 from hc211) nz29) (fun _ => ?_)
                                refine v_load (v := (2, 121)) (hi_X12_readStep_146 hT) rfl rfl ?_
                                refine v_getf (v := (0, (eF τ (i + 1 + 1 + 1 + 1) 2).1)) (r := 121) (hi_X12_readStep_147 hT) rfl rfl (fun _ => c210.1) ?_
                                refine v_if (hi_X12_readStep_150 hT) (fun hc212 => absurd (show (eF τ (i + 1 + 1 + 1 + 1) 2).1 = 0 from hc212) (by have := c210.2.1; omega)) (fun _ => ?_)
                                refine v_load (v := (0, 1)) (hi_X12_readStep_170 hT) rfl rfl ?_
                                refine v_if (hi_X12_readStep_171 hT) (fun hc213 => absurd (show (1 : Int) = 0 from hc213) nz29) (fun _ => ?_)
                                refine v_load (v := (2, 121)) (hi_X12_readStep_174 hT) rfl rfl ?_
                                refine v_load (v := (2, 121)) (hi_X12_readStep_175 hT) rfl rfl ?_
                                refine v_call (w := 1) [some (2, 121)] hO (hi_X12_readStep_176 hT) rfl rfl (rb_any_isEnd hT hO (fun v214 => ?_))
                                · show vP D T N 304 179 g210 [some (2, 121), some (0, (d : Int)), some (0, 7), some (0, 1), some (0, (2477 + (9 * (s : Int))))] [(0, v214), (2, 121)] _
                                  refine v_call (w := 2) [some (2, 121), some (0, v214)] hO (hi_X12_readStep_179 hT) rfl rfl (rx_mustB hT hO v214 c210 ?_)
                                  · show vP D T N 304 182 g210 [some (2, 121), some (0, (d : Int)), some (0, 7), some (0, 1), some (0, (2477 + (9 * (s : Int))))] [] _
                                    refine v_load (v := (2, 121)) (hi_X12_readStep_182 hT) rfl rfl ?_
                                    refine v_load (v := (2, 121)) (hi_X12_readStep_183 hT) rfl rfl ?_
                                    refine v_push (59) (hi_X12_readStep_184 hT) rfl ?_
                                    refine v_call (w := 2) [some (2, 121), some (0, 59)] hO (hi_X12_readStep_186 hT) rfl rfl (rb_any_isSign hT hO (fun v215 => ?_))
                                    · show vP D T N 304 189 g210 [some (2, 121), some (0, (d : Int)), some (0, 7), some (0, 1), some (0, (2477 + (9 * (s : Int))))] [(0, v215), (2, 121)] _
                                      refine v_call (w := 2) [some (2, 121), some (0, v215)] hO (hi_X12_readStep_189 hT) rfl rfl (rx_mustB hT hO v215 c210 ?_)
                                      · show vP D T N 304 192 g210 [some (2, 121), some (0, (d : Int)), some (0, 7), some (0, 1), some (0, (2477 + (9 * (s : Int))))] [] _
                                        refine v_load (v := (2, 121)) (hi_X12_readStep_192 hT) rfl rfl ?_
                                        refine v_getR (c := 126) (r := 121) (hi_X12_readStep_193 hT) rfl rfl rfl ?_
                                        refine v_load (v := (0, (2477 + (9 * (s : Int))))) (hi_X12_readStep_196 hT) rfl rfl ?_
                                        refine v_push (8) (hi_X12_readStep_198 hT) rfl ?_
                                        refine v_bin (w := ((2477 + (9 * (s : Int))) + 8)) (hi_X12_readStep_200 hT) (hq_add (by omega) (by omega)) ?_
                                        refine v_load (v := (2, 121)) (hi_X12_readStep_201 hT) rfl rfl ?_
                                        refine v_getf (v := (0, ((s : Int) + 1))) (r := 121) (hi_X12_readStep_202 hT) rfl rfl (fun _ => (Eq.trans (ft210 121 25 (by first | decide | exact fun c => by omega)) (Eq.trans (zset_ne (fun c => absurd c.1 (by decide))) ((Eq.trans (ft203 121 25 (by first | decide | exact fun c => by omega)) (Eq.trans (ft201 121 25 (by first | decide | exact fun c => by omega)) (Eq.trans (Eq.trans (zset_ne (fun c => absurd c.1 (by decide))) (zset_ne (fun c => absurd c.1 (by decide)))) ((Eq.trans (ft30 121 25 (by first | decide | exact fun c => by omega)) (Eq.trans (zset_ne (fun c => absurd c.1 (by decide))) ((Eq.trans (ft15 121 25 (by first | decide | exact fun c => by omega)) (zset_same))))))))))))) ?_
                                        refine v_ast (r := 126) (hi_X12_readStep_205 hT) rfl rfl (fun ha216 hb217 hf218 => ?_)
                                        refine v_ret0 (hi_X12_readStep_206 hT) ?_
                                        exact er _ _ (by simp only [pStep, hE, hsw, htw, hop, h15, opW15, harg, pNm, pWord, pSg, (show ¬ 30 ≤ s from by omega), (show ¬ 3 ≤ d from by omega), pCm_y (x := 62) (by decide) hc154, q203, hc210, ne_eq, not_true_eq_false, not_false_eq_true, if_true, if_false, eq_self, eb_l, eb_r, and_true, true_and, and_false, false_and]) (rE.z (r := 126) (k := ((((2477 + (9 * (s : Int))) + 8)).toNat)) (v := (0, ((s : Int) + 1))) (by decide) c210) (roF.z (a := 126) (b := ((((2477 + (9 * (s : Int))) + 8)).toNat)) (v := (0, ((s : Int) + 1))) (by omega) (roF.t (roF.z (a := 126) (b := ((((2477 + (9 * (s : Int))) + 2)).toNat)) (v := (0, x202)) (by omega) (roF.t (roF.t (roF.z (a := 126) (b := ((((2477 + (9 * (s : Int))) + 7)).toNat)) (v := (0, 0)) (by omega) (roF.z (a := 126) (b := ((((2477 + (9 * (s : Int))) + 6)).toNat)) (v := (0, 2)) (by omega) (roF.t (roF.z (a := 126) (b := (((2477 + (9 * (s : Int)))).toNat)) (v := (0, 7)) (by omega) (roF.t (roF.z (a := 121) (b := 25) (v := (0, ((s : Int) + 1))) (by omega) roF.rfl) ft15)) ft30))) ft201) ft203)) ft210))
                          · show vP D T N 305 171 g204 [some (2, 121), some (0, (2477 + (9 * (s : Int)))), some (0, 2)] [(0, 0), (0, ((2477 + (9 * (s : Int))) + 2)), (2, 126)] _
                            refine vP_hv (fun hv204 => ?_)
                            refine v_ast (r := 126) (hi_X12_readTest_171 hT) rfl rfl (fun ha219 hb220 hf221 => ?_)
                            refine v_ret0 (hi_X12_readTest_172 hT) ?_
                            show vP D T N 301 186 (zset g204 126 ((((2477 + (9 * (s : Int))) + 2)).toNat) (0, 0)) [some (2, 121), some (0, (2477 + (9 * (s : Int)))), some (0, 7)] [] _
                            refine v_goto (hi_X12_readRest_186 hT) ?_
                            refine v_ret0 (hi_X12_readRest_210 hT) ?_
                            show vP D T N 304 132 (zset g204 126 ((((2477 + (9 * (s : Int))) + 2)).toNat) (0, 0)) [some (2, 121), some (0, (d : Int)), some (0, 7), some (0, 1), some (0, (2477 + (9 * (s : Int))))] [] _
                            refine v_load (v := (2, 121)) (hi_X12_readStep_132 hT) rfl rfl ?_
                            refine v_load (v := (2, 121)) (hi_X12_readStep_133 hT) rfl rfl ?_
                            refine v_push (59) (hi_X12_readStep_134 hT) rfl ?_
                            refine v_call (w := 2) [some (2, 121), some (0, 59)] hO (hi_X12_readStep_136 hT) rfl rfl (rb_any_isSign hT hO (fun v222 => ?_))
                            · show vP D T N 304 139 (zset g204 126 ((((2477 + (9 * (s : Int))) + 2)).toNat) (0, 0)) [some (2, 121), some (0, (d : Int)), some (0, 7), some (0, 1), some (0, (2477 + (9 * (s : Int))))] [(0, v222), (2, 121)] _
                              refine v_call (w := 2) [some (2, 121), some (0, v222)] hO (hi_X12_readStep_139 hT) rfl rfl (rx_mustB hT hO v222 (rE.z (r := 126) (k := ((((2477 + (9 * (s : Int))) + 2)).toNat)) (v := (0, 0)) (by decide) c204) ?_)
                              · show vP D T N 304 142 (zset g204 126 ((((2477 + (9 * (s : Int))) + 2)).toNat) (0, 0)) [some (2, 121), some (0, (d : Int)), some (0, 7), some (0, 1), some (0, (2477 + (9 * (s : Int))))] [] _
                                refine v_load (v := (0, 1)) (hi_X12_readStep_142 hT) rfl rfl ?_
                                refine v_if (hi_X12_readStep_143 hT) (fun hc223 => absurd (show (1 : Int) = 0 from hc223) nz29) (fun _ => ?_)
                                refine v_load (v := (2, 121)) (hi_X12_readStep_146 hT) rfl rfl ?_
                                refine v_getf (v := (0, e204.1)) (r := 121) (hi_X12_readStep_147 hT) rfl rfl (fun _ => Eq.trans (zset_ne (fun c => absurd c.1 (by decide))) (c204.1)) ?_
                                refine v_if (hi_X12_readStep_150 hT) (fun hc224 => absurd (show e204.1 = 0 from hc224) (by have := c204.2.1; omega)) (fun _ => ?_)
                                refine v_load (v := (0, 1)) (hi_X12_readStep_170 hT) rfl rfl ?_
                                refine v_if (hi_X12_readStep_171 hT) (fun hc225 => absurd (show (1 : Int) = 0 from hc225) nz29) (fun _ => ?_)
                                refine v_load (v := (2, 121)) (hi_X12_readStep_174 hT) rfl rfl ?_
                                refine v_load (v := (2, 121)) (hi_X12_readStep_175 hT) rfl rfl ?_
                                refine v_call (w := 1) [some (2, 121)] hO (hi_X12_readStep_176 hT) rfl rfl (rb_any_isEnd hT hO (fun v226 => ?_))
                                · show vP D T N 304 179 (zset g204 126 ((((2477 + (9 * (s : Int))) + 2)).toNat) (0, 0)) [some (2, 121), some (0, (d : Int)), some (0, 7), some (0, 1), some (0, (2477 + (9 * (s : Int))))] [(0, v226), (2, 121)] _
                                  refine v_call (w := 2) [some (2, 121), some (0, v226)] hO (hi_X12_readStep_179 hT) rfl rfl (rx_mustB hT hO v226 (rE.z (r := 126) (k := ((((2477 + (9 * (s : Int))) + 2)).toNat)) (v := (0, 0)) (by decide) c204) ?_)
                                  · show vP D T N 304 182 (zset g204 126 ((((2477 + (9 * (s : Int))) + 2)).toNat) (0, 0)) [some (2, 121), some (0, (d : Int)), some (0, 7), some (0, 1), some (0, (2477 + (9 * (s : Int))))] [] _
                                    refine v_load (v := (2, 121)) (hi_X12_readStep_182 hT) rfl rfl ?_
                                    refine v_load (v := (2, 121)) (hi_X12_readStep_183 hT) rfl rfl ?_
                                    refine v_push (59) (hi_X12_readStep_184 hT) rfl ?_
                                    refine v_call (w := 2) [some (2, 121), some (0, 59)] hO (hi_X12_readStep_186 hT) rfl rfl (rb_any_isSign hT hO (fun v227 => ?_))
                                    · show vP D T N 304 189 (zset g204 126 ((((2477 + (9 * (s : Int))) + 2)).toNat) (0, 0)) [some (2, 121), some (0, (d : Int)), some (0, 7), some (0, 1), some (0, (2477 + (9 * (s : Int))))] [(0, v227), (2, 121)] _
                                      refine v_call (w := 2) [some (2, 121), some (0, v227)] hO (hi_X12_readStep_189 hT) rfl rfl (rx_mustB hT hO v227 (rE.z (r := 126) (k := ((((2477 + (9 * (s : Int))) + 2)).toNat)) (v := (0, 0)) (by decide) c204) ?_)
                                      · show vP D T N 304 192 (zset g204 126 ((((2477 + (9 * (s : Int))) + 2)).toNat) (0, 0)) [some (2, 121), some (0, (d : Int)), some (0, 7), some (0, 1), some (0, (2477 + (9 * (s : Int))))] [] _
                                        refine v_load (v := (2, 121)) (hi_X12_readStep_192 hT) rfl rfl ?_
                                        refine v_getR (c := 126) (r := 121) (hi_X12_readStep_193 hT) rfl rfl rfl ?_
                                        refine v_load (v := (0, (2477 + (9 * (s : Int))))) (hi_X12_readStep_196 hT) rfl rfl ?_
                                        refine v_push (8) (hi_X12_readStep_198 hT) rfl ?_
                                        refine v_bin (w := ((2477 + (9 * (s : Int))) + 8)) (hi_X12_readStep_200 hT) (hq_add (by omega) (by omega)) ?_
                                        refine v_load (v := (2, 121)) (hi_X12_readStep_201 hT) rfl rfl ?_
                                        refine v_getf (v := (0, ((s : Int) + 1))) (r := 121) (hi_X12_readStep_202 hT) rfl rfl (fun _ => Eq.trans (zset_ne (fun c => absurd c.1 (by decide))) ((Eq.trans (ft204 121 25 (by first | decide | exact fun c => by omega)) (Eq.trans (ft201 121 25 (by first | decide | exact fun c => by omega)) (Eq.trans (Eq.trans (zset_ne (fun c => absurd c.1 (by decide))) (zset_ne (fun c => absurd c.1 (by decide)))) ((Eq.trans (ft30 121 25 (by first | decide | exact fun c => by omega)) (Eq.trans (zset_ne (fun c => absurd c.1 (by decide))) ((Eq.trans (ft15 121 25 (by first | decide | exact fun c => by omega)) (zset_same))))))))))) ?_
                                        refine v_ast (r := 126) (hi_X12_readStep_205 hT) rfl rfl (fun ha228 hb229 hf230 => ?_)
                                        refine v_ret0 (hi_X12_readStep_206 hT) ?_
                                        exact er _ _ (by simp only [pStep, hE, hsw, htw, hop, h15, opW15, harg, pNm, pWord, pSg, (show ¬ 30 ≤ s from by omega), (show ¬ 3 ≤ d from by omega), pCm_y (x := 62) (by decide) hc154, q204, ne_eq, not_true_eq_false, not_false_eq_true, if_true, if_false, eq_self, eb_l, eb_r, and_true, true_and, and_false, false_and]) (rE.z (r := 126) (k := ((((2477 + (9 * (s : Int))) + 8)).toNat)) (v := (0, ((s : Int) + 1))) (by decide) (rE.z (r := 126) (k := ((((2477 + (9 * (s : Int))) + 2)).toNat)) (v := (0, 0)) (by decide) c204)) (roF.z (a := 126) (b := ((((2477 + (9 * (s : Int))) + 8)).toNat)) (v := (0, ((s : Int) + 1))) (by omega) (roF.z (a := 126) (b := ((((2477 + (9 * (s : Int))) + 2)).toNat)) (v := (0, 0)) (by omega) (roF.t (roF.t (roF.z (a := 126) (b := ((((2477 + (9 * (s : Int))) + 7)).toNat)) (v := (0, 0)) (by omega) (roF.z (a := 126) (b := ((((2477 + (9 * (s : Int))) + 6)).toNat)) (v := (0, 2)) (by omega) (roF.t (roF.z (a := 126) (b := (((2477 + (9 * (s : Int)))).toNat)) (v := (0, 7)) (by omega) (roF.t (roF.z (a := 121) (b := 25) (v := (0, ((s : Int) + 1))) (by omega) roF.rfl) ft15)) ft30))) ft201) ft204)))
                  · have hc153 : (bG τ 60 (i + 1 + 1)) ≠ 0 := hc153
                    refine v_push (1) (hi_X12_readTest_148 hT) rfl ?_
                    refine v_goto (hi_X12_readTest_149 hT) ?_
                    refine v_call (w := 2) [some (2, 121), some (0, 1)] hO (hi_X12_readTest_153 hT) rfl rfl (rx_must hT hO 1 (rX.z (r := 126) (k := ((((2477 + (9 * (s : Int))) + 7)).toNat)) (v := (0, 0)) (by decide) (rX.z (r := 126) (k := ((((2477 + (9 * (s : Int))) + 6)).toNat)) (v := (0, 2)) (by decide) hX30)) (fun _ => ⟨by have := (bG_y.mp hc153).1; omega, by have := (bG_y.mp hc153).1; omega⟩) (k2 := fun _ _ c => absurd c (by decide)) (fun g232 ft232 nz231 hX232 => ?_))
                    · show vP D T N 305 156 g232 [some (2, 121), some (0, (2477 + (9 * (s : Int)))), some (0, 2)] [] _
                      refine vP_hv (fun hv232 => ?_)
                      refine v_load (v := (2, 121)) (hi_X12_readTest_156 hT) rfl rfl ?_
                      refine v_getR (c := 126) (r := 121) (hi_X12_readTest_157 hT) rfl rfl rfl ?_
                      refine v_load (v := (0, (2477 + (9 * (s : Int))))) (hi_X12_readTest_160 hT) rfl rfl ?_
                      refine v_push (2) (hi_X12_readTest_161 hT) rfl ?_
                      refine v_bin (w := ((2477 + (9 * (s : Int))) + 2)) (hi_X12_readTest_162 hT) (hq_add (by omega) (by omega)) ?_
                      refine v_load (v := (2, 121)) (hi_X12_readTest_163 hT) rfl rfl ?_
                      refine v_push (0) (hi_X12_readTest_164 hT) rfl ?_
                      refine v_push (9999) (hi_X12_readTest_165 hT) rfl ?_
                      refine v_call (w := 4) [some (2, 121), some (0, 0), some (0, 9999), none] hO (hi_X12_readTest_168 hT) rfl rfl (rx_num hT hO 0 9999 hX232 (fun g234 x233 ft234 q234 bux233 bvx233 hX234 => ?_) (fun g235 e235 ft235 q235 c235 => ?_))
                      · show vP D T N 305 171 g234 [some (2, 121), some (0, (2477 + (9 * (s : Int)))), some (0, 2)] [(0, x233), (0, ((2477 + (9 * (s : Int))) + 2)), (2, 126)] _
                        refine vP_hv (fun hv234 => ?_)
                        refine v_ast (r := 126) (hi_X12_readTest_171 hT) rfl rfl (fun ha236 hb237 hf238 => ?_)
                        refine v_ret0 (hi_X12_readTest_172 hT) ?_
                        show vP D T N 301 186 (zset g234 126 ((((2477 + (9 * (s : Int))) + 2)).toNat) (0, x233)) [some (2, 121), some (0, (2477 + (9 * (s : Int)))), some (0, 7)] [] _
                        refine v_goto (hi_X12_readRest_186 hT) ?_
                        refine v_ret0 (hi_X12_readRest_210 hT) ?_
                        show vP D T N 304 132 (zset g234 126 ((((2477 + (9 * (s : Int))) + 2)).toNat) (0, x233)) [some (2, 121), some (0, (d : Int)), some (0, 7), some (0, 1), some (0, (2477 + (9 * (s : Int))))] [] _
                        refine v_load (v := (2, 121)) (hi_X12_readStep_132 hT) rfl rfl ?_
                        refine v_load (v := (2, 121)) (hi_X12_readStep_133 hT) rfl rfl ?_
                        refine v_push (59) (hi_X12_readStep_134 hT) rfl ?_
                        refine v_call (w := 2) [some (2, 121), some (0, 59)] hO (hi_X12_readStep_136 hT) rfl rfl (rx_isSign hT hO 59 (rX.z (r := 126) (k := ((((2477 + (9 * (s : Int))) + 2)).toNat)) (v := (0, x233)) (by decide) hX234) ?_)
                        · show vP D T N 304 139 (zset g234 126 ((((2477 + (9 * (s : Int))) + 2)).toNat) (0, x233)) [some (2, 121), some (0, (d : Int)), some (0, 7), some (0, 1), some (0, (2477 + (9 * (s : Int))))] [(0, (bG τ 59 (i + 1 + 1 + 1 + 1))), (2, 121)] _
                          refine v_call (w := 2) [some (2, 121), some (0, (bG τ 59 (i + 1 + 1 + 1 + 1)))] hO (hi_X12_readStep_139 hT) rfl rfl (rx_must hT hO ((bG τ 59 (i + 1 + 1 + 1 + 1))) (rX.z (r := 126) (k := ((((2477 + (9 * (s : Int))) + 2)).toNat)) (v := (0, x233)) (by decide) hX234) (fun c => ⟨by have := (bG_y.mp c).1; omega, by have := (bG_y.mp c).1; omega⟩) (fun g240 ft240 hc239 hX240 => ?_) (fun g241 ft241 hc241 c241 => ?_))
                          · show vP D T N 304 142 g240 [some (2, 121), some (0, (d : Int)), some (0, 7), some (0, 1), some (0, (2477 + (9 * (s : Int))))] [] _
                            refine vP_hv (fun hv240 => ?_)
                            exact absurd (bG_y.mp hc153).1 hc37
                          · show vP D T N 304 142 g241 [some (2, 121), some (0, (d : Int)), some (0, 7), some (0, 1), some (0, (2477 + (9 * (s : Int))))] [] _
                            refine vP_hv (fun hv241 => ?_)
                            refine v_load (v := (0, 1)) (hi_X12_readStep_142 hT) rfl rfl ?_
                            refine v_if (hi_X12_readStep_143 hT) (fun hc242 => absurd (show (1 : Int) = 0 from hc242) nz29) (fun _ => ?_)
                            refine v_load (v := (2, 121)) (hi_X12_readStep_146 hT) rfl rfl ?_
                            refine v_getf (v := (0, (eF τ (i + 1 + 1 + 1 + 1) 2).1)) (r := 121) (hi_X12_readStep_147 hT) rfl rfl (fun _ => c241.1) ?_
                            refine v_if (hi_X12_readStep_150 hT) (fun hc243 => absurd (show (eF τ (i + 1 + 1 + 1 + 1) 2).1 = 0 from hc243) (by have := c241.2.1; omega)) (fun _ => ?_)
                            refine v_load (v := (0, 1)) (hi_X12_readStep_170 hT) rfl rfl ?_
                            refine v_if (hi_X12_readStep_171 hT) (fun hc244 => absurd (show (1 : Int) = 0 from hc244) nz29) (fun _ => ?_)
                            refine v_load (v := (2, 121)) (hi_X12_readStep_174 hT) rfl rfl ?_
                            refine v_load (v := (2, 121)) (hi_X12_readStep_175 hT) rfl rfl ?_
                            refine v_call (w := 1) [some (2, 121)] hO (hi_X12_readStep_176 hT) rfl rfl (rb_any_isEnd hT hO (fun v245 => ?_))
                            · show vP D T N 304 179 g241 [some (2, 121), some (0, (d : Int)), some (0, 7), some (0, 1), some (0, (2477 + (9 * (s : Int))))] [(0, v245), (2, 121)] _
                              refine v_call (w := 2) [some (2, 121), some (0, v245)] hO (hi_X12_readStep_179 hT) rfl rfl (rx_mustB hT hO v245 c241 ?_)
                              · show vP D T N 304 182 g241 [some (2, 121), some (0, (d : Int)), some (0, 7), some (0, 1), some (0, (2477 + (9 * (s : Int))))] [] _
                                refine v_load (v := (2, 121)) (hi_X12_readStep_182 hT) rfl rfl ?_
                                refine v_load (v := (2, 121)) (hi_X12_readStep_183 hT) rfl rfl ?_
                                refine v_push (59) (hi_X12_readStep_184 hT) rfl ?_
                                refine v_call (w := 2) [some (2, 121), some (0, 59)] hO (hi_X12_readStep_186 hT) rfl rfl (rb_any_isSign hT hO (fun v246 => ?_))
                                · show vP D T N 304 189 g241 [some (2, 121), some (0, (d : Int)), some (0, 7), some (0, 1), some (0, (2477 + (9 * (s : Int))))] [(0, v246), (2, 121)] _
                                  refine v_call (w := 2) [some (2, 121), some (0, v246)] hO (hi_X12_readStep_189 hT) rfl rfl (rx_mustB hT hO v246 c241 ?_)
                                  · show vP D T N 304 192 g241 [some (2, 121), some (0, (d : Int)), some (0, 7), some (0, 1), some (0, (2477 + (9 * (s : Int))))] [] _
                                    refine v_load (v := (2, 121)) (hi_X12_readStep_192 hT) rfl rfl ?_
                                    refine v_getR (c := 126) (r := 121) (hi_X12_readStep_193 hT) rfl rfl rfl ?_
                                    refine v_load (v := (0, (2477 + (9 * (s : Int))))) (hi_X12_readStep_196 hT) rfl rfl ?_
                                    refine v_push (8) (hi_X12_readStep_198 hT) rfl ?_
                                    refine v_bin (w := ((2477 + (9 * (s : Int))) + 8)) (hi_X12_readStep_200 hT) (hq_add (by omega) (by omega)) ?_
                                    refine v_load (v := (2, 121)) (hi_X12_readStep_201 hT) rfl rfl ?_
                                    refine v_getf (v := (0, ((s : Int) + 1))) (r := 121) (hi_X12_readStep_202 hT) rfl rfl (fun _ => (Eq.trans (ft241 121 25 (by first | decide | exact fun c => by omega)) (Eq.trans (zset_ne (fun c => absurd c.1 (by decide))) ((Eq.trans (ft234 121 25 (by first | decide | exact fun c => by omega)) (Eq.trans (ft232 121 25 (by first | decide | exact fun c => by omega)) (Eq.trans (Eq.trans (zset_ne (fun c => absurd c.1 (by decide))) (zset_ne (fun c => absurd c.1 (by decide)))) ((Eq.trans (ft30 121 25 (by first | decide | exact fun c => by omega)) (Eq.trans (zset_ne (fun c => absurd c.1 (by decide))) ((Eq.trans (ft15 121 25 (by first | decide | exact fun c => by omega)) (zset_same))))))))))))) ?_
                                    refine v_ast (r := 126) (hi_X12_readStep_205 hT) rfl rfl (fun ha247 hb248 hf249 => ?_)
                                    refine v_ret0 (hi_X12_readStep_206 hT) ?_
                                    exact er _ _ (by simp only [pStep, hE, hsw, htw, hop, h15, opW15, harg, pNm, pWord, pSg, (show ¬ 30 ≤ s from by omega), (show ¬ 3 ≤ d from by omega), pCm_y (x := 60) (by decide) hc153, q234, hc241, ne_eq, not_true_eq_false, not_false_eq_true, if_true, if_false, eq_self, eb_l, eb_r, and_true, true_and, and_false, false_and]) (rE.z (r := 126) (k := ((((2477 + (9 * (s : Int))) + 8)).toNat)) (v := (0, ((s : Int) + 1))) (by decide) c241) (roF.z (a := 126) (b := ((((2477 + (9 * (s : Int))) + 8)).toNat)) (v := (0, ((s : Int) + 1))) (by omega) (roF.t (roF.z (a := 126) (b := ((((2477 + (9 * (s : Int))) + 2)).toNat)) (v := (0, x233)) (by omega) (roF.t (roF.t (roF.z (a := 126) (b := ((((2477 + (9 * (s : Int))) + 7)).toNat)) (v := (0, 0)) (by omega) (roF.z (a := 126) (b := ((((2477 + (9 * (s : Int))) + 6)).toNat)) (v := (0, 2)) (by omega) (roF.t (roF.z (a := 126) (b := (((2477 + (9 * (s : Int)))).toNat)) (v := (0, 7)) (by omega) (roF.t (roF.z (a := 121) (b := 25) (v := (0, ((s : Int) + 1))) (by omega) roF.rfl) ft15)) ft30))) ft232) ft234)) ft241))
                      · show vP D T N 305 171 g235 [some (2, 121), some (0, (2477 + (9 * (s : Int)))), some (0, 2)] [(0, 0), (0, ((2477 + (9 * (s : Int))) + 2)), (2, 126)] _
                        refine vP_hv (fun hv235 => ?_)
                        refine v_ast (r := 126) (hi_X12_readTest_171 hT) rfl rfl (fun ha250 hb251 hf252 => ?_)
                        refine v_ret0 (hi_X12_readTest_172 hT) ?_
                        show vP D T N 301 186 (zset g235 126 ((((2477 + (9 * (s : Int))) + 2)).toNat) (0, 0)) [some (2, 121), some (0, (2477 + (9 * (s : Int)))), some (0, 7)] [] _
                        refine v_goto (hi_X12_readRest_186 hT) ?_
                        refine v_ret0 (hi_X12_readRest_210 hT) ?_
                        show vP D T N 304 132 (zset g235 126 ((((2477 + (9 * (s : Int))) + 2)).toNat) (0, 0)) [some (2, 121), some (0, (d : Int)), some (0, 7), some (0, 1), some (0, (2477 + (9 * (s : Int))))] [] _
                        refine v_load (v := (2, 121)) (hi_X12_readStep_132 hT) rfl rfl ?_
                        refine v_load (v := (2, 121)) (hi_X12_readStep_133 hT) rfl rfl ?_
                        refine v_push (59) (hi_X12_readStep_134 hT) rfl ?_
                        refine v_call (w := 2) [some (2, 121), some (0, 59)] hO (hi_X12_readStep_136 hT) rfl rfl (rb_any_isSign hT hO (fun v253 => ?_))
                        · show vP D T N 304 139 (zset g235 126 ((((2477 + (9 * (s : Int))) + 2)).toNat) (0, 0)) [some (2, 121), some (0, (d : Int)), some (0, 7), some (0, 1), some (0, (2477 + (9 * (s : Int))))] [(0, v253), (2, 121)] _
                          refine v_call (w := 2) [some (2, 121), some (0, v253)] hO (hi_X12_readStep_139 hT) rfl rfl (rx_mustB hT hO v253 (rE.z (r := 126) (k := ((((2477 + (9 * (s : Int))) + 2)).toNat)) (v := (0, 0)) (by decide) c235) ?_)
                          · show vP D T N 304 142 (zset g235 126 ((((2477 + (9 * (s : Int))) + 2)).toNat) (0, 0)) [some (2, 121), some (0, (d : Int)), some (0, 7), some (0, 1), some (0, (2477 + (9 * (s : Int))))] [] _
                            refine v_load (v := (0, 1)) (hi_X12_readStep_142 hT) rfl rfl ?_
                            refine v_if (hi_X12_readStep_143 hT) (fun hc254 => absurd (show (1 : Int) = 0 from hc254) nz29) (fun _ => ?_)
                            refine v_load (v := (2, 121)) (hi_X12_readStep_146 hT) rfl rfl ?_
                            refine v_getf (v := (0, e235.1)) (r := 121) (hi_X12_readStep_147 hT) rfl rfl (fun _ => Eq.trans (zset_ne (fun c => absurd c.1 (by decide))) (c235.1)) ?_
                            refine v_if (hi_X12_readStep_150 hT) (fun hc255 => absurd (show e235.1 = 0 from hc255) (by have := c235.2.1; omega)) (fun _ => ?_)
                            refine v_load (v := (0, 1)) (hi_X12_readStep_170 hT) rfl rfl ?_
                            refine v_if (hi_X12_readStep_171 hT) (fun hc256 => absurd (show (1 : Int) = 0 from hc256) nz29) (fun _ => ?_)
                            refine v_load (v := (2, 121)) (hi_X12_readStep_174 hT) rfl rfl ?_
                            refine v_load (v := (2, 121)) (hi_X12_readStep_175 hT) rfl rfl ?_
                            refine v_call (w := 1) [some (2, 121)] hO (hi_X12_readStep_176 hT) rfl rfl (rb_any_isEnd hT hO (fun v257 => ?_))
                            · show vP D T N 304 179 (zset g235 126 ((((2477 + (9 * (s : Int))) + 2)).toNat) (0, 0)) [some (2, 121), some (0, (d : Int)), some (0, 7), some (0, 1), some (0, (2477 + (9 * (s : Int))))] [(0, v257), (2, 121)] _
                              refine v_call (w := 2) [some (2, 121), some (0, v257)] hO (hi_X12_readStep_179 hT) rfl rfl (rx_mustB hT hO v257 (rE.z (r := 126) (k := ((((2477 + (9 * (s : Int))) + 2)).toNat)) (v := (0, 0)) (by decide) c235) ?_)
                              · show vP D T N 304 182 (zset g235 126 ((((2477 + (9 * (s : Int))) + 2)).toNat) (0, 0)) [some (2, 121), some (0, (d : Int)), some (0, 7), some (0, 1), some (0, (2477 + (9 * (s : Int))))] [] _
                                refine v_load (v := (2, 121)) (hi_X12_readStep_182 hT) rfl rfl ?_
                                refine v_load (v := (2, 121)) (hi_X12_readStep_183 hT) rfl rfl ?_
                                refine v_push (59) (hi_X12_readStep_184 hT) rfl ?_
                                refine v_call (w := 2) [some (2, 121), some (0, 59)] hO (hi_X12_readStep_186 hT) rfl rfl (rb_any_isSign hT hO (fun v258 => ?_))
                                · show vP D T N 304 189 (zset g235 126 ((((2477 + (9 * (s : Int))) + 2)).toNat) (0, 0)) [some (2, 121), some (0, (d : Int)), some (0, 7), some (0, 1), some (0, (2477 + (9 * (s : Int))))] [(0, v258), (2, 121)] _
                                  refine v_call (w := 2) [some (2, 121), some (0, v258)] hO (hi_X12_readStep_189 hT) rfl rfl (rx_mustB hT hO v258 (rE.z (r := 126) (k := ((((2477 + (9 * (s : Int))) + 2)).toNat)) (v := (0, 0)) (by decide) c235) ?_)
                                  · show vP D T N 304 192 (zset g235 126 ((((2477 + (9 * (s : Int))) + 2)).toNat) (0, 0)) [some (2, 121), some (0, (d : Int)), some (0, 7), some (0, 1), some (0, (2477 + (9 * (s : Int))))] [] _
                                    refine v_load (v := (2, 121)) (hi_X12_readStep_192 hT) rfl rfl ?_
                                    refine v_getR (c := 126) (r := 121) (hi_X12_readStep_193 hT) rfl rfl rfl ?_
                                    refine v_load (v := (0, (2477 + (9 * (s : Int))))) (hi_X12_readStep_196 hT) rfl rfl ?_
                                    refine v_push (8) (hi_X12_readStep_198 hT) rfl ?_
                                    refine v_bin (w := ((2477 + (9 * (s : Int))) + 8)) (hi_X12_readStep_200 hT) (hq_add (by omega) (by omega)) ?_
                                    refine v_load (v := (2, 121)) (hi_X12_readStep_201 hT) rfl rfl ?_
                                    refine v_getf (v := (0, ((s : Int) + 1))) (r := 121) (hi_X12_readStep_202 hT) rfl rfl (fun _ => Eq.trans (zset_ne (fun c => absurd c.1 (by decide))) ((Eq.trans (ft235 121 25 (by first | decide | exact fun c => by omega)) (Eq.trans (ft232 121 25 (by first | decide | exact fun c => by omega)) (Eq.trans (Eq.trans (zset_ne (fun c => absurd c.1 (by decide))) (zset_ne (fun c => absurd c.1 (by decide)))) ((Eq.trans (ft30 121 25 (by first | decide | exact fun c => by omega)) (Eq.trans (zset_ne (fun c => absurd c.1 (by decide))) ((Eq.trans (ft15 121 25 (by first | decide | exact fun c => by omega)) (zset_same))))))))))) ?_
                                    refine v_ast (r := 126) (hi_X12_readStep_205 hT) rfl rfl (fun ha259 hb260 hf261 => ?_)
                                    refine v_ret0 (hi_X12_readStep_206 hT) ?_
                                    exact er _ _ (by simp only [pStep, hE, hsw, htw, hop, h15, opW15, harg, pNm, pWord, pSg, (show ¬ 30 ≤ s from by omega), (show ¬ 3 ≤ d from by omega), pCm_y (x := 60) (by decide) hc153, q235, ne_eq, not_true_eq_false, not_false_eq_true, if_true, if_false, eq_self, eb_l, eb_r, and_true, true_and, and_false, false_and]) (rE.z (r := 126) (k := ((((2477 + (9 * (s : Int))) + 8)).toNat)) (v := (0, ((s : Int) + 1))) (by decide) (rE.z (r := 126) (k := ((((2477 + (9 * (s : Int))) + 2)).toNat)) (v := (0, 0)) (by decide) c235)) (roF.z (a := 126) (b := ((((2477 + (9 * (s : Int))) + 8)).toNat)) (v := (0, ((s : Int) + 1))) (by omega) (roF.z (a := 126) (b := ((((2477 + (9 * (s : Int))) + 2)).toNat)) (v := (0, 0)) (by omega) (roF.t (roF.t (roF.z (a := 126) (b := ((((2477 + (9 * (s : Int))) + 7)).toNat)) (v := (0, 0)) (by omega) (roF.z (a := 126) (b := ((((2477 + (9 * (s : Int))) + 6)).toNat)) (v := (0, 2)) (by omega) (roF.t (roF.z (a := 126) (b := (((2477 + (9 * (s : Int)))).toNat)) (v := (0, 7)) (by omega) (roF.t (roF.z (a := 121) (b := 25) (v := (0, ((s : Int) + 1))) (by omega) roF.rfl) ft15)) ft30))) ft232) ft235)))
theorem ro_8 {D : zD} {T : zT} (hT : hTab T) (hO : vOK T) {N : Nat} {h : zH} {Q : zR → Prop} {B : Nat → Int} {n m i s d : Nat} {τ P : PT} (hv0 : zHv h) (hX : rX B n m τ i h) (e0 : h 126 0 = (0, P 0 0)) (e1 : h 126 1 = (0, P 0 1)) (e2 : h 126 2 = (0, P 0 2)) (e3 : h 126 3 = (0, P 0 3)) (hN : rNm P h) (hb : (0 ≤ P 0 0 ∧ P 0 0 ≤ 8) ∧ (0 ≤ P 0 1 ∧ P 0 1 ≤ 6) ∧ (0 ≤ P 0 2 ∧ P 0 2 ≤ 3) ∧ (0 ≤ P 0 3 ∧ P 0 3 ≤ 6)) (hs : h 121 25 = (0, (s : Int))) (bs : s ≤ 30) (bd : d ≤ 3) (h1 : τ 0 i = 1) (h3 : τ 3 i = 8) (ih : ∀ g s' d' i' a, pStep τ P s d i = .inr (s', d', i') → rX B n m τ i' g → g 121 25 = (0, a) → a = (s' : Int) → s' ≤ 30 → roF h g → Q (g, none)) (er : ∀ g e, pStep τ P s d i = .inl e → rE e g → roF h g → Q (g, none)) :
    vP D T (N + 1) 304 0 h [some (2, 121), some (0, (d : Int)), none, none, none] [] Q :=
  ro7_8 hT hO hv0 hX e0 e1 e2 e3 hN hb hs bs bd h1 h3 (fun g s' d' i' a K u v j p_0 p_1 p_2 p_3 p_4 p_5 p_6 p_7 p_8 p_9 => ih g s' d' i' a p_0 p_1 p_2 p_3 p_4 p_5) er
theorem ro_9 {D : zD} {T : zT} (hT : hTab T) (hO : vOK T) {N : Nat} {h : zH} {Q : zR → Prop} {B : Nat → Int} {n m i s d : Nat} {τ P : PT} (hv0 : zHv h) (hX : rX B n m τ i h) (e0 : h 126 0 = (0, P 0 0)) (e1 : h 126 1 = (0, P 0 1)) (e2 : h 126 2 = (0, P 0 2)) (e3 : h 126 3 = (0, P 0 3)) (hN : rNm P h) (hb : (0 ≤ P 0 0 ∧ P 0 0 ≤ 8) ∧ (0 ≤ P 0 1 ∧ P 0 1 ≤ 6) ∧ (0 ≤ P 0 2 ∧ P 0 2 ≤ 3) ∧ (0 ≤ P 0 3 ∧ P 0 3 ≤ 6)) (hs : h 121 25 = (0, (s : Int))) (bs : s ≤ 30) (bd : d ≤ 3) (h1 : τ 0 i = 1) (h3 : τ 3 i = 9) (ih : ∀ g s' d' i' a, pStep τ P s d i = .inr (s', d', i') → rX B n m τ i' g → g 121 25 = (0, a) → a = (s' : Int) → s' ≤ 30 → roF h g → Q (g, none)) (er : ∀ g e, pStep τ P s d i = .inl e → rE e g → roF h g → Q (g, none)) :
    vP D T (N + 1) 304 0 h [some (2, 121), some (0, (d : Int)), none, none, none] [] Q :=
  ro7_9 hT hO hv0 hX e0 e1 e2 e3 hN hb hs bs bd h1 h3 (fun g s' d' i' a K u v j p_0 p_1 p_2 p_3 p_4 p_5 p_6 p_7 p_8 p_9 => ih g s' d' i' a p_0 p_1 p_2 p_3 p_4 p_5) er
theorem ro_10 {D : zD} {T : zT} (hT : hTab T) (hO : vOK T) {N : Nat} {h : zH} {Q : zR → Prop} {B : Nat → Int} {n m i s d : Nat} {τ P : PT} (hv0 : zHv h) (hX : rX B n m τ i h) (e0 : h 126 0 = (0, P 0 0)) (e1 : h 126 1 = (0, P 0 1)) (e2 : h 126 2 = (0, P 0 2)) (e3 : h 126 3 = (0, P 0 3)) (hN : rNm P h) (hb : (0 ≤ P 0 0 ∧ P 0 0 ≤ 8) ∧ (0 ≤ P 0 1 ∧ P 0 1 ≤ 6) ∧ (0 ≤ P 0 2 ∧ P 0 2 ≤ 3) ∧ (0 ≤ P 0 3 ∧ P 0 3 ≤ 6)) (hs : h 121 25 = (0, (s : Int))) (bs : s ≤ 30) (bd : d ≤ 3) (h1 : τ 0 i = 1) (h3 : τ 3 i = 10) (ih : ∀ g s' d' i' a, pStep τ P s d i = .inr (s', d', i') → rX B n m τ i' g → g 121 25 = (0, a) → a = (s' : Int) → s' ≤ 30 → roF h g → Q (g, none)) (er : ∀ g e, pStep τ P s d i = .inl e → rE e g → roF h g → Q (g, none)) :
    vP D T (N + 1) 304 0 h [some (2, 121), some (0, (d : Int)), none, none, none] [] Q :=
  ro7_10 hT hO hv0 hX e0 e1 e2 e3 hN hb hs bs bd h1 h3 (fun g s' d' i' a K u v j p_0 p_1 p_2 p_3 p_4 p_5 p_6 p_7 p_8 p_9 => ih g s' d' i' a p_0 p_1 p_2 p_3 p_4 p_5) er
theorem ro_11 {D : zD} {T : zT} (hT : hTab T) (hO : vOK T) {N : Nat} {h : zH} {Q : zR → Prop} {B : Nat → Int} {n m i s d : Nat} {τ P : PT} (hv0 : zHv h) (hX : rX B n m τ i h) (e0 : h 126 0 = (0, P 0 0)) (e1 : h 126 1 = (0, P 0 1)) (e2 : h 126 2 = (0, P 0 2)) (e3 : h 126 3 = (0, P 0 3)) (hN : rNm P h) (hb : (0 ≤ P 0 0 ∧ P 0 0 ≤ 8) ∧ (0 ≤ P 0 1 ∧ P 0 1 ≤ 6) ∧ (0 ≤ P 0 2 ∧ P 0 2 ≤ 3) ∧ (0 ≤ P 0 3 ∧ P 0 3 ≤ 6)) (hs : h 121 25 = (0, (s : Int))) (bs : s ≤ 30) (bd : d ≤ 3) (h1 : τ 0 i = 1) (h3 : τ 3 i = 11) (ih : ∀ g s' d' i' a, pStep τ P s d i = .inr (s', d', i') → rX B n m τ i' g → g 121 25 = (0, a) → a = (s' : Int) → s' ≤ 30 → roF h g → Q (g, none)) (er : ∀ g e, pStep τ P s d i = .inl e → rE e g → roF h g → Q (g, none)) :
    vP D T (N + 1) 304 0 h [some (2, 121), some (0, (d : Int)), none, none, none] [] Q :=
  ro7_11 hT hO hv0 hX e0 e1 e2 e3 hN hb hs bs bd h1 h3 (fun g s' d' i' a K u v j p_0 p_1 p_2 p_3 p_4 p_5 p_6 p_7 p_8 p_9 => ih g s' d' i' a p_0 p_1 p_2 p_3 p_4 p_5) er
theorem ro_12 {D : zD} {T : zT} (hT : hTab T) (hO : vOK T) {N : Nat} {h : zH} {Q : zR → Prop} {B : Nat → Int} {n m i s d : Nat} {τ P : PT} (hv0 : zHv h) (hX : rX B n m τ i h) (e0 : h 126 0 = (0, P 0 0)) (e1 : h 126 1 = (0, P 0 1)) (e2 : h 126 2 = (0, P 0 2)) (e3 : h 126 3 = (0, P 0 3)) (hN : rNm P h) (hb : (0 ≤ P 0 0 ∧ P 0 0 ≤ 8) ∧ (0 ≤ P 0 1 ∧ P 0 1 ≤ 6) ∧ (0 ≤ P 0 2 ∧ P 0 2 ≤ 3) ∧ (0 ≤ P 0 3 ∧ P 0 3 ≤ 6)) (hs : h 121 25 = (0, (s : Int))) (bs : s ≤ 30) (bd : d ≤ 3) (h1 : τ 0 i = 1) (h3 : τ 3 i = 12) (ih : ∀ g s' d' i' a, pStep τ P s d i = .inr (s', d', i') → rX B n m τ i' g → g 121 25 = (0, a) → a = (s' : Int) → s' ≤ 30 → roF h g → Q (g, none)) (er : ∀ g e, pStep τ P s d i = .inl e → rE e g → roF h g → Q (g, none)) :
    vP D T (N + 1) 304 0 h [some (2, 121), some (0, (d : Int)), none, none, none] [] Q :=
  ro7_12 hT hO hv0 hX e0 e1 e2 e3 hN hb hs bs bd h1 h3 (fun g s' d' i' a K u v j p_0 p_1 p_2 p_3 p_4 p_5 p_6 p_7 p_8 p_9 => ih g s' d' i' a p_0 p_1 p_2 p_3 p_4 p_5) er
theorem ro_13 {D : zD} {T : zT} (hT : hTab T) (hO : vOK T) {N : Nat} {h : zH} {Q : zR → Prop} {B : Nat → Int} {n m i s d : Nat} {τ P : PT} (hv0 : zHv h) (hX : rX B n m τ i h) (e0 : h 126 0 = (0, P 0 0)) (e1 : h 126 1 = (0, P 0 1)) (e2 : h 126 2 = (0, P 0 2)) (e3 : h 126 3 = (0, P 0 3)) (hN : rNm P h) (hb : (0 ≤ P 0 0 ∧ P 0 0 ≤ 8) ∧ (0 ≤ P 0 1 ∧ P 0 1 ≤ 6) ∧ (0 ≤ P 0 2 ∧ P 0 2 ≤ 3) ∧ (0 ≤ P 0 3 ∧ P 0 3 ≤ 6)) (hs : h 121 25 = (0, (s : Int))) (bs : s ≤ 30) (bd : d ≤ 3) (h1 : τ 0 i = 1) (h3 : τ 3 i = 13) (ih : ∀ g s' d' i' a, pStep τ P s d i = .inr (s', d', i') → rX B n m τ i' g → g 121 25 = (0, a) → a = (s' : Int) → s' ≤ 30 → roF h g → Q (g, none)) (er : ∀ g e, pStep τ P s d i = .inl e → rE e g → roF h g → Q (g, none)) :
    vP D T (N + 1) 304 0 h [some (2, 121), some (0, (d : Int)), none, none, none] [] Q :=
  ro7_13 hT hO hv0 hX e0 e1 e2 e3 hN hb hs bs bd h1 h3 (fun g s' d' i' a K u v j p_0 p_1 p_2 p_3 p_4 p_5 p_6 p_7 p_8 p_9 => ih g s' d' i' a p_0 p_1 p_2 p_3 p_4 p_5) er
theorem ro_14 {D : zD} {T : zT} (hT : hTab T) (hO : vOK T) {N : Nat} {h : zH} {Q : zR → Prop} {B : Nat → Int} {n m i s d : Nat} {τ P : PT} (hv0 : zHv h) (hX : rX B n m τ i h) (e0 : h 126 0 = (0, P 0 0)) (e1 : h 126 1 = (0, P 0 1)) (e2 : h 126 2 = (0, P 0 2)) (e3 : h 126 3 = (0, P 0 3)) (hN : rNm P h) (hb : (0 ≤ P 0 0 ∧ P 0 0 ≤ 8) ∧ (0 ≤ P 0 1 ∧ P 0 1 ≤ 6) ∧ (0 ≤ P 0 2 ∧ P 0 2 ≤ 3) ∧ (0 ≤ P 0 3 ∧ P 0 3 ≤ 6)) (hs : h 121 25 = (0, (s : Int))) (bs : s ≤ 30) (bd : d ≤ 3) (h1 : τ 0 i = 1) (h3 : τ 3 i = 14) (ih : ∀ g s' d' i' a, pStep τ P s d i = .inr (s', d', i') → rX B n m τ i' g → g 121 25 = (0, a) → a = (s' : Int) → s' ≤ 30 → roF h g → Q (g, none)) (er : ∀ g e, pStep τ P s d i = .inl e → rE e g → roF h g → Q (g, none)) :
    vP D T (N + 1) 304 0 h [some (2, 121), some (0, (d : Int)), none, none, none] [] Q :=
  ro7_14 hT hO hv0 hX e0 e1 e2 e3 hN hb hs bs bd h1 h3 (fun g s' d' i' a K u v j p_0 p_1 p_2 p_3 p_4 p_5 p_6 p_7 p_8 p_9 => ih g s' d' i' a p_0 p_1 p_2 p_3 p_4 p_5) er
theorem ro_19 {D : zD} {T : zT} (hT : hTab T) (hO : vOK T) {N : Nat} {h : zH} {Q : zR → Prop} {B : Nat → Int} {n m i s d : Nat} {τ P : PT} (hv0 : zHv h) (hX : rX B n m τ i h) (e0 : h 126 0 = (0, P 0 0)) (e1 : h 126 1 = (0, P 0 1)) (e2 : h 126 2 = (0, P 0 2)) (e3 : h 126 3 = (0, P 0 3)) (hN : rNm P h) (hb : (0 ≤ P 0 0 ∧ P 0 0 ≤ 8) ∧ (0 ≤ P 0 1 ∧ P 0 1 ≤ 6) ∧ (0 ≤ P 0 2 ∧ P 0 2 ≤ 3) ∧ (0 ≤ P 0 3 ∧ P 0 3 ≤ 6)) (hs : h 121 25 = (0, (s : Int))) (bs : s ≤ 30) (bd : d ≤ 3) (h1 : τ 0 i = 1) (h3 : τ 3 i = 19) (ih : ∀ g s' d' i' a, pStep τ P s d i = .inr (s', d', i') → rX B n m τ i' g → g 121 25 = (0, a) → a = (s' : Int) → s' ≤ 30 → roF h g → vP D T N 304 142 g [some (2, 121), some (0, (d : Int)), some (0, 8), some (0, 1), some (0, 2477 + 9 * (s : Int))] [] Q) (er : ∀ g e, pStep τ P s d i = .inl e → rE e g → roF h g → Q (g, none)) :
    vP D T (N + 1) 304 0 h [some (2, 121), some (0, (d : Int)), none, none, none] [] Q :=
  ro7_19 hT hO hv0 hX e0 e1 e2 e3 hN hb hs bs bd h1 h3 (fun g s' d' i' a K u v j p_0 p_1 p_2 p_3 p_4 p_5 p_6 p_7 p_8 => ih g s' d' i' a p_0 p_1 p_2 p_3 p_4 p_5) er
theorem ro_21 {D : zD} {T : zT} (hT : hTab T) (hO : vOK T) {N : Nat} {h : zH} {Q : zR → Prop} {B : Nat → Int} {n m i s d : Nat} {τ P : PT} (hv0 : zHv h) (hX : rX B n m τ i h) (e0 : h 126 0 = (0, P 0 0)) (e1 : h 126 1 = (0, P 0 1)) (e2 : h 126 2 = (0, P 0 2)) (e3 : h 126 3 = (0, P 0 3)) (hN : rNm P h) (hb : (0 ≤ P 0 0 ∧ P 0 0 ≤ 8) ∧ (0 ≤ P 0 1 ∧ P 0 1 ≤ 6) ∧ (0 ≤ P 0 2 ∧ P 0 2 ≤ 3) ∧ (0 ≤ P 0 3 ∧ P 0 3 ≤ 6)) (hs : h 121 25 = (0, (s : Int))) (bs : s ≤ 30) (bd : d ≤ 3) (h1 : τ 0 i = 1) (h3 : τ 3 i = 21) (ih : ∀ g s' d' i' a, pStep τ P s d i = .inr (s', d', i') → rX B n m τ i' g → g 121 25 = (0, a) → a = (s' : Int) → s' ≤ 30 → roF h g → Q (g, none)) (er : ∀ g e, pStep τ P s d i = .inl e → rE e g → roF h g → Q (g, none)) :
    vP D T (N + 1) 304 0 h [some (2, 121), some (0, (d : Int)), none, none, none] [] Q :=
  ro7_21 hT hO hv0 hX e0 e1 e2 e3 hN hb hs bs bd h1 h3 (fun g s' d' i' a K u v j p_0 p_1 p_2 p_3 p_4 p_5 p_6 p_7 p_8 p_9 => ih g s' d' i' a p_0 p_1 p_2 p_3 p_4 p_5) er
theorem ro_15_16 {D : zD} {T : zT} (hT : hTab T) (hO : vOK T) {N : Nat} {h : zH} {Q : zR → Prop} {B : Nat → Int} {n m i s d : Nat} {τ P : PT} (hv0 : zHv h) (hX : rX B n m τ i h) (e0 : h 126 0 = (0, P 0 0)) (e1 : h 126 1 = (0, P 0 1)) (e2 : h 126 2 = (0, P 0 2)) (e3 : h 126 3 = (0, P 0 3)) (hN : rNm P h) (hb : (0 ≤ P 0 0 ∧ P 0 0 ≤ 8) ∧ (0 ≤ P 0 1 ∧ P 0 1 ≤ 6) ∧ (0 ≤ P 0 2 ∧ P 0 2 ≤ 3) ∧ (0 ≤ P 0 3 ∧ P 0 3 ≤ 6)) (hs : h 121 25 = (0, (s : Int))) (bs : s ≤ 30) (bd : d ≤ 3) (h1 : τ 0 i = 1) (h3 : τ 3 i = 15) (h1b : τ 0 (i + 1) = 1) (h3b : τ 3 (i + 1) = 16) (ih : ∀ g s' d' i' a, pStep τ P s d i = .inr (s', d', i') → rX B n m τ i' g → g 121 25 = (0, a) → a = (s' : Int) → s' ≤ 30 → roF h g → vP D T N 304 142 g [some (2, 121), some (0, (d : Int)), some (0, 7), some (0, 1), some (0, 2477 + 9 * (s : Int))] [] Q) (er : ∀ g e, pStep τ P s d i = .inl e → rE e g → roF h g → Q (g, none)) :
    vP D T (N + 1) 304 0 h [some (2, 121), some (0, (d : Int)), none, none, none] [] Q :=
  ro7_15_16 hT hO hv0 hX e0 e1 e2 e3 hN hb hs bs bd h1 h3 h1b h3b (fun g s' d' i' a K u v j p_0 p_1 p_2 p_3 p_4 p_5 p_6 p_7 p_8 => ih g s' d' i' a p_0 p_1 p_2 p_3 p_4 p_5) er
theorem ro_15_17 {D : zD} {T : zT} (hT : hTab T) (hO : vOK T) {N : Nat} {h : zH} {Q : zR → Prop} {B : Nat → Int} {n m i s d : Nat} {τ P : PT} (hv0 : zHv h) (hX : rX B n m τ i h) (e0 : h 126 0 = (0, P 0 0)) (e1 : h 126 1 = (0, P 0 1)) (e2 : h 126 2 = (0, P 0 2)) (e3 : h 126 3 = (0, P 0 3)) (hN : rNm P h) (hb : (0 ≤ P 0 0 ∧ P 0 0 ≤ 8) ∧ (0 ≤ P 0 1 ∧ P 0 1 ≤ 6) ∧ (0 ≤ P 0 2 ∧ P 0 2 ≤ 3) ∧ (0 ≤ P 0 3 ∧ P 0 3 ≤ 6)) (hs : h 121 25 = (0, (s : Int))) (bs : s ≤ 30) (bd : d ≤ 3) (h1 : τ 0 i = 1) (h3 : τ 3 i = 15) (h1b : τ 0 (i + 1) = 1) (h3b : τ 3 (i + 1) = 17) (ih : ∀ g s' d' i' a, pStep τ P s d i = .inr (s', d', i') → rX B n m τ i' g → g 121 25 = (0, a) → a = (s' : Int) → s' ≤ 30 → roF h g → vP D T N 304 142 g [some (2, 121), some (0, (d : Int)), some (0, 7), some (0, 1), some (0, 2477 + 9 * (s : Int))] [] Q) (er : ∀ g e, pStep τ P s d i = .inl e → rE e g → roF h g → Q (g, none)) :
    vP D T (N + 1) 304 0 h [some (2, 121), some (0, (d : Int)), none, none, none] [] Q :=
  ro7_15_17 hT hO hv0 hX e0 e1 e2 e3 hN hb hs bs bd h1 h3 h1b h3b (fun g s' d' i' a K u v j p_0 p_1 p_2 p_3 p_4 p_5 p_6 p_7 p_8 => ih g s' d' i' a p_0 p_1 p_2 p_3 p_4 p_5) er
theorem ro_15_18 {D : zD} {T : zT} (hT : hTab T) (hO : vOK T) {N : Nat} {h : zH} {Q : zR → Prop} {B : Nat → Int} {n m i s d : Nat} {τ P : PT} (hv0 : zHv h) (hX : rX B n m τ i h) (e0 : h 126 0 = (0, P 0 0)) (e1 : h 126 1 = (0, P 0 1)) (e2 : h 126 2 = (0, P 0 2)) (e3 : h 126 3 = (0, P 0 3)) (hN : rNm P h) (hb : (0 ≤ P 0 0 ∧ P 0 0 ≤ 8) ∧ (0 ≤ P 0 1 ∧ P 0 1 ≤ 6) ∧ (0 ≤ P 0 2 ∧ P 0 2 ≤ 3) ∧ (0 ≤ P 0 3 ∧ P 0 3 ≤ 6)) (hs : h 121 25 = (0, (s : Int))) (bs : s ≤ 30) (bd : d ≤ 3) (h1 : τ 0 i = 1) (h3 : τ 3 i = 15) (h1b : τ 0 (i + 1) = 1) (h3b : τ 3 (i + 1) = 18) (ih : ∀ g s' d' i' a, pStep τ P s d i = .inr (s', d', i') → rX B n m τ i' g → g 121 25 = (0, a) → a = (s' : Int) → s' ≤ 30 → roF h g → vP D T N 304 142 g [some (2, 121), some (0, (d : Int)), some (0, 7), some (0, 1), some (0, 2477 + 9 * (s : Int))] [] Q) (er : ∀ g e, pStep τ P s d i = .inl e → rE e g → roF h g → Q (g, none)) :
    vP D T (N + 1) 304 0 h [some (2, 121), some (0, (d : Int)), none, none, none] [] Q :=
  ro7_15_18 hT hO hv0 hX e0 e1 e2 e3 hN hb hs bs bd h1 h3 h1b h3b (fun g s' d' i' a K u v j p_0 p_1 p_2 p_3 p_4 p_5 p_6 p_7 p_8 => ih g s' d' i' a p_0 p_1 p_2 p_3 p_4 p_5) er
theorem ro_15x {D : zD} {T : zT} (hT : hTab T) (hO : vOK T) {N : Nat} {h : zH} {Q : zR → Prop} {B : Nat → Int} {n m i s d : Nat} {τ P : PT} (hv0 : zHv h) (hX : rX B n m τ i h) (e0 : h 126 0 = (0, P 0 0)) (e1 : h 126 1 = (0, P 0 1)) (e2 : h 126 2 = (0, P 0 2)) (e3 : h 126 3 = (0, P 0 3)) (hN : rNm P h) (hb : (0 ≤ P 0 0 ∧ P 0 0 ≤ 8) ∧ (0 ≤ P 0 1 ∧ P 0 1 ≤ 6) ∧ (0 ≤ P 0 2 ∧ P 0 2 ≤ 3) ∧ (0 ≤ P 0 3 ∧ P 0 3 ≤ 6)) (hs : h 121 25 = (0, (s : Int))) (bs : s ≤ 30) (bd : d ≤ 3) (h1 : τ 0 i = 1) (h3 : τ 3 i = 15) (htw : twd τ (i + 1) < 0) (er : ∀ g e, pStep τ P s d i = .inl e → rE e g → roF h g → Q (g, none)) :
    vP D T (N + 1) 304 0 h [some (2, 121), some (0, (d : Int)), none, none, none] [] Q := by
  have h0 : τ 0 i ≠ 0 := by omega
  have hE : (bW τ 20 i) = 0 := bW_0.mpr (fun c => absurd (h3.symm.trans c.2) (by decide))
  have hsw : ¬ swd τ i < 0 := by rw [swd_v h1, h3]; decide
  have hop : opW (τ 3 i) = true := by rw [h3]; rfl
  have h15 : τ 3 i = 15 := h3
  refine v_loadS (v := (2, 121)) (hi_X12_readStep_0 hT) rfl rfl ?_
  refine v_call (w := 1) [some (2, 121)] hO (hi_X12_readStep_1 hT) rfl rfl (rx_stepK hT hO 7 hX h1 h3 (by decide) ?_)
  · show vP D T N 304 4 h [some (2, 121), some (0, (d : Int)), none, none, none] [(0, 7)] _
    refine v_store1 [some (2, 121), some (0, (d : Int)), some (0, 7), none, none] (hi_X12_readStep_4 hT) ⟨rfl, Nat.ne_of_beq_eq_false rfl⟩ (Nat.le_of_ble_eq_true rfl) rfl ?_
    refine v_load (v := (0, 7)) (hi_X12_readStep_5 hT) rfl rfl ?_
    refine v_push (7) (hi_X12_readStep_6 hT) rfl ?_
    refine v_ic (hi_X12_readStep_8 hT) (fun _ => ?_) (fun hc1 => absurd (show (7 : Int) = 7 from (by decide)) hc1)
    refine v_push (1) (hi_X12_readStep_17 hT) rfl ?_
    refine v_goto (hi_X12_readStep_18 hT) ?_
    refine v_store1 [some (2, 121), some (0, (d : Int)), some (0, 7), some (0, 1), none] (hi_X12_readStep_22 hT) ⟨rfl, Nat.ne_of_beq_eq_false rfl⟩ (Nat.le_of_ble_eq_true rfl) rfl ?_
    refine v_load (v := (0, 7)) (hi_X12_readStep_23 hT) rfl rfl ?_
    refine v_if (hi_X12_readStep_24 hT) (fun hc2 => absurd (show (7 : Int) < 0 from hc2) (by decide)) (fun _ => ?_)
    refine v_load (v := (2, 121)) (hi_X12_readStep_31 hT) rfl rfl ?_
    refine v_getf (v := (0, 0)) (r := 121) (hi_X12_readStep_32 hT) rfl rfl (fun _ => hX.b) ?_
    refine v_if (hi_X12_readStep_35 hT) (fun _ => ?_) (fun hc3 => absurd (show (0 : Int) = 0 from (by decide)) hc3)
    refine v_load (v := (2, 121)) (hi_X12_readStep_38 hT) rfl rfl ?_
    refine v_getf (v := (0, (s : Int))) (r := 121) (hi_X12_readStep_39 hT) rfl rfl (fun _ => hs) ?_
    refine v_push (30) (hi_X12_readStep_42 hT) rfl ?_
    refine v_ic (hi_X12_readStep_44 hT) (fun hc4 => ?_) (fun hc4 => ?_)
    · have hc4 : (s : Int) = 30 := hc4
      refine v_load (v := (2, 121)) (hi_X12_readStep_47 hT) rfl rfl ?_
      refine v_push (6) (hi_X12_readStep_48 hT) rfl ?_
      refine v_load (v := (2, 121)) (hi_X12_readStep_50 hT) rfl rfl ?_
      refine v_getf (v := (0, (τ 1 i))) (r := 121) (hi_X12_readStep_51 hT) rfl rfl (fun _ => hX.ps) ?_
      refine v_call (w := 3) [some (2, 121), some (0, 6), some (0, (τ 1 i))] hO (hi_X12_readStep_54 hT) rfl rfl (rx_fail hT hO 6 hX h1 (by decide) (fun g5 ft5 c5 => ?_))
      · show vP D T N 304 57 g5 [some (2, 121), some (0, (d : Int)), some (0, 7), some (0, 1), none] [] _
        refine vP_hv (fun hv5 => ?_)
        refine v_load (v := (2, 121)) (hi_X12_readStep_57 hT) rfl rfl ?_
        refine v_getf (v := (0, (eF τ i 6).1)) (r := 121) (hi_X12_readStep_58 hT) rfl rfl (fun _ => c5.1) ?_
        refine v_if (hi_X12_readStep_61 hT) (fun hc6 => absurd (show (eF τ i 6).1 = 0 from hc6) (by have := c5.2.1; omega)) (fun _ => ?_)
        refine v_load (v := (2, 121)) (hi_X12_readStep_83 hT) rfl rfl ?_
        refine v_getf (v := (0, (eF τ i 6).1)) (r := 121) (hi_X12_readStep_84 hT) rfl rfl (fun _ => c5.1) ?_
        refine v_if (hi_X12_readStep_87 hT) (fun _ => ?_) (fun hc7 => absurd (show 0 < (eF τ i 6).1 from c5.2.1) hc7)
        refine v_ret0 (hi_X12_readStep_90 hT) ?_
        exact er _ _ (by simp only [pStep, hE, hsw, htw, hop, h15, opW15, (show 30 ≤ s from by omega), ne_eq, not_true_eq_false, not_false_eq_true, if_true, if_false, eq_self, eb_l, eb_r, and_true, true_and, and_false, false_and]) c5 (roF.t roF.rfl ft5)
    · have hc4 : (s : Int) ≠ 30 := hc4
      refine v_load (v := (2, 121)) (hi_X12_readStep_57 hT) rfl rfl ?_
      refine v_getf (v := (0, 0)) (r := 121) (hi_X12_readStep_58 hT) rfl rfl (fun _ => hX.b) ?_
      refine v_if (hi_X12_readStep_61 hT) (fun _ => ?_) (fun hc8 => absurd (show (0 : Int) = 0 from (by decide)) hc8)
      refine v_load (v := (0, 1)) (hi_X12_readStep_64 hT) rfl rfl ?_
      refine v_if (hi_X12_readStep_65 hT) (fun hc9 => absurd (show (1 : Int) = 0 from hc9) (by decide)) (fun _ => ?_)
      refine v_load (v := (0, (d : Int))) (hi_X12_readStep_68 hT) rfl rfl ?_
      refine v_push (3) (hi_X12_readStep_69 hT) rfl ?_
      refine v_ic (hi_X12_readStep_70 hT) (fun hc10 => ?_) (fun hc10 => ?_)
      · have hc10 : (d : Int) = 3 := hc10
        refine v_load (v := (2, 121)) (hi_X12_readStep_73 hT) rfl rfl ?_
        refine v_push (7) (hi_X12_readStep_74 hT) rfl ?_
        refine v_load (v := (2, 121)) (hi_X12_readStep_76 hT) rfl rfl ?_
        refine v_getf (v := (0, (τ 1 i))) (r := 121) (hi_X12_readStep_77 hT) rfl rfl (fun _ => hX.ps) ?_
        refine v_call (w := 3) [some (2, 121), some (0, 7), some (0, (τ 1 i))] hO (hi_X12_readStep_80 hT) rfl rfl (rx_fail hT hO 7 hX h1 (by decide) (fun g11 ft11 c11 => ?_))
        · show vP D T N 304 83 g11 [some (2, 121), some (0, (d : Int)), some (0, 7), some (0, 1), none] [] _
          refine vP_hv (fun hv11 => ?_)
          refine v_load (v := (2, 121)) (hi_X12_readStep_83 hT) rfl rfl ?_
          refine v_getf (v := (0, (eF τ i 7).1)) (r := 121) (hi_X12_readStep_84 hT) rfl rfl (fun _ => c11.1) ?_
          refine v_if (hi_X12_readStep_87 hT) (fun _ => ?_) (fun hc12 => absurd (show 0 < (eF τ i 7).1 from c11.2.1) hc12)
          refine v_ret0 (hi_X12_readStep_90 hT) ?_
          exact er _ _ (by simp only [pStep, hE, hsw, htw, hop, h15, opW15, (show ¬ 30 ≤ s from by omega), (show 3 ≤ d from by omega), ne_eq, not_true_eq_false, not_false_eq_true, if_true, if_false, eq_self, eb_l, eb_r, and_true, true_and, and_false, false_and]) c11 (roF.t roF.rfl ft11)
      · have hc10 : (d : Int) ≠ 3 := hc10
        refine v_load (v := (2, 121)) (hi_X12_readStep_83 hT) rfl rfl ?_
        refine v_getf (v := (0, 0)) (r := 121) (hi_X12_readStep_84 hT) rfl rfl (fun _ => hX.b) ?_
        refine v_if (hi_X12_readStep_87 hT) (fun hc13 => absurd (show 0 < (0 : Int) from hc13) (by decide)) (fun _ => ?_)
        refine v_push (2477) (hi_X12_readStep_91 hT) rfl ?_
        refine v_push (9) (hi_X12_readStep_94 hT) rfl ?_
        refine v_load (v := (2, 121)) (hi_X12_readStep_96 hT) rfl rfl ?_
        refine v_getf (v := (0, (s : Int))) (r := 121) (hi_X12_readStep_97 hT) rfl rfl (fun _ => hs) ?_
        refine v_bin (w := (9 * (s : Int))) (hi_X12_readStep_100 hT) (hq_mul (by omega) (by omega)) ?_
        refine v_bin (w := (2477 + (9 * (s : Int)))) (hi_X12_readStep_101 hT) (hq_add (by omega) (by omega)) ?_
        refine v_store1 [some (2, 121), some (0, (d : Int)), some (0, 7), some (0, 1), some (0, (2477 + (9 * (s : Int))))] (hi_X12_readStep_102 hT) ⟨rfl, Nat.ne_of_beq_eq_false rfl⟩ (Nat.le_of_ble_eq_true rfl) rfl ?_
        refine v_load (v := (2, 121)) (hi_X12_readStep_104 hT) rfl rfl ?_
        refine v_dup (hi_X12_readStep_105 hT) (Nat.ne_of_beq_eq_false rfl) ?_
        refine v_getf (v := (0, (s : Int))) (r := 121) (hi_X12_readStep_106 hT) rfl rfl (fun _ => hs) ?_
        refine v_push (1) (hi_X12_readStep_109 hT) rfl ?_
        refine v_bin (w := ((s : Int) + 1)) (hi_X12_readStep_110 hT) (hq_add (by omega) (by omega)) ?_
        refine v_putf (r := 121) hO (hi_X12_readStep_111 hT) rfl (fun hf14 => ?_)
        refine v_load (v := (2, 121)) (hi_X12_readStep_114 hT) rfl rfl ?_
        refine v_call (w := 2) [some (2, 121), none] hO (hi_X12_readStep_115 hT) rfl rfl (rx_next hT hO (rX.zf (k := 25) (v := (0, ((s : Int) + 1))) (by decide) hX) (ne_10 h1) (ne_14 h1) (fun g15 ft15 hX15 => ?_))
        · show vP D T N 304 118 g15 [some (2, 121), some (0, (d : Int)), some (0, 7), some (0, 1), some (0, (2477 + (9 * (s : Int))))] [] _
          refine vP_hv (fun hv15 => ?_)
          refine v_load (v := (2, 121)) (hi_X12_readStep_118 hT) rfl rfl ?_
          refine v_getR (c := 126) (r := 121) (hi_X12_readStep_119 hT) rfl rfl rfl ?_
          refine v_load (v := (0, (2477 + (9 * (s : Int))))) (hi_X12_readStep_122 hT) rfl rfl ?_
          refine v_load (v := (0, 7)) (hi_X12_readStep_124 hT) rfl rfl ?_
          refine v_ast (r := 126) (hi_X12_readStep_125 hT) rfl rfl (fun ha16 hb17 hf18 => ?_)
          refine v_load (v := (2, 121)) (hi_X12_readStep_126 hT) rfl rfl ?_
          refine v_load (v := (0, (2477 + (9 * (s : Int))))) (hi_X12_readStep_127 hT) rfl rfl ?_
          refine v_call (w := 3) [some (2, 121), some (0, (2477 + (9 * (s : Int)))), none] hO (hi_X12_readStep_129 hT) rfl rfl ?_
          refine v_load (v := (2, 121)) (hi_X12_readRest_0 hT) rfl rfl ?_
          refine v_getR (c := 126) (r := 121) (hi_X12_readRest_1 hT) rfl rfl rfl ?_
          refine v_load (v := (0, (2477 + (9 * (s : Int))))) (hi_X12_readRest_4 hT) rfl rfl ?_
          refine v_aldV (v := (0, 7)) (r := 126) (hi_X12_readRest_5 hT) rfl rfl (fun _ _ _ => zset_same) (fun ha19 hb20 => ?_)
          refine v_store1 [some (2, 121), some (0, (2477 + (9 * (s : Int)))), some (0, 7)] (hi_X12_readRest_6 hT) ⟨rfl, Nat.ne_of_beq_eq_false rfl⟩ (Nat.le_of_ble_eq_true rfl) rfl ?_
          refine v_load (v := (0, 7)) (hi_X12_readRest_7 hT) rfl rfl ?_
          refine v_if (hi_X12_readRest_8 hT) (fun hc21 => absurd (show (7 : Int) = 0 from hc21) (by decide)) (fun _ => ?_)
          refine v_load (v := (0, 7)) (hi_X12_readRest_11 hT) rfl rfl ?_
          refine v_push (2) (hi_X12_readRest_12 hT) rfl ?_
          refine v_ic (hi_X12_readRest_13 hT) (fun hc22 => absurd (show (7 : Int) = 2 from hc22) (by decide)) (fun _ => ?_)
          refine v_load (v := (0, 7)) (hi_X12_readRest_52 hT) rfl rfl ?_
          refine v_push (1) (hi_X12_readRest_53 hT) rfl ?_
          refine v_ic (hi_X12_readRest_54 hT) (fun hc23 => absurd (show (7 : Int) = 1 from hc23) (by decide)) (fun _ => ?_)
          refine v_load (v := (0, 7)) (hi_X12_readRest_72 hT) rfl rfl ?_
          refine v_push (3) (hi_X12_readRest_73 hT) rfl ?_
          refine v_ic (hi_X12_readRest_74 hT) (fun hc24 => absurd (show (7 : Int) = 3 from hc24) (by decide)) (fun _ => ?_)
          refine v_load (v := (0, 7)) (hi_X12_readRest_112 hT) rfl rfl ?_
          refine v_push (4) (hi_X12_readRest_113 hT) rfl ?_
          refine v_ic (hi_X12_readRest_114 hT) (fun hc25 => absurd (show (7 : Int) = 4 from hc25) (by decide)) (fun _ => ?_)
          refine v_load (v := (0, 7)) (hi_X12_readRest_155 hT) rfl rfl ?_
          refine v_push (5) (hi_X12_readRest_156 hT) rfl ?_
          refine v_ic (hi_X12_readRest_157 hT) (fun hc26 => absurd (show (7 : Int) = 5 from hc26) (by decide)) (fun _ => ?_)
          refine v_load (v := (0, 7)) (hi_X12_readRest_175 hT) rfl rfl ?_
          refine v_push (7) (hi_X12_readRest_176 hT) rfl ?_
          refine v_ic (hi_X12_readRest_178 hT) (fun _ => ?_) (fun hc27 => absurd (show (7 : Int) = 7 from (by decide)) hc27)
          refine v_load (v := (2, 121)) (hi_X12_readRest_181 hT) rfl rfl ?_
          refine v_load (v := (0, (2477 + (9 * (s : Int))))) (hi_X12_readRest_182 hT) rfl rfl ?_
          refine v_call (w := 3) [some (2, 121), some (0, (2477 + (9 * (s : Int)))), none] hO (hi_X12_readRest_183 hT) rfl rfl ?_
          refine v_load (v := (2, 121)) (hi_X12_readTest_0 hT) rfl rfl ?_
          refine v_call (w := 1) [some (2, 121)] hO (hi_X12_readTest_1 hT) rfl rfl (rx_testWord hT hO (rX.z (r := 126) (k := (((2477 + (9 * (s : Int)))).toNat)) (v := (0, 7)) (by decide) hX15) ?_)
          · show vP D T N 305 4 (zset g15 126 (((2477 + (9 * (s : Int)))).toNat) (0, 7)) [some (2, 121), some (0, (2477 + (9 * (s : Int)))), none] [(0, (twd τ (i + 1)))] _
            refine v_store1 [some (2, 121), some (0, (2477 + (9 * (s : Int)))), some (0, (twd τ (i + 1)))] (hi_X12_readTest_4 hT) ⟨rfl, Nat.ne_of_beq_eq_false rfl⟩ (Nat.le_of_ble_eq_true rfl) rfl ?_
            refine v_load (v := (2, 121)) (hi_X12_readTest_5 hT) rfl rfl ?_
            refine v_load (v := (0, (twd τ (i + 1)))) (hi_X12_readTest_6 hT) rfl rfl ?_
            refine v_if (hi_X12_readTest_7 hT) (fun _ => ?_) (fun hc28 => absurd (show (twd τ (i + 1)) < 0 from htw) hc28)
            refine v_push (0) (hz_X12_readTest hT _ _ rfl) rfl ?_
            refine v_call (w := 2) [some (2, 121), some (0, 0)] hO (hi_X12_readTest_15 hT) rfl rfl (rx_must hT hO 0 (rX.z (r := 126) (k := (((2477 + (9 * (s : Int)))).toNat)) (v := (0, 7)) (by decide) hX15) (fun c => absurd rfl c) (fun _ _ c => absurd rfl c) (fun g29 ft29 _ c29 => ?_))
            · show vP D T N 305 18 g29 [some (2, 121), some (0, (2477 + (9 * (s : Int)))), some (0, (twd τ (i + 1)))] [] _
              refine vP_hv (fun hv29 => ?_)
              refine v_load (v := (2, 121)) (hi_X12_readTest_18 hT) rfl rfl ?_
              refine v_getR (c := 126) (r := 121) (hi_X12_readTest_19 hT) rfl rfl rfl ?_
              refine v_load (v := (0, (2477 + (9 * (s : Int))))) (hi_X12_readTest_22 hT) rfl rfl ?_
              refine v_push (6) (hi_X12_readTest_23 hT) rfl ?_
              refine v_bin (w := ((2477 + (9 * (s : Int))) + 6)) (hi_X12_readTest_25 hT) (hq_add (by omega) (by omega)) ?_
              refine v_load (v := (0, (twd τ (i + 1)))) (hi_X12_readTest_26 hT) rfl rfl ?_
              refine v_ast (r := 126) (hi_X12_readTest_27 hT) rfl rfl (fun ha30 hb31 hf32 => ?_)
              refine v_load (v := (0, (twd τ (i + 1)))) (hi_X12_readTest_28 hT) rfl rfl ?_
              refine v_if (hi_X12_readTest_29 hT) (fun hc33 => absurd (show (twd τ (i + 1)) = 0 from hc33) (by omega)) (fun _ => ?_)
              refine v_load (v := (0, (twd τ (i + 1)))) (hz_X12_readTest hT _ _ rfl) rfl rfl ?_
              refine v_push (1) (hz_X12_readTest hT _ _ rfl) rfl ?_
              refine v_ic (hz_X12_readTest hT _ _ rfl) (fun hc34 => absurd (show (twd τ (i + 1)) = 1 from hc34) (by omega)) (fun _ => ?_)
              refine v_load (v := (2, 121)) (hz_X12_readTest hT _ _ rfl) rfl rfl ?_
              refine v_getf (v := (0, (eF τ (i + 1) 2).1)) (r := 121) (hz_X12_readTest hT _ _ rfl) rfl rfl (fun _ => Eq.trans (zset_ne (fun c => absurd c.1 (by decide))) (c29.1)) ?_
              refine v_if (hz_X12_readTest hT _ _ rfl) (fun hc35 => absurd (show (eF τ (i + 1) 2).1 = 0 from hc35) (by have := c29.2.1; omega)) (fun _ => ?_)
              refine v_ret0 (hi_X12_readTest_172 hT) ?_
              show vP D T N 301 186 (zset g29 126 ((((2477 + (9 * (s : Int))) + 6)).toNat) (0, (twd τ (i + 1)))) [some (2, 121), some (0, (2477 + (9 * (s : Int)))), some (0, 7)] [] _
              refine v_goto (hi_X12_readRest_186 hT) ?_
              refine v_ret0 (hi_X12_readRest_210 hT) ?_
              show vP D T N 304 132 (zset g29 126 ((((2477 + (9 * (s : Int))) + 6)).toNat) (0, (twd τ (i + 1)))) [some (2, 121), some (0, (d : Int)), some (0, 7), some (0, 1), some (0, (2477 + (9 * (s : Int))))] [] _
              refine v_load (v := (2, 121)) (hi_X12_readStep_132 hT) rfl rfl ?_
              refine v_load (v := (2, 121)) (hi_X12_readStep_133 hT) rfl rfl ?_
              refine v_push (59) (hi_X12_readStep_134 hT) rfl ?_
              refine v_call (w := 2) [some (2, 121), some (0, 59)] hO (hi_X12_readStep_136 hT) rfl rfl (rb_any_isSign hT hO (fun v36 => ?_))
              · show vP D T N 304 139 (zset g29 126 ((((2477 + (9 * (s : Int))) + 6)).toNat) (0, (twd τ (i + 1)))) [some (2, 121), some (0, (d : Int)), some (0, 7), some (0, 1), some (0, (2477 + (9 * (s : Int))))] [(0, v36), (2, 121)] _
                refine v_call (w := 2) [some (2, 121), some (0, v36)] hO (hi_X12_readStep_139 hT) rfl rfl (rx_mustB hT hO v36 (rE.z (r := 126) (k := ((((2477 + (9 * (s : Int))) + 6)).toNat)) (v := (0, (twd τ (i + 1)))) (by decide) c29) ?_)
                · show vP D T N 304 142 (zset g29 126 ((((2477 + (9 * (s : Int))) + 6)).toNat) (0, (twd τ (i + 1)))) [some (2, 121), some (0, (d : Int)), some (0, 7), some (0, 1), some (0, (2477 + (9 * (s : Int))))] [] _
                  refine v_load (v := (0, 1)) (hi_X12_readStep_142 hT) rfl rfl ?_
                  refine v_if (hi_X12_readStep_143 hT) (fun hc37 => absurd (show (1 : Int) = 0 from hc37) (by decide)) (fun _ => ?_)
                  refine v_load (v := (2, 121)) (hi_X12_readStep_146 hT) rfl rfl ?_
                  refine v_getf (v := (0, (eF τ (i + 1) 2).1)) (r := 121) (hi_X12_readStep_147 hT) rfl rfl (fun _ => Eq.trans (zset_ne (fun c => absurd c.1 (by decide))) (c29.1)) ?_
                  refine v_if (hi_X12_readStep_150 hT) (fun hc38 => absurd (show (eF τ (i + 1) 2).1 = 0 from hc38) (by have := c29.2.1; omega)) (fun _ => ?_)
                  refine v_load (v := (0, 1)) (hi_X12_readStep_170 hT) rfl rfl ?_
                  refine v_if (hi_X12_readStep_171 hT) (fun hc39 => absurd (show (1 : Int) = 0 from hc39) (by decide)) (fun _ => ?_)
                  refine v_load (v := (2, 121)) (hi_X12_readStep_174 hT) rfl rfl ?_
                  refine v_load (v := (2, 121)) (hi_X12_readStep_175 hT) rfl rfl ?_
                  refine v_call (w := 1) [some (2, 121)] hO (hi_X12_readStep_176 hT) rfl rfl (rb_any_isEnd hT hO (fun v40 => ?_))
                  · show vP D T N 304 179 (zset g29 126 ((((2477 + (9 * (s : Int))) + 6)).toNat) (0, (twd τ (i + 1)))) [some (2, 121), some (0, (d : Int)), some (0, 7), some (0, 1), some (0, (2477 + (9 * (s : Int))))] [(0, v40), (2, 121)] _
                    refine v_call (w := 2) [some (2, 121), some (0, v40)] hO (hi_X12_readStep_179 hT) rfl rfl (rx_mustB hT hO v40 (rE.z (r := 126) (k := ((((2477 + (9 * (s : Int))) + 6)).toNat)) (v := (0, (twd τ (i + 1)))) (by decide) c29) ?_)
                    · show vP D T N 304 182 (zset g29 126 ((((2477 + (9 * (s : Int))) + 6)).toNat) (0, (twd τ (i + 1)))) [some (2, 121), some (0, (d : Int)), some (0, 7), some (0, 1), some (0, (2477 + (9 * (s : Int))))] [] _
                      refine v_load (v := (2, 121)) (hi_X12_readStep_182 hT) rfl rfl ?_
                      refine v_load (v := (2, 121)) (hi_X12_readStep_183 hT) rfl rfl ?_
                      refine v_push (59) (hi_X12_readStep_184 hT) rfl ?_
                      refine v_call (w := 2) [some (2, 121), some (0, 59)] hO (hi_X12_readStep_186 hT) rfl rfl (rb_any_isSign hT hO (fun v41 => ?_))
                      · show vP D T N 304 189 (zset g29 126 ((((2477 + (9 * (s : Int))) + 6)).toNat) (0, (twd τ (i + 1)))) [some (2, 121), some (0, (d : Int)), some (0, 7), some (0, 1), some (0, (2477 + (9 * (s : Int))))] [(0, v41), (2, 121)] _
                        refine v_call (w := 2) [some (2, 121), some (0, v41)] hO (hi_X12_readStep_189 hT) rfl rfl (rx_mustB hT hO v41 (rE.z (r := 126) (k := ((((2477 + (9 * (s : Int))) + 6)).toNat)) (v := (0, (twd τ (i + 1)))) (by decide) c29) ?_)
                        · show vP D T N 304 192 (zset g29 126 ((((2477 + (9 * (s : Int))) + 6)).toNat) (0, (twd τ (i + 1)))) [some (2, 121), some (0, (d : Int)), some (0, 7), some (0, 1), some (0, (2477 + (9 * (s : Int))))] [] _
                          refine v_load (v := (2, 121)) (hi_X12_readStep_192 hT) rfl rfl ?_
                          refine v_getR (c := 126) (r := 121) (hi_X12_readStep_193 hT) rfl rfl rfl ?_
                          refine v_load (v := (0, (2477 + (9 * (s : Int))))) (hi_X12_readStep_196 hT) rfl rfl ?_
                          refine v_push (8) (hi_X12_readStep_198 hT) rfl ?_
                          refine v_bin (w := ((2477 + (9 * (s : Int))) + 8)) (hi_X12_readStep_200 hT) (hq_add (by omega) (by omega)) ?_
                          refine v_load (v := (2, 121)) (hi_X12_readStep_201 hT) rfl rfl ?_
                          refine v_getf (v := (0, ((s : Int) + 1))) (r := 121) (hi_X12_readStep_202 hT) rfl rfl (fun _ => Eq.trans (zset_ne (fun c => absurd c.1 (by decide))) ((Eq.trans (ft29 121 25 (by first | decide | exact fun c => by omega)) (Eq.trans (zset_ne (fun c => absurd c.1 (by decide))) ((Eq.trans (ft15 121 25 (by first | decide | exact fun c => by omega)) (zset_same))))))) ?_
                          refine v_ast (r := 126) (hi_X12_readStep_205 hT) rfl rfl (fun ha42 hb43 hf44 => ?_)
                          refine v_ret0 (hi_X12_readStep_206 hT) ?_
                          exact er _ _ (by simp only [pStep, hE, hsw, htw, hop, h15, opW15, (show ¬ 30 ≤ s from by omega), (show ¬ 3 ≤ d from by omega), ne_eq, not_true_eq_false, not_false_eq_true, if_true, if_false, eq_self, eb_l, eb_r, and_true, true_and, and_false, false_and]) (rE.z (r := 126) (k := ((((2477 + (9 * (s : Int))) + 8)).toNat)) (v := (0, ((s : Int) + 1))) (by decide) (rE.z (r := 126) (k := ((((2477 + (9 * (s : Int))) + 6)).toNat)) (v := (0, (twd τ (i + 1)))) (by decide) c29)) (roF.z (a := 126) (b := ((((2477 + (9 * (s : Int))) + 8)).toNat)) (v := (0, ((s : Int) + 1))) (by omega) (roF.z (a := 126) (b := ((((2477 + (9 * (s : Int))) + 6)).toNat)) (v := (0, (twd τ (i + 1)))) (by omega) (roF.t (roF.z (a := 126) (b := (((2477 + (9 * (s : Int)))).toNat)) (v := (0, 7)) (by omega) (roF.t (roF.z (a := 121) (b := 25) (v := (0, ((s : Int) + 1))) (by omega) roF.rfl) ft15)) ft29)))
theorem ro_x {D : zD} {T : zT} (hT : hTab T) (hO : vOK T) {N : Nat} {h : zH} {Q : zR → Prop} {B : Nat → Int} {n m i s d : Nat} {τ P : PT} (hv0 : zHv h) (hX : rX B n m τ i h) (e0 : h 126 0 = (0, P 0 0)) (e1 : h 126 1 = (0, P 0 1)) (e2 : h 126 2 = (0, P 0 2)) (e3 : h 126 3 = (0, P 0 3)) (hN : rNm P h) (hb : (0 ≤ P 0 0 ∧ P 0 0 ≤ 8) ∧ (0 ≤ P 0 1 ∧ P 0 1 ≤ 6) ∧ (0 ≤ P 0 2 ∧ P 0 2 ≤ 3) ∧ (0 ≤ P 0 3 ∧ P 0 3 ≤ 6)) (hs : h 121 25 = (0, (s : Int))) (bs : s ≤ 30) (bd : d ≤ 3) (hsw : swd τ i < 0) (er : ∀ g, rE (eF τ i 2) g → roF h g → Q (g, none)) :
    vP D T (N + 1) 304 0 h [some (2, 121), some (0, (d : Int)), none, none, none] [] Q := by
  refine v_loadS (v := (2, 121)) (hi_X12_readStep_0 hT) rfl rfl ?_
  refine v_call (w := 1) [some (2, 121)] hO (hi_X12_readStep_1 hT) rfl rfl (rx_stepWord hT hO hX ?_)
  · show vP D T N 304 4 h [some (2, 121), some (0, (d : Int)), none, none, none] [(0, (swd τ i))] _
    refine v_store1 [some (2, 121), some (0, (d : Int)), some (0, (swd τ i)), none, none] (hi_X12_readStep_4 hT) ⟨rfl, Nat.ne_of_beq_eq_false rfl⟩ (Nat.le_of_ble_eq_true rfl) rfl ?_
    refine v_load (v := (0, (swd τ i))) (hi_X12_readStep_5 hT) rfl rfl ?_
    refine v_push (7) (hi_X12_readStep_6 hT) rfl ?_
    refine v_ic (hi_X12_readStep_8 hT) (fun hc1 => absurd (show (swd τ i) = 7 from hc1) (by omega)) (fun _ => ?_)
    refine v_load (v := (0, (swd τ i))) (hi_X12_readStep_11 hT) rfl rfl ?_
    refine v_push (8) (hi_X12_readStep_12 hT) rfl ?_
    refine v_ic (hi_X12_readStep_14 hT) (fun hc2 => absurd (show (swd τ i) = 8 from hc2) (by omega)) (fun _ => ?_)
    refine v_push (0) (hi_X12_readStep_21 hT) rfl ?_
    refine v_store1 [some (2, 121), some (0, (d : Int)), some (0, (swd τ i)), some (0, 0), none] (hi_X12_readStep_22 hT) ⟨rfl, Nat.ne_of_beq_eq_false rfl⟩ (Nat.le_of_ble_eq_true rfl) rfl ?_
    refine v_load (v := (0, (swd τ i))) (hi_X12_readStep_23 hT) rfl rfl ?_
    refine v_if (hi_X12_readStep_24 hT) (fun _ => ?_) (fun hc3 => absurd (show (swd τ i) < 0 from hsw) hc3)
    refine v_load (v := (2, 121)) (hz_X12_readStep hT _ _ rfl) rfl rfl ?_
    refine v_call (w := 1) [some (2, 121)] hO (hz_X12_readStep hT _ _ rfl) rfl rfl (rx_wrong hT hO hX (fun g4 ft4 c4 => ?_))
    · show vP D T N 304 31 g4 [some (2, 121), some (0, (d : Int)), some (0, (swd τ i)), some (0, 0), none] [] _
      refine vP_hv (fun hv4 => ?_)
      refine v_load (v := (2, 121)) (hi_X12_readStep_31 hT) rfl rfl ?_
      refine v_getf (v := (0, (eF τ i 2).1)) (r := 121) (hi_X12_readStep_32 hT) rfl rfl (fun _ => c4.1) ?_
      refine v_if (hi_X12_readStep_35 hT) (fun hc5 => absurd (show (eF τ i 2).1 = 0 from hc5) (by have := c4.2.1; omega)) (fun _ => ?_)
      refine v_load (v := (2, 121)) (hi_X12_readStep_57 hT) rfl rfl ?_
      refine v_getf (v := (0, (eF τ i 2).1)) (r := 121) (hi_X12_readStep_58 hT) rfl rfl (fun _ => c4.1) ?_
      refine v_if (hi_X12_readStep_61 hT) (fun hc6 => absurd (show (eF τ i 2).1 = 0 from hc6) (by have := c4.2.1; omega)) (fun _ => ?_)
      refine v_load (v := (2, 121)) (hi_X12_readStep_83 hT) rfl rfl ?_
      refine v_getf (v := (0, (eF τ i 2).1)) (r := 121) (hi_X12_readStep_84 hT) rfl rfl (fun _ => c4.1) ?_
      refine v_if (hi_X12_readStep_87 hT) (fun _ => ?_) (fun hc7 => absurd (show 0 < (eF τ i 2).1 from c4.2.1) hc7)
      refine v_ret0 (hi_X12_readStep_90 hT) ?_
      exact er _ c4 (roF.t roF.rfl ft4)
theorem ro_loop {D : zD} {T : zT} (hT : hTab T) (hO : vOK T) {N : Nat} {h : zH} {Q : zR → Prop} {B : Nat → Int} {n m i s s0 d : Nat} {τ P : PT} (k : Int) (hv0 : zHv h) (hX : rX B n m τ i h) (e0 : h 126 0 = (0, P 0 0)) (e1 : h 126 1 = (0, P 0 1)) (e2 : h 126 2 = (0, P 0 2)) (e3 : h 126 3 = (0, P 0 3)) (hN : rNm P h) (hb : (0 ≤ P 0 0 ∧ P 0 0 ≤ 8) ∧ (0 ≤ P 0 1 ∧ P 0 1 ≤ 6) ∧ (0 ≤ P 0 2 ∧ P 0 2 ≤ 3) ∧ (0 ≤ P 0 3 ∧ P 0 3 ≤ 6)) (hs : h 121 25 = (0, (s : Int))) (bs : s ≤ 30) (bd : d ≤ 3) (bs0 : s0 ≤ 29)
    (k0 : ((bW τ 20 i) = 0) → vP D T N 304 0 h [some (2, 121), some (0, ((d : Int) + 1)), none, none, none] [] (fun r1 => vP D T N 304 167 r1.1 [some (2, 121), some (0, (d : Int)), some (0, k), some (0, 1), some (0, (2477 + 9 * (s0 : Int)))] (zpush r1.2 []) Q))
    (k1 : ((bW τ 20 i) ≠ 0) → ∀ (g6 : zH), (qF h g6) → ((bW τ 20 i) ≠ 0) → (rX B n m τ (i + 1) g6) → ∀ (g9 : zH), (qF g6 g9) → ((bG τ 59 (i + 1)) ≠ 0) → (rX B n m τ (i + 1 + 1) g9) → (0 ≤ ((2477 + 9 * (s0 : Int)) + 8)) → (((2477 + 9 * (s0 : Int)) + 8) < 2750) → Q (zset g9 126 ((((2477 + 9 * (s0 : Int)) + 8)).toNat) (0, (s : Int)), none))
    (k2 : ((bW τ 20 i) ≠ 0) → ∀ (g6 : zH), (qF h g6) → ((bW τ 20 i) ≠ 0) → (rX B n m τ (i + 1) g6) → ∀ (g10 : zH), (qF g6 g10) → ((bG τ 59 (i + 1)) = 0) → (rE (eF τ (i + 1) 2) g10) → (0 ≤ ((2477 + 9 * (s0 : Int)) + 8)) → (((2477 + 9 * (s0 : Int)) + 8) < 2750) → Q (zset g10 126 ((((2477 + 9 * (s0 : Int)) + 8)).toNat) (0, (s : Int)), none))
    (k3 : ((bW τ 20 i) ≠ 0) → ∀ (g7 : zH), (qF h g7) → ((bW τ 20 i) = 0) → (rE (eF τ i 2) g7) → ∀ (v17 : Int), (0 ≤ ((2477 + 9 * (s0 : Int)) + 8)) → (((2477 + 9 * (s0 : Int)) + 8) < 2750) → Q (zset g7 126 ((((2477 + 9 * (s0 : Int)) + 8)).toNat) (0, (s : Int)), none)) :
    vP D T (N + 1) 304 142 h [some (2, 121), some (0, (d : Int)), some (0, k), some (0, 1), some (0, (2477 + 9 * (s0 : Int)))] [] Q := by
  refine v_loadS (v := (0, 1)) (hi_X12_readStep_142 hT) rfl rfl ?_
  refine v_if (hi_X12_readStep_143 hT) (fun hc1 => absurd (show (1 : Int) = 0 from hc1) (by decide)) (fun _ => ?_)
  refine v_load (v := (2, 121)) (hi_X12_readStep_146 hT) rfl rfl ?_
  refine v_getf (v := (0, 0)) (r := 121) (hi_X12_readStep_147 hT) rfl rfl (fun _ => hX.b) ?_
  refine v_if (hi_X12_readStep_150 hT) (fun _ => ?_) (fun hc2 => absurd (show (0 : Int) = 0 from (by decide)) hc2)
  refine v_load (v := (2, 121)) (hz_X12_readStep hT _ _ rfl) rfl rfl ?_
  refine v_call (w := 1) [some (2, 121)] hO (hz_X12_readStep hT _ _ rfl) rfl rfl (rx_isEnd hT hO hX ?_)
  · show vP D T N 304 157 h [some (2, 121), some (0, (d : Int)), some (0, k), some (0, 1), some (0, (2477 + 9 * (s0 : Int)))] [(0, (bW τ 20 i))] _
    refine v_if (hz_X12_readStep hT _ _ rfl) (fun hc3 => ?_) (fun hc3 => ?_)
    · have hc3 : (bW τ 20 i) = 0 := hc3
      refine v_load (v := (2, 121)) (hz_X12_readStep hT _ _ rfl) rfl rfl ?_
      refine v_load (v := (0, (d : Int))) (hz_X12_readStep hT _ _ rfl) rfl rfl ?_
      refine v_push (1) (hz_X12_readStep hT _ _ rfl) rfl ?_
      refine v_bin (w := ((d : Int) + 1)) (hz_X12_readStep hT _ _ rfl) (hq_add (by omega) (by omega)) ?_
      refine v_call (w := 5) [some (2, 121), some (0, ((d : Int) + 1)), none, none, none] hO (hz_X12_readStep hT _ _ rfl) rfl rfl ?_
      exact k0 hc3
    · have hc3 : (bW τ 20 i) ≠ 0 := hc3
      refine v_load (v := (0, 1)) (hi_X12_readStep_170 hT) rfl rfl ?_
      refine v_if (hi_X12_readStep_171 hT) (fun hc4 => absurd (show (1 : Int) = 0 from hc4) (by decide)) (fun _ => ?_)
      refine v_load (v := (2, 121)) (hi_X12_readStep_174 hT) rfl rfl ?_
      refine v_load (v := (2, 121)) (hi_X12_readStep_175 hT) rfl rfl ?_
      refine v_call (w := 1) [some (2, 121)] hO (hi_X12_readStep_176 hT) rfl rfl (rx_isEnd hT hO hX ?_)
      · show vP D T N 304 179 h [some (2, 121), some (0, (d : Int)), some (0, k), some (0, 1), some (0, (2477 + 9 * (s0 : Int)))] [(0, (bW τ 20 i)), (2, 121)] _
        refine v_call (w := 2) [some (2, 121), some (0, (bW τ 20 i))] hO (hi_X12_readStep_179 hT) rfl rfl (rx_must hT hO ((bW τ 20 i)) hX (fun c => ⟨ne_10 (bW_y.mp c).1, ne_14 (bW_y.mp c).1⟩) (fun g6 ft6 hc5 hX6 => ?_) (fun g7 ft7 hc7 c7 => ?_))
        · show vP D T N 304 182 g6 [some (2, 121), some (0, (d : Int)), some (0, k), some (0, 1), some (0, (2477 + 9 * (s0 : Int)))] [] _
          refine vP_hv (fun hv6 => ?_)
          refine v_load (v := (2, 121)) (hi_X12_readStep_182 hT) rfl rfl ?_
          refine v_load (v := (2, 121)) (hi_X12_readStep_183 hT) rfl rfl ?_
          refine v_push (59) (hi_X12_readStep_184 hT) rfl ?_
          refine v_call (w := 2) [some (2, 121), some (0, 59)] hO (hi_X12_readStep_186 hT) rfl rfl (rx_isSign hT hO 59 hX6 ?_)
          · show vP D T N 304 189 g6 [some (2, 121), some (0, (d : Int)), some (0, k), some (0, 1), some (0, (2477 + 9 * (s0 : Int)))] [(0, (bG τ 59 (i + 1))), (2, 121)] _
            refine v_call (w := 2) [some (2, 121), some (0, (bG τ 59 (i + 1)))] hO (hi_X12_readStep_189 hT) rfl rfl (rx_must hT hO ((bG τ 59 (i + 1))) hX6 (fun c => ⟨by have := (bG_y.mp c).1; omega, by have := (bG_y.mp c).1; omega⟩) (fun g9 ft9 hc8 hX9 => ?_) (fun g10 ft10 hc10 c10 => ?_))
            · show vP D T N 304 192 g9 [some (2, 121), some (0, (d : Int)), some (0, k), some (0, 1), some (0, (2477 + 9 * (s0 : Int)))] [] _
              refine vP_hv (fun hv9 => ?_)
              refine v_load (v := (2, 121)) (hi_X12_readStep_192 hT) rfl rfl ?_
              refine v_getR (c := 126) (r := 121) (hi_X12_readStep_193 hT) rfl rfl rfl ?_
              refine v_load (v := (0, (2477 + 9 * (s0 : Int)))) (hi_X12_readStep_196 hT) rfl rfl ?_
              refine v_push (8) (hi_X12_readStep_198 hT) rfl ?_
              refine v_bin (w := ((2477 + 9 * (s0 : Int)) + 8)) (hi_X12_readStep_200 hT) (hq_add (by omega) (by omega)) ?_
              refine v_load (v := (2, 121)) (hi_X12_readStep_201 hT) rfl rfl ?_
              refine v_getf (v := (0, (s : Int))) (r := 121) (hi_X12_readStep_202 hT) rfl rfl (fun _ => (Eq.trans (ft9 121 25 (by first | decide | exact fun c => by omega)) (Eq.trans (ft6 121 25 (by first | decide | exact fun c => by omega)) hs))) ?_
              refine v_ast (r := 126) (hi_X12_readStep_205 hT) rfl rfl (fun ha11 hb12 hf13 => ?_)
              refine v_ret0 (hi_X12_readStep_206 hT) ?_
              exact k1 hc3 g6 ft6 hc5 hX6 g9 ft9 hc8 hX9 ha11 hb12
            · show vP D T N 304 192 g10 [some (2, 121), some (0, (d : Int)), some (0, k), some (0, 1), some (0, (2477 + 9 * (s0 : Int)))] [] _
              refine vP_hv (fun hv10 => ?_)
              refine v_load (v := (2, 121)) (hi_X12_readStep_192 hT) rfl rfl ?_
              refine v_getR (c := 126) (r := 121) (hi_X12_readStep_193 hT) rfl rfl rfl ?_
              refine v_load (v := (0, (2477 + 9 * (s0 : Int)))) (hi_X12_readStep_196 hT) rfl rfl ?_
              refine v_push (8) (hi_X12_readStep_198 hT) rfl ?_
              refine v_bin (w := ((2477 + 9 * (s0 : Int)) + 8)) (hi_X12_readStep_200 hT) (hq_add (by omega) (by omega)) ?_
              refine v_load (v := (2, 121)) (hi_X12_readStep_201 hT) rfl rfl ?_
              refine v_getf (v := (0, (s : Int))) (r := 121) (hi_X12_readStep_202 hT) rfl rfl (fun _ => (Eq.trans (ft10 121 25 (by first | decide | exact fun c => by omega)) (Eq.trans (ft6 121 25 (by first | decide | exact fun c => by omega)) hs))) ?_
              refine v_ast (r := 126) (hi_X12_readStep_205 hT) rfl rfl (fun ha14 hb15 hf16 => ?_)
              refine v_ret0 (hi_X12_readStep_206 hT) ?_
              exact k2 hc3 g6 ft6 hc5 hX6 g10 ft10 hc10 c10 ha14 hb15
        · show vP D T N 304 182 g7 [some (2, 121), some (0, (d : Int)), some (0, k), some (0, 1), some (0, (2477 + 9 * (s0 : Int)))] [] _
          refine vP_hv (fun hv7 => ?_)
          refine v_load (v := (2, 121)) (hi_X12_readStep_182 hT) rfl rfl ?_
          refine v_load (v := (2, 121)) (hi_X12_readStep_183 hT) rfl rfl ?_
          refine v_push (59) (hi_X12_readStep_184 hT) rfl ?_
          refine v_call (w := 2) [some (2, 121), some (0, 59)] hO (hi_X12_readStep_186 hT) rfl rfl (rb_any_isSign hT hO (fun v17 => ?_))
          · show vP D T N 304 189 g7 [some (2, 121), some (0, (d : Int)), some (0, k), some (0, 1), some (0, (2477 + 9 * (s0 : Int)))] [(0, v17), (2, 121)] _
            refine v_call (w := 2) [some (2, 121), some (0, v17)] hO (hi_X12_readStep_189 hT) rfl rfl (rx_mustB hT hO v17 c7 ?_)
            · show vP D T N 304 192 g7 [some (2, 121), some (0, (d : Int)), some (0, k), some (0, 1), some (0, (2477 + 9 * (s0 : Int)))] [] _
              refine v_load (v := (2, 121)) (hi_X12_readStep_192 hT) rfl rfl ?_
              refine v_getR (c := 126) (r := 121) (hi_X12_readStep_193 hT) rfl rfl rfl ?_
              refine v_load (v := (0, (2477 + 9 * (s0 : Int)))) (hi_X12_readStep_196 hT) rfl rfl ?_
              refine v_push (8) (hi_X12_readStep_198 hT) rfl ?_
              refine v_bin (w := ((2477 + 9 * (s0 : Int)) + 8)) (hi_X12_readStep_200 hT) (hq_add (by omega) (by omega)) ?_
              refine v_load (v := (2, 121)) (hi_X12_readStep_201 hT) rfl rfl ?_
              refine v_getf (v := (0, (s : Int))) (r := 121) (hi_X12_readStep_202 hT) rfl rfl (fun _ => (Eq.trans (ft7 121 25 (by first | decide | exact fun c => by omega)) hs)) ?_
              refine v_ast (r := 126) (hi_X12_readStep_205 hT) rfl rfl (fun ha18 hb19 hf20 => ?_)
              refine v_ret0 (hi_X12_readStep_206 hT) ?_
              exact k3 hc3 g7 ft7 hc7 c7 v17 ha18 hb19
theorem ro_loopB {D : zD} {T : zT} (hT : hTab T) (hO : vOK T) {N : Nat} {h : zH} {Q : zR → Prop} {s0 d : Nat} {e : Er} (k a : Int) (hv0 : zHv h) (hB : rE e h) (hs : h 121 25 = (0, a)) (bs0 : s0 ≤ 29)
    (k0 : ∀ (v4 : Int), ∀ (v5 : Int), (0 ≤ ((2477 + 9 * (s0 : Int)) + 8)) → (((2477 + 9 * (s0 : Int)) + 8) < 2750) → Q (zset h 126 ((((2477 + 9 * (s0 : Int)) + 8)).toNat) (0, a), none)) :
    vP D T N 304 142 h [some (2, 121), some (0, (d : Int)), some (0, k), some (0, 1), some (0, (2477 + 9 * (s0 : Int)))] [] Q := by
  refine v_load (v := (0, 1)) (hi_X12_readStep_142 hT) rfl rfl ?_
  refine v_if (hi_X12_readStep_143 hT) (fun hc1 => absurd (show (1 : Int) = 0 from hc1) (by decide)) (fun _ => ?_)
  refine v_load (v := (2, 121)) (hi_X12_readStep_146 hT) rfl rfl ?_
  refine v_getf (v := (0, e.1)) (r := 121) (hi_X12_readStep_147 hT) rfl rfl (fun _ => hB.1) ?_
  refine v_if (hi_X12_readStep_150 hT) (fun hc2 => absurd (show e.1 = 0 from hc2) (by have := hB.2.1; omega)) (fun _ => ?_)
  refine v_load (v := (0, 1)) (hi_X12_readStep_170 hT) rfl rfl ?_
  refine v_if (hi_X12_readStep_171 hT) (fun hc3 => absurd (show (1 : Int) = 0 from hc3) (by decide)) (fun _ => ?_)
  refine v_load (v := (2, 121)) (hi_X12_readStep_174 hT) rfl rfl ?_
  refine v_load (v := (2, 121)) (hi_X12_readStep_175 hT) rfl rfl ?_
  refine v_call (w := 1) [some (2, 121)] hO (hi_X12_readStep_176 hT) rfl rfl (rb_any_isEnd hT hO (fun v4 => ?_))
  · show vP D T N 304 179 h [some (2, 121), some (0, (d : Int)), some (0, k), some (0, 1), some (0, (2477 + 9 * (s0 : Int)))] [(0, v4), (2, 121)] _
    refine v_call (w := 2) [some (2, 121), some (0, v4)] hO (hi_X12_readStep_179 hT) rfl rfl (rx_mustB hT hO v4 hB ?_)
    · show vP D T N 304 182 h [some (2, 121), some (0, (d : Int)), some (0, k), some (0, 1), some (0, (2477 + 9 * (s0 : Int)))] [] _
      refine v_load (v := (2, 121)) (hi_X12_readStep_182 hT) rfl rfl ?_
      refine v_load (v := (2, 121)) (hi_X12_readStep_183 hT) rfl rfl ?_
      refine v_push (59) (hi_X12_readStep_184 hT) rfl ?_
      refine v_call (w := 2) [some (2, 121), some (0, 59)] hO (hi_X12_readStep_186 hT) rfl rfl (rb_any_isSign hT hO (fun v5 => ?_))
      · show vP D T N 304 189 h [some (2, 121), some (0, (d : Int)), some (0, k), some (0, 1), some (0, (2477 + 9 * (s0 : Int)))] [(0, v5), (2, 121)] _
        refine v_call (w := 2) [some (2, 121), some (0, v5)] hO (hi_X12_readStep_189 hT) rfl rfl (rx_mustB hT hO v5 hB ?_)
        · show vP D T N 304 192 h [some (2, 121), some (0, (d : Int)), some (0, k), some (0, 1), some (0, (2477 + 9 * (s0 : Int)))] [] _
          refine v_load (v := (2, 121)) (hi_X12_readStep_192 hT) rfl rfl ?_
          refine v_getR (c := 126) (r := 121) (hi_X12_readStep_193 hT) rfl rfl rfl ?_
          refine v_load (v := (0, (2477 + 9 * (s0 : Int)))) (hi_X12_readStep_196 hT) rfl rfl ?_
          refine v_push (8) (hi_X12_readStep_198 hT) rfl ?_
          refine v_bin (w := ((2477 + 9 * (s0 : Int)) + 8)) (hi_X12_readStep_200 hT) (hq_add (by omega) (by omega)) ?_
          refine v_load (v := (2, 121)) (hi_X12_readStep_201 hT) rfl rfl ?_
          refine v_getf (v := (0, a)) (r := 121) (hi_X12_readStep_202 hT) rfl rfl (fun _ => hs) ?_
          refine v_ast (r := 126) (hi_X12_readStep_205 hT) rfl rfl (fun ha6 hb7 hf8 => ?_)
          refine v_ret0 (hi_X12_readStep_206 hT) ?_
          exact k0 v4 v5 ha6 hb7
theorem ro_167 {D : zD} {T : zT} (hT : hTab T) (hO : vOK T) {N : Nat} {h : zH} {Q : zR → Prop} (d k b w : Int) (hv0 : zHv h)
    (k0 : vP D T N 304 142 h [some (2, 121), some (0, d), some (0, k), some (0, b), some (0, w)] [] Q) :
    vP D T N 304 167 h [some (2, 121), some (0, d), some (0, k), some (0, b), some (0, w)] [] Q := by
  refine v_goto (hz_X12_readStep hT _ _ rfl) ?_
  exact k0 
/-! the reference's readStep, which calls itself -/
def oRI (B : Nat → Int) (n m : Nat) (τ P : PT) (s i : Nat) (h : zH) : Prop := rX B n m τ i h ∧ (h 126 0 = (0, P 0 0) ∧ h 126 1 = (0, P 0 1) ∧ h 126 2 = (0, P 0 2) ∧ h 126 3 = (0, P 0 3)) ∧ rNm P h ∧ h 121 25 = (0, (s : Int)) ∧ s ≤ 30
theorem oRI.go {B : Nat → Int} {n m s i s' i' : Nat} {τ P : PT} {h g : zH} (o : oRI B n m τ P s i h) (f : roF h g) (hX : rX B n m τ i' g) (hs : g 121 25 = (0, (s' : Int))) (b : s' ≤ 30) : oRI B n m τ P s' i' g := ⟨hX, ⟨(f 126 0 (fun c => by omega)).trans o.2.1.1, (f 126 1 (fun c => by omega)).trans o.2.1.2.1, (f 126 2 (fun c => by omega)).trans o.2.1.2.2.1, (f 126 3 (fun c => by omega)).trans o.2.1.2.2.2⟩, fun k hk => (f 128 k (fun c => by omega)).trans (o.2.2.1 k hk), hs, b⟩
def oEq (τ P : PT) (nn s d i s' d' i' : Nat) : Prop := ∀ f, pOrd τ P (nn + f) s d i = pOrd τ P f s' d' i'
def oEr (τ P : PT) (nn s d i : Nat) (e : Er) : Prop := ∀ f, pOrd τ P (nn + f) s d i = .inl e
theorem oEq.er {τ P : PT} {n1 n2 s d i s' d' i' : Nat} {e : Er} (a : oEq τ P n1 s d i s' d' i') (b : oEr τ P n2 s' d' i' e) : oEr τ P (n1 + n2) s d i e := fun f => by
  rw [Nat.add_assoc, a (n2 + f), b f]
theorem oEq.trans {τ P : PT} {n1 n2 s d i s' d' i' s2 d2 i2 : Nat} (a : oEq τ P n1 s d i s' d' i') (b : oEq τ P n2 s' d' i' s2 d2 i2) : oEq τ P (n1 + n2) s d i s2 d2 i2 := fun f => by
  rw [Nat.add_assoc, a (n2 + f), b f]
theorem pOrd_y {τ P : PT} {s d i s' d' i' : Nat} (h0 : τ 0 i ≠ 0) (h : pStep τ P s d i = .inr (s', d', i')) : oEq τ P 1 s d i s' d' i' := fun f => by
  rw [Nat.add_comm 1 f]
  show (if τ 0 i = 0 then _ else eb (pStep τ P s d i) fun a => pOrd τ P f a.1 a.2.1 a.2.2) = _
  rw [if_neg h0, h, eb_r]
theorem pOrd_e {τ P : PT} {s d i : Nat} {e : Er} (h0 : τ 0 i ≠ 0) (h : pStep τ P s d i = .inl e) : oEr τ P 1 s d i e := fun f => by
  rw [Nat.add_comm 1 f]
  show (if τ 0 i = 0 then _ else eb (pStep τ P s d i) fun a => pOrd τ P f a.1 a.2.1 a.2.2) = _
  rw [if_neg h0, h, eb_l]
theorem pOrd_0 {τ P : PT} {s d i : Nat} (h0 : τ 0 i = 0) (hd : 0 < d) : oEr τ P 1 s d i (eF τ i 2) := fun f => by
  rw [Nat.add_comm 1 f]
  show (if τ 0 i = 0 then (if d = 0 then _ else _) else _) = _
  rw [if_pos h0, if_neg (by omega)]
def rStR (B : Nat → Int) (n m : Nat) (τ P : PT) (s d i : Nat) (h0 : zH) (x : zR) : Prop := x.2 = none ∧ ((∃ nn e, oEr τ P nn s d i e ∧ 2 * nn + i ≤ 902 ∧ rE e x.1 ∧ roF h0 x.1) ∨ (∃ nn s' i', oEq τ P nn s d i s' d i' ∧ 2 * nn + i ≤ i' ∧ oRI B n m τ P s' i' x.1 ∧ roF h0 x.1))
theorem rStR_e {B : Nat → Int} {n m nn s d i : Nat} {τ P : PT} {h0 g : zH} {e : Er} (a : oEr τ P nn s d i e) (b : 2 * nn + i ≤ 902) (c : rE e g) (f : roF h0 g) : rStR B n m τ P s d i h0 (g, none) := ⟨rfl, Or.inl ⟨nn, e, a, b, c, f⟩⟩
theorem rStR_y {B : Nat → Int} {n m nn s d i s' i' : Nat} {τ P : PT} {h0 g : zH} (a : oEq τ P nn s d i s' d i') (b : 2 * nn + i ≤ i') (c : oRI B n m τ P s' i' g) (f : roF h0 g) : rStR B n m τ P s d i h0 (g, none) := ⟨rfl, Or.inr ⟨nn, s', i', a, b, c, f⟩⟩
theorem rx_rs {D : zD} {T : zT} (hT : hTab T) (hO : vOK T) {B : Nat → Int} {n m : Nat} {τ P : PT} (hb : (0 ≤ P 0 0 ∧ P 0 0 ≤ 8) ∧ (0 ≤ P 0 1 ∧ P 0 1 ≤ 6) ∧ (0 ≤ P 0 2 ∧ P 0 2 ≤ 3) ∧ (0 ≤ P 0 3 ∧ P 0 3 ≤ 6)) : ∀ N : Nat, (∀ (h : zH) (s d i : Nat), d ≤ 3 → oRI B n m τ P s i h → (bW τ 20 i = 0 ∨ d = 0) → (τ 0 i ≠ 0 ∨ 0 < d) → vP D T N 304 0 h [some (2, 121), some (0, (d : Int)), none, none, none] [] (rStR B n m τ P s d i h)) ∧ (∀ (h0 h : zH) (s d i nn s0 s1 i1 : Nat) (k : Int), d + 1 ≤ 3 → s0 ≤ 29 → oEq τ P nn s d i s1 (d + 1) i1 → 2 * nn + i ≤ i1 → oRI B n m τ P s1 i1 h → roF h0 h → vP D T N 304 142 h [some (2, 121), some (0, (d : Int)), some (0, k), some (0, 1), some (0, 2477 + 9 * (s0 : Int))] [] (rStR B n m τ P s d i h0)) := by
  intro N
  induction N with
  | zero => exact ⟨fun _ _ _ _ _ _ _ _ _ n r hn => absurd hn (Nat.not_lt_zero _), fun _ _ _ _ _ _ _ _ _ _ _ _ _ _ _ _ _ n r hn => absurd hn (Nat.not_lt_zero _)⟩
  | succ N IH =>
    obtain ⟨IH1, IH2⟩ := IH
    refine ⟨fun h s d i hd o hE0 hk0 => ?_, fun h0 h s d i nn s0 s1 i1 k hd hs0 hq hni o hF => ?_⟩
    · obtain ⟨hX, ⟨e0, e1, e2, e3⟩, hN, hs, bs⟩ := o
      have o : oRI B n m τ P s i h := ⟨hX, ⟨e0, e1, e2, e3⟩, hN, hs, bs⟩
      have him : i ≤ 900 := Nat.le_trans hX.2.1 hX.2.2.1
      refine vP_hv (fun hv => ?_)
      by_cases hsw : swd τ i < 0
      · refine ro_x hT hO hv hX e0 e1 e2 e3 hN hb hs bs hd hsw (fun g e f => ?_)
        by_cases h0 : τ 0 i = 0
        · rcases hk0 with c | c
          · exact absurd h0 c
          · exact rStR_e (pOrd_0 h0 c) (by omega) e f
        · refine rStR_e (pOrd_e h0 ?_) (by omega) e f
          unfold pStep
          by_cases c : bW τ 20 i ≠ 0
          · rw [if_pos c, if_pos (by rcases hE0 with e | e; exact absurd e c; exact e)]
          · rw [if_neg c, if_pos hsw]
      · obtain ⟨h1, h3⟩ := swd_ge.mp (show 0 ≤ swd τ i by omega)
        have h0 : τ 0 i ≠ 0 := by omega
        have hE : bW τ 20 i = 0 := bW_0.mpr (fun c => by omega)
        have er : ∀ g e, pStep τ P s d i = .inl e → rE e g → roF h g → rStR B n m τ P s d i h (g, none) := fun g e q c f => rStR_e (pOrd_e h0 q) (by omega) c f
        have ih : opW (τ 3 i) = false → ∀ g s' d' i' a, pStep τ P s d i = .inr (s', d', i') → rX B n m τ i' g → g 121 25 = (0, a) → a = (s' : Int) → s' ≤ 30 → roF h g → rStR B n m τ P s d i h (g, none) := fun hop g s' d' i' a q hX' hs' ha b f => by
          subst ha
          obtain ⟨p1, p2, p3, p4⟩ := pStep_d q hE
          have hi := pStep_i q
          have p5 := p4 hop
          subst p5
          exact rStR_y (pOrd_y h0 q) (by omega) (o.go f hX' hs' b) f
        have ihb : opW (τ 3 i) = true → ∀ k : Int, ∀ g s' d' i' a, pStep τ P s d i = .inr (s', d', i') → rX B n m τ i' g → g 121 25 = (0, a) → a = (s' : Int) → s' ≤ 30 → roF h g → vP D T N 304 142 g [some (2, 121), some (0, (d : Int)), some (0, k), some (0, 1), some (0, 2477 + 9 * (s : Int))] [] (rStR B n m τ P s d i h) := fun hop k g s' d' i' a q hX' hs' ha b f => by
          subst ha
          obtain ⟨p1, p2, p3, p4⟩ := pStep_d q hE
          have hi := pStep_i q
          obtain ⟨p5, p6⟩ := p3 hop
          subst p5
          exact IH2 h g s d i 1 s s' i' k (by omega) (by omega) (pOrd_y h0 q) (by omega) (o.go f hX' hs' b) f
        have hk : τ 3 i = 8 ∨ τ 3 i = 9 ∨ τ 3 i = 10 ∨ τ 3 i = 11 ∨ τ 3 i = 12 ∨ τ 3 i = 13 ∨ τ 3 i = 14 ∨ τ 3 i = 15 ∨ τ 3 i = 19 ∨ τ 3 i = 21 := by omega
        rcases hk with h3 | h3 | h3 | h3 | h3 | h3 | h3 | h3 | h3 | h3
        · exact ro_8 hT hO hv hX e0 e1 e2 e3 hN hb hs bs hd h1 h3 (ih (by rw [h3]; rfl)) er
        · exact ro_9 hT hO hv hX e0 e1 e2 e3 hN hb hs bs hd h1 h3 (ih (by rw [h3]; rfl)) er
        · exact ro_10 hT hO hv hX e0 e1 e2 e3 hN hb hs bs hd h1 h3 (ih (by rw [h3]; rfl)) er
        · exact ro_11 hT hO hv hX e0 e1 e2 e3 hN hb hs bs hd h1 h3 (ih (by rw [h3]; rfl)) er
        · exact ro_12 hT hO hv hX e0 e1 e2 e3 hN hb hs bs hd h1 h3 (ih (by rw [h3]; rfl)) er
        · exact ro_13 hT hO hv hX e0 e1 e2 e3 hN hb hs bs hd h1 h3 (ih (by rw [h3]; rfl)) er
        · exact ro_14 hT hO hv hX e0 e1 e2 e3 hN hb hs bs hd h1 h3 (ih (by rw [h3]; rfl)) er
        · by_cases htw : twd τ (i + 1) < 0
          · exact ro_15x hT hO hv hX e0 e1 e2 e3 hN hb hs bs hd h1 h3 htw er
          · obtain ⟨h1b, h3b⟩ := twd_ge.mp (show 0 ≤ twd τ (i + 1) by omega)
            have hk : τ 3 (i + 1) = 16 ∨ τ 3 (i + 1) = 17 ∨ τ 3 (i + 1) = 18 := by omega
            rcases hk with h3b | h3b | h3b
            · exact ro_15_16 hT hO hv hX e0 e1 e2 e3 hN hb hs bs hd h1 h3 h1b h3b (ihb (by rw [h3]; rfl) 7) er
            · exact ro_15_17 hT hO hv hX e0 e1 e2 e3 hN hb hs bs hd h1 h3 h1b h3b (ihb (by rw [h3]; rfl) 7) er
            · exact ro_15_18 hT hO hv hX e0 e1 e2 e3 hN hb hs bs hd h1 h3 h1b h3b (ihb (by rw [h3]; rfl) 7) er
        · exact ro_19 hT hO hv hX e0 e1 e2 e3 hN hb hs bs hd h1 h3 (ihb (by rw [h3]; rfl) 8) er
        · exact ro_21 hT hO hv hX e0 e1 e2 e3 hN hb hs bs hd h1 h3 (ih (by rw [h3]; rfl)) er
    · obtain ⟨hX, ⟨e0, e1, e2, e3⟩, hN, hs, bs⟩ := o
      have o : oRI B n m τ P s1 i1 h := ⟨hX, ⟨e0, e1, e2, e3⟩, hN, hs, bs⟩
      have him : i1 ≤ 900 := Nat.le_trans hX.2.1 hX.2.2.1
      refine vP_hv (fun hv => ro_loop (n := n) (m := m) (B := B) hT hO k hv hX e0 e1 e2 e3 hN hb hs bs (show d ≤ 3 by omega) hs0 ?_ ?_ ?_ ?_)
      · intro c
        have R := IH1 h s1 (d + 1) i1 hd o (Or.inl c) (Or.inr (Nat.succ_pos d))
        rw [show ((d + 1 : Nat) : Int) = (d : Int) + 1 from by omega] at R
        refine vP_Q (fun r hr => ?_) R
        obtain ⟨g, v⟩ := r
        obtain ⟨h1, h2⟩ := hr
        have h1 : v = none := h1
        subst h1
        refine vP_hv (fun hv => ro_167 hT hO (d : Int) k 1 (2477 + 9 * (s0 : Int)) hv ?_)
        rcases h2 with ⟨n2, e, a1, a2, a3, a4⟩ | ⟨n2, s2, i2, a1, a2, a3, a4⟩
        · have hs2 : g 121 25 = (0, (g 121 25).2) := hv.at rfl
          refine ro_loopB hT hO k _ hv a3 hs2 hs0 ?_
          intro _ _ _ _
          exact rStR_e (hq.er a1) (by omega) (a3.z (by decide)) ((hF.trans a4).z (by omega))
        · exact IH2 h0 g s d i (nn + n2) s0 s2 i2 k hd hs0 (hq.trans a1) (by omega) a3 (hF.trans a4)
      · intro c g6 f6 _ hX6 g9 f9 c9 hX9 _ _
        have h0' : τ 0 i1 ≠ 0 := by
          have := (bW_y.mp c).1
          omega
        have q : pStep τ P s1 (d + 1) i1 = .inr (s1, d, i1 + 1 + 1) := by
          unfold pStep
          rw [if_pos c, if_neg (by omega), pSg_y c9, eb_r]
          rfl
        have f : roF h (zset g9 126 (2477 + 9 * (s0 : Int) + 8).toNat (0, (s1 : Int))) := ((roF.rfl.t f6).t f9).z (by omega)
        exact rStR_y (hq.trans (pOrd_y h0' q)) (by omega) (o.go f (hX9.z (by decide)) ((zset_ne (fun c => absurd c.1 (by decide))).trans ((f9 121 25 (fun c => by omega)).trans ((f6 121 25 (fun c => by omega)).trans hs))) bs) (hF.trans f)
      · intro c g6 f6 _ hX6 g10 f10 c10 e10 _ _
        have h0' : τ 0 i1 ≠ 0 := by
          have := (bW_y.mp c).1
          omega
        have q : pStep τ P s1 (d + 1) i1 = .inl (eF τ (i1 + 1) 2) := by
          unfold pStep
          rw [if_pos c, if_neg (by omega), pSg_n (fun f => f c10), eb_l]
        exact rStR_e (hq.er (pOrd_e h0' q)) (by omega) (e10.z (by decide)) ((hF.trans ((roF.rfl.t f6).t f10)).z (by omega))
      · intro c g7 f7 c7
        exact absurd c7 c
