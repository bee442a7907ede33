/-! printed by wip/l/gent4.py: the reference reads a LAND -/
theorem qr_cell_2200 {D : zD} {T : zT} (hT : hTab T) (hO : vOK T) {N : Nat} {h : zH} {Q : zR → Prop} {B : Nat → Int} {n m i : Nat} {τ : PT} (w R : Int) (hv0 : zHv h) (hX : rX B n m τ i h) (hw : h 126 2200 = (0, w)) (hr : h 126 2201 = (0, R)) (bw : 0 ≤ w ∧ w ≤ 8) (br : 0 ≤ R ∧ R ≤ 6)
    (k0 : ∀ (g4 : zH) (x3 : Int), (qF h g4) → (pNum τ 0 ((w - 1)) i = .inr (x3, i + 1)) → (0 ≤ x3) → (x3 ≤ (w - 1)) → (rX B n m τ (i + 1) g4) → ∀ (g9 : zH) (x8 : Int), (qF g4 g9) → (pNum τ 0 ((R - 1)) (i + 1) = .inr (x8, i + 1 + 1)) → (0 ≤ x8) → (x8 ≤ (R - 1)) → (rX B n m τ (i + 1 + 1) g9) → Q (g9, some (0, ((w * x8) + x3))))
    (k1 : ∀ (g4 : zH) (x3 : Int), (qF h g4) → (pNum τ 0 ((w - 1)) i = .inr (x3, i + 1)) → (0 ≤ x3) → (x3 ≤ (w - 1)) → (rX B n m τ (i + 1) g4) → ∀ (g10 : zH) (e10 : Er), (qF g4 g10) → (pNum τ 0 ((R - 1)) (i + 1) = .inl e10) → (rE e10 g10) → Q (g10, some (0, ((w * 0) + x3))))
    (k2 : ∀ (g5 : zH) (e5 : Er), (qF h g5) → (pNum τ 0 ((w - 1)) i = .inl e5) → (rE e5 g5) → Q (g5, some (0, ((w * 0) + 0)))) :
    vP D T N 295 0 h [some (2, 121), some (0, 2200), none, none] [] Q := by
  refine v_load (v := (2, 121)) (hi_X12_readCell_0 hT) rfl rfl ?_
  refine v_push (0) (hi_X12_readCell_1 hT) rfl ?_
  refine v_load (v := (2, 121)) (hi_X12_readCell_2 hT) rfl rfl ?_
  refine v_getR (c := 126) (r := 121) (hi_X12_readCell_3 hT) rfl rfl rfl ?_
  refine v_load (v := (0, 2200)) (hi_X12_readCell_6 hT) rfl rfl ?_
  refine v_aldV (v := (0, w)) (r := 126) (hi_X12_readCell_7 hT) rfl rfl (fun _ _ _ => hw) (fun ha1 hb2 => ?_)
  refine v_push (1) (hi_X12_readCell_8 hT) rfl ?_
  refine v_bin (w := (w - 1)) (hi_X12_readCell_9 hT) (hq_sub (by omega) (by omega)) ?_
  refine v_call (w := 4) [some (2, 121), some (0, 0), some (0, (w - 1)), none] hO (hi_X12_readCell_10 hT) rfl rfl (rx_num hT hO 0 ((w - 1)) hX (fun g4 x3 ft4 q4 bux3 bvx3 hX4 => ?_) (fun g5 e5 ft5 q5 c5 => ?_))
  · show vP D T N 295 13 g4 [some (2, 121), some (0, 2200), none, none] [(0, x3)] _
    refine vP_hv (fun hv4 => ?_)
    refine v_store1 [some (2, 121), some (0, 2200), some (0, x3), none] (hi_X12_readCell_13 hT) ⟨rfl, Nat.ne_of_beq_eq_false rfl⟩ (Nat.le_of_ble_eq_true rfl) rfl ?_
    refine v_load (v := (2, 121)) (hi_X12_readCell_14 hT) rfl rfl ?_
    refine v_push (0) (hi_X12_readCell_15 hT) rfl ?_
    refine v_load (v := (2, 121)) (hi_X12_readCell_16 hT) rfl rfl ?_
    refine v_getR (c := 126) (r := 121) (hi_X12_readCell_17 hT) rfl rfl rfl ?_
    refine v_load (v := (0, 2200)) (hi_X12_readCell_20 hT) rfl rfl ?_
    refine v_push (1) (hi_X12_readCell_21 hT) rfl ?_
    refine v_bin (w := 2201) (hi_X12_readCell_22 hT) (by decide) ?_
    refine v_aldV (v := (0, R)) (r := 126) (hi_X12_readCell_23 hT) rfl rfl (fun _ _ _ => (Eq.trans (ft4 126 2201 (by first | decide | exact fun c => by omega)) hr)) (fun ha6 hb7 => ?_)
    refine v_push (1) (hi_X12_readCell_24 hT) rfl ?_
    refine v_bin (w := (R - 1)) (hi_X12_readCell_25 hT) (hq_sub (by omega) (by omega)) ?_
    refine v_call (w := 4) [some (2, 121), some (0, 0), some (0, (R - 1)), none] hO (hi_X12_readCell_26 hT) rfl rfl (rx_num hT hO 0 ((R - 1)) hX4 (fun g9 x8 ft9 q9 bux8 bvx8 hX9 => ?_) (fun g10 e10 ft10 q10 c10 => ?_))
    · show vP D T N 295 29 g9 [some (2, 121), some (0, 2200), some (0, x3), none] [(0, x8)] _
      refine vP_hv (fun hv9 => ?_)
      refine v_store1 [some (2, 121), some (0, 2200), some (0, x3), some (0, x8)] (hi_X12_readCell_29 hT) ⟨rfl, Nat.ne_of_beq_eq_false rfl⟩ (Nat.le_of_ble_eq_true rfl) rfl ?_
      refine v_load (v := (2, 121)) (hi_X12_readCell_30 hT) rfl rfl ?_
      refine v_getR (c := 126) (r := 121) (hi_X12_readCell_31 hT) rfl rfl rfl ?_
      refine v_load (v := (0, 2200)) (hi_X12_readCell_34 hT) rfl rfl ?_
      refine v_aldV (v := (0, w)) (r := 126) (hi_X12_readCell_35 hT) rfl rfl (fun _ _ _ => (Eq.trans (ft9 126 2200 (by first | decide | exact fun c => by omega)) (Eq.trans (ft4 126 2200 (by first | decide | exact fun c => by omega)) hw))) (fun ha11 hb12 => ?_)
      refine v_load (v := (0, x8)) (hi_X12_readCell_36 hT) rfl rfl ?_
      refine v_bin (w := (w * x8)) (hi_X12_readCell_37 hT) (hq_mulB (by omega) (by omega)) ?_
      refine v_load (v := (0, x3)) (hi_X12_readCell_38 hT) rfl rfl ?_
      refine v_bin (w := ((w * x8) + x3)) (hi_X12_readCell_39 hT) (hq_addB (by omega) (by omega) (by omega)) ?_
      refine v_ret (hi_X12_readCell_40 hT) (Or.inl rfl) ?_
      exact k0 g4 x3 ft4 q4 bux3 bvx3 hX4 g9 x8 ft9 q9 bux8 bvx8 hX9
    · show vP D T N 295 29 g10 [some (2, 121), some (0, 2200), some (0, x3), none] [(0, 0)] _
      refine vP_hv (fun hv10 => ?_)
      refine v_store1 [some (2, 121), some (0, 2200), some (0, x3), some (0, 0)] (hi_X12_readCell_29 hT) ⟨rfl, Nat.ne_of_beq_eq_false rfl⟩ (Nat.le_of_ble_eq_true rfl) rfl ?_
      refine v_load (v := (2, 121)) (hi_X12_readCell_30 hT) rfl rfl ?_
      refine v_getR (c := 126) (r := 121) (hi_X12_readCell_31 hT) rfl rfl rfl ?_
      refine v_load (v := (0, 2200)) (hi_X12_readCell_34 hT) rfl rfl ?_
      refine v_aldV (v := (0, w)) (r := 126) (hi_X12_readCell_35 hT) rfl rfl (fun _ _ _ => (Eq.trans (ft10 126 2200 (by first | decide | exact fun c => by omega)) (Eq.trans (ft4 126 2200 (by first | decide | exact fun c => by omega)) hw))) (fun ha13 hb14 => ?_)
      refine v_load (v := (0, 0)) (hi_X12_readCell_36 hT) rfl rfl ?_
      refine v_bin (w := (w * 0)) (hi_X12_readCell_37 hT) (hq_mulB (by omega) (by omega)) ?_
      refine v_load (v := (0, x3)) (hi_X12_readCell_38 hT) rfl rfl ?_
      refine v_bin (w := ((w * 0) + x3)) (hi_X12_readCell_39 hT) (hq_addB (by omega) (by omega) (by omega)) ?_
      refine v_ret (hi_X12_readCell_40 hT) (Or.inl rfl) ?_
      exact k1 g4 x3 ft4 q4 bux3 bvx3 hX4 g10 e10 ft10 q10 c10
  · show vP D T N 295 13 g5 [some (2, 121), some (0, 2200), none, none] [(0, 0)] _
    refine vP_hv (fun hv5 => ?_)
    refine v_store1 [some (2, 121), some (0, 2200), some (0, 0), none] (hi_X12_readCell_13 hT) ⟨rfl, Nat.ne_of_beq_eq_false rfl⟩ (Nat.le_of_ble_eq_true rfl) rfl ?_
    refine v_load (v := (2, 121)) (hi_X12_readCell_14 hT) rfl rfl ?_
    refine v_push (0) (hi_X12_readCell_15 hT) rfl ?_
    refine v_load (v := (2, 121)) (hi_X12_readCell_16 hT) rfl rfl ?_
    refine v_getR (c := 126) (r := 121) (hi_X12_readCell_17 hT) rfl rfl rfl ?_
    refine v_load (v := (0, 2200)) (hi_X12_readCell_20 hT) rfl rfl ?_
    refine v_push (1) (hi_X12_readCell_21 hT) rfl ?_
    refine v_bin (w := 2201) (hi_X12_readCell_22 hT) (by decide) ?_
    refine v_aldV (v := (0, R)) (r := 126) (hi_X12_readCell_23 hT) rfl rfl (fun _ _ _ => (Eq.trans (ft5 126 2201 (by first | decide | exact fun c => by omega)) hr)) (fun ha15 hb16 => ?_)
    refine v_push (1) (hi_X12_readCell_24 hT) rfl ?_
    refine v_bin (w := (R - 1)) (hi_X12_readCell_25 hT) (hq_sub (by omega) (by omega)) ?_
    refine v_call (w := 4) [some (2, 121), some (0, 0), some (0, (R - 1)), none] hO (hi_X12_readCell_26 hT) rfl rfl (rx_numB hT hO 0 ((R - 1)) c5 ?_)
    · show vP D T N 295 29 g5 [some (2, 121), some (0, 2200), some (0, 0), none] [(0, 0)] _
      refine v_store1 [some (2, 121), some (0, 2200), some (0, 0), some (0, 0)] (hi_X12_readCell_29 hT) ⟨rfl, Nat.ne_of_beq_eq_false rfl⟩ (Nat.le_of_ble_eq_true rfl) rfl ?_
      refine v_load (v := (2, 121)) (hi_X12_readCell_30 hT) rfl rfl ?_
      refine v_getR (c := 126) (r := 121) (hi_X12_readCell_31 hT) rfl rfl rfl ?_
      refine v_load (v := (0, 2200)) (hi_X12_readCell_34 hT) rfl rfl ?_
      refine v_aldV (v := (0, w)) (r := 126) (hi_X12_readCell_35 hT) rfl rfl (fun _ _ _ => (Eq.trans (ft5 126 2200 (by first | decide | exact fun c => by omega)) hw)) (fun ha17 hb18 => ?_)
      refine v_load (v := (0, 0)) (hi_X12_readCell_36 hT) rfl rfl ?_
      refine v_bin (w := (w * 0)) (hi_X12_readCell_37 hT) (hq_mulB (by omega) (by omega)) ?_
      refine v_load (v := (0, 0)) (hi_X12_readCell_38 hT) rfl rfl ?_
      refine v_bin (w := ((w * 0) + 0)) (hi_X12_readCell_39 hT) (hq_addB (by omega) (by omega) (by omega)) ?_
      refine v_ret (hi_X12_readCell_40 hT) (Or.inl rfl) ?_
      exact k2 g5 e5 ft5 q5 c5
theorem qr_cellB_2200 {D : zD} {T : zT} (hT : hTab T) (hO : vOK T) {N : Nat} {h : zH} {Q : zR → Prop} {e : Er} (w R : Int) (hv0 : zHv h) (hB : rE e h) (hw : h 126 2200 = (0, w)) (hr : h 126 2201 = (0, R)) (bw : 0 ≤ w ∧ w ≤ 8) (br : 0 ≤ R ∧ R ≤ 6)
    (k0 : Q (h, some (0, ((w * 0) + 0)))) :
    vP D T N 295 0 h [some (2, 121), some (0, 2200), none, none] [] Q := by
  refine v_load (v := (2, 121)) (hi_X12_readCell_0 hT) rfl rfl ?_
  refine v_push (0) (hi_X12_readCell_1 hT) rfl ?_
  refine v_load (v := (2, 121)) (hi_X12_readCell_2 hT) rfl rfl ?_
  refine v_getR (c := 126) (r := 121) (hi_X12_readCell_3 hT) rfl rfl rfl ?_
  refine v_load (v := (0, 2200)) (hi_X12_readCell_6 hT) rfl rfl ?_
  refine v_aldV (v := (0, w)) (r := 126) (hi_X12_readCell_7 hT) rfl rfl (fun _ _ _ => hw) (fun ha1 hb2 => ?_)
  refine v_push (1) (hi_X12_readCell_8 hT) rfl ?_
  refine v_bin (w := (w - 1)) (hi_X12_readCell_9 hT) (hq_sub (by omega) (by omega)) ?_
  refine v_call (w := 4) [some (2, 121), some (0, 0), some (0, (w - 1)), none] hO (hi_X12_readCell_10 hT) rfl rfl (rx_numB hT hO 0 ((w - 1)) hB ?_)
  · show vP D T N 295 13 h [some (2, 121), some (0, 2200), none, none] [(0, 0)] _
    refine v_store1 [some (2, 121), some (0, 2200), some (0, 0), none] (hi_X12_readCell_13 hT) ⟨rfl, Nat.ne_of_beq_eq_false rfl⟩ (Nat.le_of_ble_eq_true rfl) rfl ?_
    refine v_load (v := (2, 121)) (hi_X12_readCell_14 hT) rfl rfl ?_
    refine v_push (0) (hi_X12_readCell_15 hT) rfl ?_
    refine v_load (v := (2, 121)) (hi_X12_readCell_16 hT) rfl rfl ?_
    refine v_getR (c := 126) (r := 121) (hi_X12_readCell_17 hT) rfl rfl rfl ?_
    refine v_load (v := (0, 2200)) (hi_X12_readCell_20 hT) rfl rfl ?_
    refine v_push (1) (hi_X12_readCell_21 hT) rfl ?_
    refine v_bin (w := 2201) (hi_X12_readCell_22 hT) (by decide) ?_
    refine v_aldV (v := (0, R)) (r := 126) (hi_X12_readCell_23 hT) rfl rfl (fun _ _ _ => hr) (fun ha3 hb4 => ?_)
    refine v_push (1) (hi_X12_readCell_24 hT) rfl ?_
    refine v_bin (w := (R - 1)) (hi_X12_readCell_25 hT) (hq_sub (by omega) (by omega)) ?_
    refine v_call (w := 4) [some (2, 121), some (0, 0), some (0, (R - 1)), none] hO (hi_X12_readCell_26 hT) rfl rfl (rx_numB hT hO 0 ((R - 1)) hB ?_)
    · show vP D T N 295 29 h [some (2, 121), some (0, 2200), some (0, 0), none] [(0, 0)] _
      refine v_store1 [some (2, 121), some (0, 2200), some (0, 0), some (0, 0)] (hi_X12_readCell_29 hT) ⟨rfl, Nat.ne_of_beq_eq_false rfl⟩ (Nat.le_of_ble_eq_true rfl) rfl ?_
      refine v_load (v := (2, 121)) (hi_X12_readCell_30 hT) rfl rfl ?_
      refine v_getR (c := 126) (r := 121) (hi_X12_readCell_31 hT) rfl rfl rfl ?_
      refine v_load (v := (0, 2200)) (hi_X12_readCell_34 hT) rfl rfl ?_
      refine v_aldV (v := (0, w)) (r := 126) (hi_X12_readCell_35 hT) rfl rfl (fun _ _ _ => hw) (fun ha5 hb6 => ?_)
      refine v_load (v := (0, 0)) (hi_X12_readCell_36 hT) rfl rfl ?_
      refine v_bin (w := (w * 0)) (hi_X12_readCell_37 hT) (hq_mulB (by omega) (by omega)) ?_
      refine v_load (v := (0, 0)) (hi_X12_readCell_38 hT) rfl rfl ?_
      refine v_bin (w := ((w * 0) + 0)) (hi_X12_readCell_39 hT) (hq_addB (by omega) (by omega) (by omega)) ?_
      refine v_ret (hi_X12_readCell_40 hT) (Or.inl rfl) ?_
      exact k0 
theorem rx_cell_2200 {D : zD} {T : zT} {N : Nat} {h : zH} {Q : zR → Prop} {B : Nat → Int} {n m i : Nat} {τ : PT} (hT : hTab T) (hO : vOK T) (w R : Int) (hX : rX B n m τ i h) (hw : h 126 2200 = (0, w)) (hr : h 126 2201 = (0, R)) (bw : 0 ≤ w ∧ w ≤ 8) (br : 0 ≤ R ∧ R ≤ 6) (k1 : ∀ g x y, qF h g → pCell τ w R i = .inr (x, y, i + 1 + 1) → 0 ≤ x → x ≤ w - 1 → 0 ≤ y → y ≤ R - 1 → 0 ≤ w * y → w * y + x ≤ 47 → rX B n m τ (i + 1 + 1) g → Q (g, some (0, w * y + x))) (k2 : ∀ g e v, qF h g → pCell τ w R i = .inl e → 0 ≤ v → v ≤ 47 → rE e g → Q (g, some (0, v))) : vP D T N 295 0 h [some (2, 121), some (0, 2200), none, none] [] Q := by
  refine vP_hv (fun hv => qr_cell_2200 hT hO w R hv hX hw hr bw br ?_ ?_ ?_)
  · intro g x f q b1 b2 hX1 g' y f' q' b3 b4 hX2
    have cb := cellb bw br b1 b2 b3 b4
    exact k1 g' x y (f.trans f') (by simp only [pCell, q, q', eb_r]) b1 b2 b3 b4 cb.1 cb.2 hX2
  · intro g x f q b1 b2 hX1 g' e f' q' c'
    refine k2 g' e _ (f.trans f') (by simp only [pCell, q, q', eb_r, eb_l]) ?_ ?_ c' <;> rw [Int.mul_zero] <;> omega
  · intro g e f q c
    refine k2 g e _ f (by simp only [pCell, q, eb_l]) ?_ ?_ c <;> rw [Int.mul_zero] <;> omega
theorem rx_cellB_2200 {D : zD} {T : zT} {N : Nat} {h : zH} {Q : zR → Prop} {e : Er} (hT : hTab T) (hO : vOK T) (w R : Int) (hB : rE e h) (hw : h 126 2200 = (0, w)) (hr : h 126 2201 = (0, R)) (bw : 0 ≤ w ∧ w ≤ 8) (br : 0 ≤ R ∧ R ≤ 6) (k : ∀ v, 0 ≤ v → v ≤ 47 → Q (h, some (0, v))) : vP D T N 295 0 h [some (2, 121), some (0, 2200), none, none] [] Q := by
  refine vP_hv (fun hv => qr_cellB_2200 hT hO w R hv hB hw hr bw br ?_)
  refine k _ ?_ ?_ <;> rw [Int.mul_zero] <;> omega
theorem qr_named0 {D : zD} {T : zT} (hT : hTab T) (hO : vOK T) {N : Nat} {h : zH} {Q : zR → Prop} (k : Int) (hv0 : zHv h)
    (k0 : vP D T N 283 2 h [some (2, 121), some (0, 4), some (0, k), some (0, 0)] [] Q) :
    vP D T N 283 0 h [some (2, 121), some (0, 4), some (0, k), none] [] Q := by
  refine v_push (0) (hz_X12_named hT _ _ rfl) rfl ?_
  refine v_store1 [some (2, 121), some (0, 4), some (0, k), some (0, 0)] (hz_X12_named hT _ _ rfl) ⟨rfl, Nat.ne_of_beq_eq_false rfl⟩ (Nat.le_of_ble_eq_true rfl) rfl ?_
  exact k0 
theorem qr_named2 {D : zD} {T : zT} (hT : hTab T) (hO : vOK T) {N : Nat} {h : zH} {Q : zR → Prop} {B : Nat → Int} {n m i : Nat} {τ : PT} (k j : Int) (hv0 : zHv h) (hX : rX B n m τ i h) (h1 : τ 0 i = 1) (hj : 0 ≤ j ∧ j ≤ 6)
    (k0 : (j < k) → (0 ≤ (24 + j)) → ((24 + j) < 30) → ((h 128 ((24 + j)).toNat).2 = (τ 4 i)) → Q (h, some (0, j)))
    (k1 : (j < k) → (0 ≤ (24 + j)) → ((24 + j) < 30) → ((h 128 ((24 + j)).toNat).2 ≠ (τ 4 i)) → vP D T N 283 2 h [some (2, 121), some (0, 4), some (0, k), some (0, (j + 1))] [] Q)
    (k2 : (k ≤ j) → Q (h, some (0, -1))) :
    vP D T (N + 1) 283 2 h [some (2, 121), some (0, 4), some (0, k), some (0, j)] [] Q := by
  refine v_loadS (v := (0, j)) (hz_X12_named hT _ _ rfl) rfl rfl ?_
  refine v_load (v := (0, k)) (hz_X12_named hT _ _ rfl) rfl rfl ?_
  refine v_ic (hz_X12_named hT _ _ rfl) (fun hc1 => ?_) (fun hc1 => ?_)
  · have hc1 : j < k := hc1
    refine v_load (v := (2, 121)) (hz_X12_named hT _ _ rfl) rfl rfl ?_
    refine v_getR (c := 128) (r := 121) (hz_X12_named hT _ _ rfl) rfl rfl rfl ?_
    refine v_push (6) (hz_X12_named hT _ _ rfl) rfl ?_
    refine v_load (v := (0, 4)) (hz_X12_named hT _ _ rfl) rfl rfl ?_
    refine v_bin (w := 24) (hz_X12_named hT _ _ rfl) (by decide) ?_
    refine v_load (v := (0, j)) (hz_X12_named hT _ _ rfl) rfl rfl ?_
    refine v_bin (w := (24 + j)) (hz_X12_named hT _ _ rfl) (hq_add (by omega) (by omega)) ?_
    refine v_ald (t := 1) (r := 128) (hz_X12_named hT _ _ rfl) rfl rfl rfl (fun ha2 hb3 => ?_)
    refine v_load (v := (2, 121)) (hz_X12_named hT _ _ rfl) rfl rfl ?_
    refine v_getf (v := (1, (τ 4 i))) (r := 121) (hz_X12_named hT _ _ rfl) rfl rfl (fun _ => (hX.wd h1)) ?_
    refine v_lif (hz_X12_named hT _ _ rfl) (hz_X12_named hT _ _ rfl) (fun hc4 => ?_) (fun hc4 => ?_)
    · have hc4 : (h 128 ((24 + j)).toNat).2 = (τ 4 i) := hc4
      refine v_load (v := (0, j)) (hz_X12_named hT _ _ rfl) rfl rfl ?_
      refine v_ret (hz_X12_named hT _ _ rfl) (Or.inl rfl) ?_
      exact k0 hc1 ha2 hb3 hc4
    · have hc4 : (h 128 ((24 + j)).toNat).2 ≠ (τ 4 i) := hc4
      refine v_iinc (x := j) (u := 1) (w := (j + 1)) [some (2, 121), some (0, 4), some (0, k), some (0, (j + 1))] (hz_X12_named hT _ _ rfl) rfl rfl (Nat.le_of_ble_eq_true rfl) (vz_inc (by omega) (by omega)) rfl ?_
      refine v_goto (hz_X12_named hT _ _ rfl) ?_
      exact k1 hc1 ha2 hb3 hc4
  · have hc1 : k ≤ j := Int.not_lt.mp hc1
    refine v_push (-1) (hz_X12_named hT _ _ rfl) rfl ?_
    refine v_ret (hz_X12_named hT _ _ rfl) (Or.inl rfl) ?_
    exact k2 hc1
theorem rx_named_4 {D : zD} {T : zT} {N : Nat} {h : zH} {Q : zR → Prop} {B : Nat → Int} {n m i : Nat} {τ P : PT} (hT : hTab T) (hO : vOK T) (hX : rX B n m τ i h) (h1 : τ 0 i = 1) (hL : rL P h) (hb : 0 ≤ P 0 3 ∧ P 0 3 ≤ 6) (k : Q (h, some (0, pIx (P 4) (τ 4 i) (P 0 3).toNat 0))) : vP D T N 283 0 h [some (2, 121), some (0, 4), some (0, P 0 3), none] [] Q := by
  refine vP_hv (fun hv => qr_named0 hT hO (P 0 3) hv ?_)
  refine vP_loop (fun h' l => h' = h ∧ ∃ j : Nat, j ≤ (P 0 3).toNat ∧ l = [some (2, 121), some (0, 4), some (0, P 0 3), some (0, (j : Int))] ∧ pIx (P 4) (τ 4 i) (P 0 3).toNat 0 = pIx (P 4) (τ 4 i) ((P 0 3).toNat - j) j) ?_ N _ _ ⟨rfl, 0, Nat.zero_le _, rfl, rfl⟩
  rintro N h' l ⟨rfl, j, hj, rfl, he⟩ ih
  rw [he] at k
  have ej : ((24 + (j : Int))).toNat = 24 + j := by omega
  refine vP_hv (fun hv => qr_named2 hT hO (P 0 3) j hv hX h1 ⟨by omega, by omega⟩ ?_ ?_ ?_)
  · intro c1 _ _ c2
    rw [ej, (hL.2.2.1 j c1).1] at c2
    rw [show (P 0 3).toNat - j = ((P 0 3).toNat - j - 1) + 1 from by omega] at k
    have k : Q (h', some (0, if P 4 j = τ 4 i then (j : Int) else pIx (P 4) (τ 4 i) ((P 0 3).toNat - j - 1) (j + 1))) := k
    rw [if_pos c2] at k
    exact k
  · intro c1 _ _ c2
    rw [ej, (hL.2.2.1 j c1).1] at c2
    refine ih _ _ ⟨rfl, j + 1, by omega, rfl, ?_⟩
    rw [he, show (P 0 3).toNat - j = ((P 0 3).toNat - (j + 1)) + 1 from by omega]
    exact if_neg c2
  · intro c1
    rw [show (P 0 3).toNat - j = 0 from by omega] at k
    exact k
theorem rx_rise {D : zD} {T : zT} (hT : hTab T) (hO : vOK T) {N : Nat} {h : zH} {B : Nat → Int} {n m i : Nat} {τ P : PT} (hv0 : zHv h) (hX : rX B n m τ i h) (hL : rL P h) (hb : (0 ≤ P 0 0 ∧ P 0 0 ≤ 8) ∧ (0 ≤ P 0 1 ∧ P 0 1 ≤ 6) ∧ (0 ≤ P 0 2 ∧ P 0 2 ≤ 3) ∧ (0 ≤ P 0 3 ∧ P 0 3 ≤ 6)) (h1 : bW τ 2 i ≠ 0) :
    vP D T N 302 0 h [some (2, 121), none, none] [] (rRd B n m τ (pRise τ P i) h) := by
  refine v_load (v := (2, 121)) (hz_X12_readRise hT _ _ rfl) rfl rfl ?_
  refine v_call (w := 2) [some (2, 121), none] hO (hz_X12_readRise hT _ _ rfl) rfl rfl (rx_next hT hO hX (ne_10 (bW_y.mp h1).1) (ne_14 (bW_y.mp h1).1) (fun g1 ft1 hX1 => ?_))
  · show vP D T N 302 4 g1 [some (2, 121), none, none] [] _
    refine vP_hv (fun hv1 => ?_)
    refine v_load (v := (2, 121)) (hz_X12_readRise hT _ _ rfl) rfl rfl ?_
    refine v_push (2200) (hz_X12_readRise hT _ _ rfl) rfl ?_
    refine v_call (w := 4) [some (2, 121), some (0, 2200), none, none] hO (hz_X12_readRise hT _ _ rfl) rfl rfl (rx_cell_2200 hT hO ((P 0 0)) ((P 0 1)) hX1 (Eq.trans (ft1 126 2200 (by first | decide | exact fun c => by omega)) hL.w) (Eq.trans (ft1 126 2201 (by first | decide | exact fun c => by omega)) hL.ro) (by omega) (by omega) (fun g3 x2 y2 ft3 q3 bax2 bbx2 bcx2 bdx2 bex2 bfx2 hX3 => ?_) (fun g4 e4 v2 ft4 q4 bva2 bvb2 c4 => ?_))
    · show vP D T N 302 11 g3 [some (2, 121), none, none] [(0, (P 0 0 * y2 + x2))] _
      refine vP_hv (fun hv3 => ?_)
      refine v_store1 [some (2, 121), some (0, (P 0 0 * y2 + x2)), none] (hz_X12_readRise hT _ _ rfl) ⟨rfl, Nat.ne_of_beq_eq_false rfl⟩ (Nat.le_of_ble_eq_true rfl) rfl ?_
      refine v_load (v := (2, 121)) (hz_X12_readRise hT _ _ rfl) rfl rfl ?_
      refine v_load (v := (2, 121)) (hz_X12_readRise hT _ _ rfl) rfl rfl ?_
      refine v_call (w := 1) [some (2, 121)] hO (hz_X12_readRise hT _ _ rfl) rfl rfl (rx_isBy hT hO hX3 ?_)
      · show vP D T N 302 17 g3 [some (2, 121), some (0, (P 0 0 * y2 + x2)), none] [(0, (bW τ 3 (i + 1 + 1 + 1))), (2, 121)] _
        refine v_call (w := 2) [some (2, 121), some (0, (bW τ 3 (i + 1 + 1 + 1)))] hO (hz_X12_readRise hT _ _ rfl) rfl rfl (rx_must hT hO ((bW τ 3 (i + 1 + 1 + 1))) hX3 (fun c => ⟨ne_10 (bW_y.mp c).1, ne_14 (bW_y.mp c).1⟩) (fun g6 ft6 hc5 hX6 => ?_) (fun g7 ft7 hc7 c7 => ?_))
        · show vP D T N 302 20 g6 [some (2, 121), some (0, (P 0 0 * y2 + x2)), none] [] _
          refine vP_hv (fun hv6 => ?_)
          refine v_load (v := (2, 121)) (hz_X12_readRise hT _ _ rfl) rfl rfl ?_
          refine v_push (0) (hz_X12_readRise hT _ _ rfl) rfl ?_
          refine v_push (9) (hz_X12_readRise hT _ _ rfl) rfl ?_
          refine v_call (w := 4) [some (2, 121), some (0, 0), some (0, 9), none] hO (hz_X12_readRise hT _ _ rfl) rfl rfl (rx_num hT hO 0 9 hX6 (fun g9 x8 ft9 q9 bux8 bvx8 hX9 => ?_) (fun g10 e10 ft10 q10 c10 => ?_))
          · show vP D T N 302 27 g9 [some (2, 121), some (0, (P 0 0 * y2 + x2)), none] [(0, x8)] _
            refine vP_hv (fun hv9 => ?_)
            refine v_store1 [some (2, 121), some (0, (P 0 0 * y2 + x2)), some (0, x8)] (hi_X12_readRise_27 hT) ⟨rfl, Nat.ne_of_beq_eq_false rfl⟩ (Nat.le_of_ble_eq_true rfl) rfl ?_
            refine v_load (v := (2, 121)) (hi_X12_readRise_28 hT) rfl rfl ?_
            refine v_getf (v := (0, 0)) (r := 121) (hi_X12_readRise_29 hT) rfl rfl (fun _ => hX9.b) ?_
            refine v_if (hi_X12_readRise_32 hT) (fun _ => ?_) (fun hc11 => absurd (show (0 : Int) = 0 from (by decide)) hc11)
            refine v_load (v := (2, 121)) (hz_X12_readRise hT _ _ rfl) rfl rfl ?_
            refine v_getR (c := 126) (r := 121) (hz_X12_readRise hT _ _ rfl) rfl rfl rfl ?_
            refine v_push (2253) (hz_X12_readRise hT _ _ rfl) rfl ?_
            refine v_load (v := (0, (P 0 0 * y2 + x2))) (hz_X12_readRise hT _ _ rfl) rfl rfl ?_
            refine v_bin (w := (2253 + (P 0 0 * y2 + x2))) (hz_X12_readRise hT _ _ rfl) (hq_add (by omega) (by omega)) ?_
            refine v_load (v := (0, x8)) (hz_X12_readRise hT _ _ rfl) rfl rfl ?_
            refine v_ast (r := 126) (hz_X12_readRise hT _ _ rfl) rfl rfl (fun ha12 hb13 hf14 => ?_)
            refine v_ret0 (hi_X12_readRise_46 hT) ?_
            exact rRd_y (P := (pset P 2 (pCl x2 y2) x8)) (j := i + 1 + 1 + 1 + 1 + 1) (by simp only [pRise, pWord, q3, hc5, q9, ne_eq, not_true_eq_false, not_false_eq_true, if_true, if_false, eq_self, eb_l, eb_r]) (rX.z (r := 126) (k := (((2253 + (P 0 0 * y2 + x2))).toNat)) (v := (0, x8)) (by decide) hX9) (rL.rise (x := x2) (y := y2) (v := x8) (by omega) (by omega) (by omega) (by omega) (by omega) (rL.qf (rL.qf (rL.qf (rL.qf hL ft1) ft3) ft6) ft9)) (rF.z (a := 126) (b := (((2253 + (P 0 0 * y2 + x2))).toNat)) (v := (0, x8)) (by omega) (rF.t (rF.t (rF.t (rF.t rF.rfl ft1) ft3) ft6) ft9)) (show (0 ≤ P 0 0 ∧ P 0 0 ≤ 8) ∧ (0 ≤ P 0 1 ∧ P 0 1 ≤ 6) ∧ (0 ≤ P 0 2 ∧ P 0 2 ≤ 3) ∧ (0 ≤ P 0 3 ∧ P 0 3 ≤ 6) from by omega)
          · show vP D T N 302 27 g10 [some (2, 121), some (0, (P 0 0 * y2 + x2)), none] [(0, 0)] _
            refine vP_hv (fun hv10 => ?_)
            refine v_store1 [some (2, 121), some (0, (P 0 0 * y2 + x2)), some (0, 0)] (hi_X12_readRise_27 hT) ⟨rfl, Nat.ne_of_beq_eq_false rfl⟩ (Nat.le_of_ble_eq_true rfl) rfl ?_
            refine v_load (v := (2, 121)) (hi_X12_readRise_28 hT) rfl rfl ?_
            refine v_getf (v := (0, e10.1)) (r := 121) (hi_X12_readRise_29 hT) rfl rfl (fun _ => c10.1) ?_
            refine v_if (hi_X12_readRise_32 hT) (fun hc15 => absurd (show e10.1 = 0 from hc15) (by have := c10.2.1; omega)) (fun _ => ?_)
            refine v_ret0 (hi_X12_readRise_46 hT) ?_
            exact rRd_n (e := e10) (by simp only [pRise, pWord, q3, hc5, q10, ne_eq, not_true_eq_false, not_false_eq_true, if_true, if_false, eq_self, eb_l, eb_r]) c10 (rF.t (rF.t (rF.t (rF.t rF.rfl ft1) ft3) ft6) ft10)
        · show vP D T N 302 20 g7 [some (2, 121), some (0, (P 0 0 * y2 + x2)), none] [] _
          refine vP_hv (fun hv7 => ?_)
          refine v_load (v := (2, 121)) (hz_X12_readRise hT _ _ rfl) rfl rfl ?_
          refine v_push (0) (hz_X12_readRise hT _ _ rfl) rfl ?_
          refine v_push (9) (hz_X12_readRise hT _ _ rfl) rfl ?_
          refine v_call (w := 4) [some (2, 121), some (0, 0), some (0, 9), none] hO (hz_X12_readRise hT _ _ rfl) rfl rfl (rx_numB hT hO 0 9 c7 ?_)
          · show vP D T N 302 27 g7 [some (2, 121), some (0, (P 0 0 * y2 + x2)), none] [(0, 0)] _
            refine v_store1 [some (2, 121), some (0, (P 0 0 * y2 + x2)), some (0, 0)] (hi_X12_readRise_27 hT) ⟨rfl, Nat.ne_of_beq_eq_false rfl⟩ (Nat.le_of_ble_eq_true rfl) rfl ?_
            refine v_load (v := (2, 121)) (hi_X12_readRise_28 hT) rfl rfl ?_
            refine v_getf (v := (0, (eF τ (i + 1 + 1 + 1) 2).1)) (r := 121) (hi_X12_readRise_29 hT) rfl rfl (fun _ => c7.1) ?_
            refine v_if (hi_X12_readRise_32 hT) (fun hc16 => absurd (show (eF τ (i + 1 + 1 + 1) 2).1 = 0 from hc16) (by have := c7.2.1; omega)) (fun _ => ?_)
            refine v_ret0 (hi_X12_readRise_46 hT) ?_
            exact rRd_n (e := (eF τ (i + 1 + 1 + 1) 2)) (by simp only [pRise, pWord, q3, hc7, ne_eq, not_true_eq_false, not_false_eq_true, if_true, if_false, eq_self, eb_l, eb_r]) c7 (rF.t (rF.t (rF.t rF.rfl ft1) ft3) ft7)
    · show vP D T N 302 11 g4 [some (2, 121), none, none] [(0, v2)] _
      refine vP_hv (fun hv4 => ?_)
      refine v_store1 [some (2, 121), some (0, v2), none] (hz_X12_readRise hT _ _ rfl) ⟨rfl, Nat.ne_of_beq_eq_false rfl⟩ (Nat.le_of_ble_eq_true rfl) rfl ?_
      refine v_load (v := (2, 121)) (hz_X12_readRise hT _ _ rfl) rfl rfl ?_
      refine v_load (v := (2, 121)) (hz_X12_readRise hT _ _ rfl) rfl rfl ?_
      refine v_call (w := 1) [some (2, 121)] hO (hz_X12_readRise hT _ _ rfl) rfl rfl (rb_any_isBy hT hO (fun v17 => ?_))
      · show vP D T N 302 17 g4 [some (2, 121), some (0, v2), none] [(0, v17), (2, 121)] _
        refine v_call (w := 2) [some (2, 121), some (0, v17)] hO (hz_X12_readRise hT _ _ rfl) rfl rfl (rx_mustB hT hO v17 c4 ?_)
        · show vP D T N 302 20 g4 [some (2, 121), some (0, v2), none] [] _
          refine v_load (v := (2, 121)) (hz_X12_readRise hT _ _ rfl) rfl rfl ?_
          refine v_push (0) (hz_X12_readRise hT _ _ rfl) rfl ?_
          refine v_push (9) (hz_X12_readRise hT _ _ rfl) rfl ?_
          refine v_call (w := 4) [some (2, 121), some (0, 0), some (0, 9), none] hO (hz_X12_readRise hT _ _ rfl) rfl rfl (rx_numB hT hO 0 9 c4 ?_)
          · show vP D T N 302 27 g4 [some (2, 121), some (0, v2), none] [(0, 0)] _
            refine v_store1 [some (2, 121), some (0, v2), some (0, 0)] (hi_X12_readRise_27 hT) ⟨rfl, Nat.ne_of_beq_eq_false rfl⟩ (Nat.le_of_ble_eq_true rfl) rfl ?_
            refine v_load (v := (2, 121)) (hi_X12_readRise_28 hT) rfl rfl ?_
            refine v_getf (v := (0, e4.1)) (r := 121) (hi_X12_readRise_29 hT) rfl rfl (fun _ => c4.1) ?_
            refine v_if (hi_X12_readRise_32 hT) (fun hc18 => absurd (show e4.1 = 0 from hc18) (by have := c4.2.1; omega)) (fun _ => ?_)
            refine v_ret0 (hi_X12_readRise_46 hT) ?_
            exact rRd_n (e := e4) (by simp only [pRise, pWord, q4, ne_eq, not_true_eq_false, not_false_eq_true, if_true, if_false, eq_self, eb_l, eb_r]) c4 (rF.t (rF.t rF.rfl ft1) ft4)
theorem rx_cops {D : zD} {T : zT} (hT : hTab T) (hO : vOK T) {N : Nat} {h : zH} {B : Nat → Int} {n m i : Nat} {τ P : PT} (hv0 : zHv h) (hX : rX B n m τ i h) (hL : rL P h) (hb : (0 ≤ P 0 0 ∧ P 0 0 ≤ 8) ∧ (0 ≤ P 0 1 ∧ P 0 1 ≤ 6) ∧ (0 ≤ P 0 2 ∧ P 0 2 ≤ 3) ∧ (0 ≤ P 0 3 ∧ P 0 3 ≤ 6)) (h1 : bW τ 4 i ≠ 0) :
    vP D T N 298 0 h [some (2, 121)] [] (rRd B n m τ (pCopies τ P i) h) := by
  refine v_load (v := (2, 121)) (hz_X12_readCopies hT _ _ rfl) rfl rfl ?_
  refine v_getf (v := (0, (P 0 9))) (r := 121) (hz_X12_readCopies hT _ _ rfl) rfl rfl (fun _ => hL.d) ?_
  refine v_if (hz_X12_readCopies hT _ _ rfl) (fun hc1 => ?_) (fun hc1 => ?_)
  · have hc1 : (P 0 9) = 0 := hc1
    refine v_load (v := (2, 121)) (hz_X12_readCopies hT _ _ rfl) rfl rfl ?_
    refine v_getf (v := (0, 0)) (r := 121) (hz_X12_readCopies hT _ _ rfl) rfl rfl (fun _ => hX.b) ?_
    refine v_if (hz_X12_readCopies hT _ _ rfl) (fun hc2 => absurd (show 0 < (0 : Int) from hc2) (by decide)) (fun _ => ?_)
    refine v_load (v := (2, 121)) (hz_X12_readCopies hT _ _ rfl) rfl rfl ?_
    refine v_push (1) (hz_X12_readCopies hT _ _ rfl) rfl ?_
    refine v_putf (r := 121) hO (hz_X12_readCopies hT _ _ rfl) rfl (fun hf3 => ?_)
    refine v_load (v := (2, 121)) (hz_X12_readCopies hT _ _ rfl) rfl rfl ?_
    refine v_call (w := 2) [some (2, 121), none] hO (hz_X12_readCopies hT _ _ rfl) rfl rfl (rx_next hT hO (rX.zf (k := 24) (v := (0, 1)) (by decide) hX) (ne_10 (bW_y.mp h1).1) (ne_14 (bW_y.mp h1).1) (fun g4 ft4 hX4 => ?_))
    · show vP D T N 298 33 g4 [some (2, 121)] [] _
      refine vP_hv (fun hv4 => ?_)
      refine v_load (v := (2, 121)) (hz_X12_readCopies hT _ _ rfl) rfl rfl ?_
      refine v_getR (c := 126) (r := 121) (hz_X12_readCopies hT _ _ rfl) rfl rfl rfl ?_
      refine v_push (2202) (hz_X12_readCopies hT _ _ rfl) rfl ?_
      refine v_load (v := (2, 121)) (hz_X12_readCopies hT _ _ rfl) rfl rfl ?_
      refine v_push (1) (hz_X12_readCopies hT _ _ rfl) rfl ?_
      refine v_push (3) (hz_X12_readCopies hT _ _ rfl) rfl ?_
      refine v_call (w := 4) [some (2, 121), some (0, 1), some (0, 3), none] hO (hz_X12_readCopies hT _ _ rfl) rfl rfl (rx_num hT hO 1 3 hX4 (fun g6 x5 ft6 q6 bux5 bvx5 hX6 => ?_) (fun g7 e7 ft7 q7 c7 => ?_))
      · show vP D T N 298 46 g6 [some (2, 121)] [(0, x5), (0, 2202), (2, 126)] _
        refine vP_hv (fun hv6 => ?_)
        refine v_ast (r := 126) (hz_X12_readCopies hT _ _ rfl) rfl rfl (fun ha8 hb9 hf10 => ?_)
        refine v_ret0 (hz_X12_readCopies hT _ _ rfl) ?_
        exact rRd_y (P := (pset (pset P 0 2 x5) 0 9 1)) (j := i + 1 + 1) (by simp only [pCopies, hc1, q6, ne_eq, not_true_eq_false, not_false_eq_true, if_true, if_false, eq_self, eb_l, eb_r]) (rX.z (r := 126) (k := 2202) (v := (0, x5)) (by decide) hX6) (rL.c29 (v := x5) (rL.qf (rL.qf (rL.d9 (v := 1) hL) ft4) ft6)) (rF.z (a := 126) (b := 2202) (v := (0, x5)) (by omega) (rF.t (rF.t (rF.z (a := 121) (b := 24) (v := (0, 1)) (by omega) rF.rfl) ft4) ft6)) (show (0 ≤ P 0 0 ∧ P 0 0 ≤ 8) ∧ (0 ≤ P 0 1 ∧ P 0 1 ≤ 6) ∧ (0 ≤ x5 ∧ x5 ≤ 3) ∧ (0 ≤ P 0 3 ∧ P 0 3 ≤ 6) from by omega)
      · show vP D T N 298 46 g7 [some (2, 121)] [(0, 0), (0, 2202), (2, 126)] _
        refine vP_hv (fun hv7 => ?_)
        refine v_ast (r := 126) (hz_X12_readCopies hT _ _ rfl) rfl rfl (fun ha11 hb12 hf13 => ?_)
        refine v_ret0 (hz_X12_readCopies hT _ _ rfl) ?_
        exact rRd_n (e := e7) (by simp only [pCopies, hc1, q7, ne_eq, not_true_eq_false, not_false_eq_true, if_true, if_false, eq_self, eb_l, eb_r]) (rE.z (r := 126) (k := 2202) (v := (0, 0)) (by decide) c7) (rF.z (a := 126) (b := 2202) (v := (0, 0)) (by omega) (rF.t (rF.t (rF.z (a := 121) (b := 24) (v := (0, 1)) (by omega) rF.rfl) ft4) ft7))
  · have hc1 : (P 0 9) ≠ 0 := hc1
    refine v_load (v := (2, 121)) (hz_X12_readCopies hT _ _ rfl) rfl rfl ?_
    refine v_push (5) (hz_X12_readCopies hT _ _ rfl) rfl ?_
    refine v_load (v := (2, 121)) (hz_X12_readCopies hT _ _ rfl) rfl rfl ?_
    refine v_getf (v := (0, (τ 1 i))) (r := 121) (hz_X12_readCopies hT _ _ rfl) rfl rfl (fun _ => hX.ps) ?_
    refine v_call (w := 3) [some (2, 121), some (0, 5), some (0, (τ 1 i))] hO (hz_X12_readCopies hT _ _ rfl) rfl rfl (rx_fail hT hO 5 hX (bW_y.mp h1).1 (by decide) (fun g14 ft14 c14 => ?_))
    · show vP D T N 298 16 g14 [some (2, 121)] [] _
      refine vP_hv (fun hv14 => ?_)
      refine v_load (v := (2, 121)) (hz_X12_readCopies hT _ _ rfl) rfl rfl ?_
      refine v_getf (v := (0, (eF τ i 5).1)) (r := 121) (hz_X12_readCopies hT _ _ rfl) rfl rfl (fun _ => c14.1) ?_
      refine v_if (hz_X12_readCopies hT _ _ rfl) (fun _ => ?_) (fun hc15 => absurd (show 0 < (eF τ i 5).1 from c14.2.1) hc15)
      refine v_ret0 (hz_X12_readCopies hT _ _ rfl) ?_
      exact rRd_n (e := (eF τ i 5)) (by simp only [pCopies, hc1, ne_eq, not_true_eq_false, not_false_eq_true, if_true, if_false, eq_self, eb_l, eb_r]) c14 (rF.t rF.rfl ft14)
theorem rx_comp {D : zD} {T : zT} (hT : hTab T) (hO : vOK T) {N : Nat} {h : zH} {B : Nat → Int} {n m i : Nat} {τ P : PT} (hv0 : zHv h) (hX : rX B n m τ i h) (hL : rL P h) (hb : (0 ≤ P 0 0 ∧ P 0 0 ≤ 8) ∧ (0 ≤ P 0 1 ∧ P 0 1 ≤ 6) ∧ (0 ≤ P 0 2 ∧ P 0 2 ≤ 3) ∧ (0 ≤ P 0 3 ∧ P 0 3 ≤ 6)) (h1 : bW τ 5 i ≠ 0) :
    vP D T N 296 0 h [some (2, 121), none, none, none, none] [] (rRd B n m τ (pCompany τ P i) h) := by
  refine v_load (v := (2, 121)) (hz_X12_readCompany hT _ _ rfl) rfl rfl ?_
  refine v_getR (c := 126) (r := 121) (hz_X12_readCompany hT _ _ rfl) rfl rfl rfl ?_
  refine v_push (2203) (hz_X12_readCompany hT _ _ rfl) rfl ?_
  refine v_aldV (v := (0, (P 0 3))) (r := 126) (hz_X12_readCompany hT _ _ rfl) rfl rfl (fun _ _ _ => hL.m) (fun ha1 hb2 => ?_)
  refine v_store1 [some (2, 121), some (0, (P 0 3)), none, none, none] (hz_X12_readCompany hT _ _ rfl) ⟨rfl, Nat.ne_of_beq_eq_false rfl⟩ (Nat.le_of_ble_eq_true rfl) rfl ?_
  refine v_load (v := (0, (P 0 3))) (hz_X12_readCompany hT _ _ rfl) rfl rfl ?_
  refine v_push (6) (hz_X12_readCompany hT _ _ rfl) rfl ?_
  refine v_ic (hz_X12_readCompany hT _ _ rfl) (fun hc3 => ?_) (fun hc3 => ?_)
  · have hc3 : (P 0 3) = 6 := hc3
    refine v_load (v := (2, 121)) (hz_X12_readCompany hT _ _ rfl) rfl rfl ?_
    refine v_push (6) (hz_X12_readCompany hT _ _ rfl) rfl ?_
    refine v_load (v := (2, 121)) (hz_X12_readCompany hT _ _ rfl) rfl rfl ?_
    refine v_getf (v := (0, (τ 1 i))) (r := 121) (hz_X12_readCompany hT _ _ rfl) rfl rfl (fun _ => hX.ps) ?_
    refine v_call (w := 3) [some (2, 121), some (0, 6), some (0, (τ 1 i))] hO (hz_X12_readCompany hT _ _ rfl) rfl rfl (rx_fail hT hO 6 hX (bW_y.mp h1).1 (by decide) (fun g4 ft4 c4 => ?_))
    · show vP D T N 296 25 g4 [some (2, 121), some (0, (P 0 3)), none, none, none] [] _
      refine vP_hv (fun hv4 => ?_)
      refine v_load (v := (2, 121)) (hz_X12_readCompany hT _ _ rfl) rfl rfl ?_
      refine v_getf (v := (0, (eF τ i 6).1)) (r := 121) (hz_X12_readCompany hT _ _ rfl) rfl rfl (fun _ => c4.1) ?_
      refine v_if (hz_X12_readCompany hT _ _ rfl) (fun _ => ?_) (fun hc5 => absurd (show 0 < (eF τ i 6).1 from c4.2.1) hc5)
      refine v_ret0 (hz_X12_readCompany hT _ _ rfl) ?_
      exact rRd_n (e := (eF τ i 6)) (by simp only [pCompany, pWord, pBy, pCi, (show 6 ≤ P 0 3 from by omega), ne_eq, not_true_eq_false, not_false_eq_true, if_true, if_false, eq_self, eb_l, eb_r]) c4 (rF.t rF.rfl ft4)
  · have hc3 : (P 0 3) ≠ 6 := hc3
    refine v_load (v := (2, 121)) (hz_X12_readCompany hT _ _ rfl) rfl rfl ?_
    refine v_getf (v := (0, 0)) (r := 121) (hz_X12_readCompany hT _ _ rfl) rfl rfl (fun _ => hX.b) ?_
    refine v_if (hz_X12_readCompany hT _ _ rfl) (fun hc6 => absurd (show 0 < (0 : Int) from hc6) (by decide)) (fun _ => ?_)
    refine v_load (v := (2, 121)) (hz_X12_readCompany hT _ _ rfl) rfl rfl ?_
    refine v_call (w := 2) [some (2, 121), none] hO (hz_X12_readCompany hT _ _ rfl) rfl rfl (rx_next hT hO hX (ne_10 (bW_y.mp h1).1) (ne_14 (bW_y.mp h1).1) (fun g7 ft7 hX7 => ?_))
    · show vP D T N 296 37 g7 [some (2, 121), some (0, (P 0 3)), none, none, none] [] _
      refine vP_hv (fun hv7 => ?_)
      refine v_load (v := (2, 121)) (hz_X12_readCompany hT _ _ rfl) rfl rfl ?_
      refine v_call (w := 1) [some (2, 121)] hO (hz_X12_readCompany hT _ _ rfl) rfl rfl (rx_isName hT hO hX7 ?_)
      · show vP D T N 296 41 g7 [some (2, 121), some (0, (P 0 3)), none, none, none] [(0, (bN τ (i + 1)))] _
        refine v_if (hz_X12_readCompany hT _ _ rfl) (fun hc8 => ?_) (fun hc8 => ?_)
        · have hc8 : (bN τ (i + 1)) = 0 := hc8
          refine v_load (v := (2, 121)) (hz_X12_readCompany hT _ _ rfl) rfl rfl ?_
          refine v_call (w := 1) [some (2, 121)] hO (hz_X12_readCompany hT _ _ rfl) rfl rfl (rx_wrong hT hO hX7 (fun g9 ft9 c9 => ?_))
          · show vP D T N 296 48 g9 [some (2, 121), some (0, (P 0 3)), none, none, none] [] _
            refine vP_hv (fun hv9 => ?_)
            refine v_load (v := (2, 121)) (hz_X12_readCompany hT _ _ rfl) rfl rfl ?_
            refine v_getf (v := (0, (eF τ (i + 1) 2).1)) (r := 121) (hz_X12_readCompany hT _ _ rfl) rfl rfl (fun _ => c9.1) ?_
            refine v_if (hz_X12_readCompany hT _ _ rfl) (fun hc10 => absurd (show (eF τ (i + 1) 2).1 = 0 from hc10) (by have := c9.2.1; omega)) (fun _ => ?_)
            refine v_load (v := (2, 121)) (hz_X12_readCompany hT _ _ rfl) rfl rfl ?_
            refine v_getf (v := (0, (eF τ (i + 1) 2).1)) (r := 121) (hz_X12_readCompany hT _ _ rfl) rfl rfl (fun _ => c9.1) ?_
            refine v_if (hz_X12_readCompany hT _ _ rfl) (fun _ => ?_) (fun hc11 => absurd (show 0 < (eF τ (i + 1) 2).1 from c9.2.1) hc11)
            refine v_ret0 (hz_X12_readCompany hT _ _ rfl) ?_
            exact rRd_n (e := (eF τ (i + 1) 2)) (by simp only [pCompany, pWord, pBy, pCi, (show ¬ 6 ≤ P 0 3 from by omega), hc8, ne_eq, not_true_eq_false, not_false_eq_true, if_true, if_false, eq_self, eb_l, eb_r]) c9 (rF.t (rF.t rF.rfl ft7) ft9)
        · have hc8 : (bN τ (i + 1)) ≠ 0 := hc8
          refine v_load (v := (2, 121)) (hz_X12_readCompany hT _ _ rfl) rfl rfl ?_
          refine v_getf (v := (0, 0)) (r := 121) (hz_X12_readCompany hT _ _ rfl) rfl rfl (fun _ => hX7.b) ?_
          refine v_if (hz_X12_readCompany hT _ _ rfl) (fun _ => ?_) (fun hc12 => absurd (show (0 : Int) = 0 from (by decide)) hc12)
          refine v_load (v := (2, 121)) (hz_X12_readCompany hT _ _ rfl) rfl rfl ?_
          refine v_push (4) (hz_X12_readCompany hT _ _ rfl) rfl ?_
          refine v_load (v := (0, (P 0 3))) (hz_X12_readCompany hT _ _ rfl) rfl rfl ?_
          refine v_call (w := 4) [some (2, 121), some (0, 4), some (0, (P 0 3)), none] hO (hz_X12_readCompany hT _ _ rfl) rfl rfl (rx_named_4 hT hO hX7 (bN_y.mp hc8).1 (rL.qf hL ft7) (by omega) ?_)
          · show vP D T N 296 61 g7 [some (2, 121), some (0, (P 0 3)), none, none, none] [(0, (pIx (P 4) (τ 4 (i + 1)) (P 0 3).toNat 0))] _
            refine v_if (hz_X12_readCompany hT _ _ rfl) (fun hc13 => ?_) (fun hc13 => ?_)
            · have hc13 : (pIx (P 4) (τ 4 (i + 1)) (P 0 3).toNat 0) < 0 := hc13
              refine v_load (v := (2, 121)) (hz_X12_readCompany hT _ _ rfl) rfl rfl ?_
              refine v_getf (v := (0, 0)) (r := 121) (hz_X12_readCompany hT _ _ rfl) rfl rfl (fun _ => hX7.b) ?_
              refine v_if (hz_X12_readCompany hT _ _ rfl) (fun hc14 => absurd (show 0 < (0 : Int) from hc14) (by decide)) (fun _ => ?_)
              refine v_load (v := (2, 121)) (hz_X12_readCompany hT _ _ rfl) rfl rfl ?_
              refine v_getR (c := 128) (r := 121) (hz_X12_readCompany hT _ _ rfl) rfl rfl rfl ?_
              refine v_push (24) (hz_X12_readCompany hT _ _ rfl) rfl ?_
              refine v_load (v := (0, (P 0 3))) (hz_X12_readCompany hT _ _ rfl) rfl rfl ?_
              refine v_bin (w := (24 + (P 0 3))) (hz_X12_readCompany hT _ _ rfl) (hq_add (by omega) (by omega)) ?_
              refine v_load (v := (2, 121)) (hz_X12_readCompany hT _ _ rfl) rfl rfl ?_
              refine v_getf (v := (1, (τ 4 (i + 1)))) (r := 121) (hz_X12_readCompany hT _ _ rfl) rfl rfl (fun _ => (hX7.wd (bN_y.mp hc8).1)) ?_
              refine v_ast (r := 128) (hz_X12_readCompany hT _ _ rfl) rfl rfl (fun ha15 hb16 hf17 => ?_)
              refine v_load (v := (2, 121)) (hz_X12_readCompany hT _ _ rfl) rfl rfl ?_
              refine v_call (w := 2) [some (2, 121), none] hO (hz_X12_readCompany hT _ _ rfl) rfl rfl (rx_next hT hO (rX.z (r := 128) (k := (((24 + (P 0 3))).toNat)) (v := (1, (τ 4 (i + 1)))) (by decide) hX7) (ne_10 (bN_y.mp hc8).1) (ne_14 (bN_y.mp hc8).1) (fun g18 ft18 hX18 => ?_))
              · show vP D T N 296 98 g18 [some (2, 121), some (0, (P 0 3)), none, none, none] [] _
                refine vP_hv (fun hv18 => ?_)
                refine v_load (v := (2, 121)) (hz_X12_readCompany hT _ _ rfl) rfl rfl ?_
                refine v_load (v := (2, 121)) (hz_X12_readCompany hT _ _ rfl) rfl rfl ?_
                refine v_call (w := 1) [some (2, 121)] hO (hz_X12_readCompany hT _ _ rfl) rfl rfl (rx_isAtWord hT hO hX18 ?_)
                · show vP D T N 296 103 g18 [some (2, 121), some (0, (P 0 3)), none, none, none] [(0, (bW τ 6 (i + 1 + 1))), (2, 121)] _
                  refine v_call (w := 2) [some (2, 121), some (0, (bW τ 6 (i + 1 + 1)))] hO (hz_X12_readCompany hT _ _ rfl) rfl rfl (rx_must hT hO ((bW τ 6 (i + 1 + 1))) hX18 (fun c => ⟨ne_10 (bW_y.mp c).1, ne_14 (bW_y.mp c).1⟩) (fun g20 ft20 hc19 hX20 => ?_) (fun g21 ft21 hc21 c21 => ?_))
                  · show vP D T N 296 106 g20 [some (2, 121), some (0, (P 0 3)), none, none, none] [] _
                    refine vP_hv (fun hv20 => ?_)
                    refine v_load (v := (2, 121)) (hz_X12_readCompany hT _ _ rfl) rfl rfl ?_
                    refine v_push (2200) (hz_X12_readCompany hT _ _ rfl) rfl ?_
                    refine v_call (w := 4) [some (2, 121), some (0, 2200), none, none] hO (hz_X12_readCompany hT _ _ rfl) rfl rfl (rx_cell_2200 hT hO ((P 0 0)) ((P 0 1)) hX20 (Eq.trans (ft20 126 2200 (by first | decide | exact fun c => by omega)) (Eq.trans (ft18 126 2200 (by first | decide | exact fun c => by omega)) (Eq.trans (zset_ne (fun c => absurd c.1 (by decide))) ((Eq.trans (ft7 126 2200 (by first | decide | exact fun c => by omega)) hL.w))))) (Eq.trans (ft20 126 2201 (by first | decide | exact fun c => by omega)) (Eq.trans (ft18 126 2201 (by first | decide | exact fun c => by omega)) (Eq.trans (zset_ne (fun c => absurd c.1 (by decide))) ((Eq.trans (ft7 126 2201 (by first | decide | exact fun c => by omega)) hL.ro))))) (by omega) (by omega) (fun g23 x22 y22 ft23 q23 bax22 bbx22 bcx22 bdx22 bex22 bfx22 hX23 => ?_) (fun g24 e24 v22 ft24 q24 bva22 bvb22 c24 => ?_))
                    · show vP D T N 296 113 g23 [some (2, 121), some (0, (P 0 3)), none, none, none] [(0, (P 0 0 * y22 + x22))] _
                      refine vP_hv (fun hv23 => ?_)
                      refine v_store1 [some (2, 121), some (0, (P 0 3)), some (0, (P 0 0 * y22 + x22)), none, none] (hz_X12_readCompany hT _ _ rfl) ⟨rfl, Nat.ne_of_beq_eq_false rfl⟩ (Nat.le_of_ble_eq_true rfl) rfl ?_
                      refine v_load (v := (2, 121)) (hz_X12_readCompany hT _ _ rfl) rfl rfl ?_
                      refine v_load (v := (2, 121)) (hz_X12_readCompany hT _ _ rfl) rfl rfl ?_
                      refine v_call (w := 1) [some (2, 121)] hO (hz_X12_readCompany hT _ _ rfl) rfl rfl (rx_isTo hT hO hX23 ?_)
                      · show vP D T N 296 119 g23 [some (2, 121), some (0, (P 0 3)), some (0, (P 0 0 * y22 + x22)), none, none] [(0, (bW τ 7 (i + 1 + 1 + 1 + 1 + 1))), (2, 121)] _
                        refine v_call (w := 2) [some (2, 121), some (0, (bW τ 7 (i + 1 + 1 + 1 + 1 + 1)))] hO (hz_X12_readCompany hT _ _ rfl) rfl rfl (rx_must hT hO ((bW τ 7 (i + 1 + 1 + 1 + 1 + 1))) hX23 (fun c => ⟨ne_10 (bW_y.mp c).1, ne_14 (bW_y.mp c).1⟩) (fun g26 ft26 hc25 hX26 => ?_) (fun g27 ft27 hc27 c27 => ?_))
                        · show vP D T N 296 122 g26 [some (2, 121), some (0, (P 0 3)), some (0, (P 0 0 * y22 + x22)), none, none] [] _
                          refine vP_hv (fun hv26 => ?_)
                          refine v_load (v := (2, 121)) (hi_X12_readCompany_122 hT) rfl rfl ?_
                          refine v_push (2200) (hi_X12_readCompany_123 hT) rfl ?_
                          refine v_call (w := 4) [some (2, 121), some (0, 2200), none, none] hO (hi_X12_readCompany_126 hT) rfl rfl (rx_cell_2200 hT hO ((P 0 0)) ((P 0 1)) hX26 (Eq.trans (ft26 126 2200 (by first | decide | exact fun c => by omega)) (Eq.trans (ft23 126 2200 (by first | decide | exact fun c => by omega)) (Eq.trans (ft20 126 2200 (by first | decide | exact fun c => by omega)) (Eq.trans (ft18 126 2200 (by first | decide | exact fun c => by omega)) (Eq.trans (zset_ne (fun c => absurd c.1 (by decide))) ((Eq.trans (ft7 126 2200 (by first | decide | exact fun c => by omega)) hL.w))))))) (Eq.trans (ft26 126 2201 (by first | decide | exact fun c => by omega)) (Eq.trans (ft23 126 2201 (by first | decide | exact fun c => by omega)) (Eq.trans (ft20 126 2201 (by first | decide | exact fun c => by omega)) (Eq.trans (ft18 126 2201 (by first | decide | exact fun c => by omega)) (Eq.trans (zset_ne (fun c => absurd c.1 (by decide))) ((Eq.trans (ft7 126 2201 (by first | decide | exact fun c => by omega)) hL.ro))))))) (by omega) (by omega) (fun g29 x28 y28 ft29 q29 bax28 bbx28 bcx28 bdx28 bex28 bfx28 hX29 => ?_) (fun g30 e30 v28 ft30 q30 bva28 bvb28 c30 => ?_))
                          · show vP D T N 296 129 g29 [some (2, 121), some (0, (P 0 3)), some (0, (P 0 0 * y22 + x22)), none, none] [(0, (P 0 0 * y28 + x28))] _
                            refine vP_hv (fun hv29 => ?_)
                            refine v_store1 [some (2, 121), some (0, (P 0 3)), some (0, (P 0 0 * y22 + x22)), some (0, (P 0 0 * y28 + x28)), none] (hi_X12_readCompany_129 hT) ⟨rfl, Nat.ne_of_beq_eq_false rfl⟩ (Nat.le_of_ble_eq_true rfl) rfl ?_
                            refine v_push (0) (hi_X12_readCompany_130 hT) rfl ?_
                            refine v_store1 [some (2, 121), some (0, (P 0 3)), some (0, (P 0 0 * y22 + x22)), some (0, (P 0 0 * y28 + x28)), some (0, 0)] (hi_X12_readCompany_131 hT) ⟨rfl, Nat.ne_of_beq_eq_false rfl⟩ (Nat.le_of_ble_eq_true rfl) rfl ?_
                            refine v_load (v := (2, 121)) (hi_X12_readCompany_133 hT) rfl rfl ?_
                            refine v_getf (v := (0, 0)) (r := 121) (hi_X12_readCompany_134 hT) rfl rfl (fun _ => hX29.b) ?_
                            refine v_if (hi_X12_readCompany_137 hT) (fun _ => ?_) (fun hc31 => absurd (show (0 : Int) = 0 from (by decide)) hc31)
                            refine v_load (v := (2, 121)) (hz_X12_readCompany hT _ _ rfl) rfl rfl ?_
                            refine v_call (w := 1) [some (2, 121)] hO (hz_X12_readCompany hT _ _ rfl) rfl rfl (rx_isBy hT hO hX29 ?_)
                            · show vP D T N 296 144 g29 [some (2, 121), some (0, (P 0 3)), some (0, (P 0 0 * y22 + x22)), some (0, (P 0 0 * y28 + x28)), some (0, 0)] [(0, (bW τ 3 (i + 1 + 1 + 1 + 1 + 1 + 1 + 1 + 1)))] _
                              refine v_if (hz_X12_readCompany hT _ _ rfl) (fun hc32 => ?_) (fun hc32 => ?_)
                              · have hc32 : (bW τ 3 (i + 1 + 1 + 1 + 1 + 1 + 1 + 1 + 1)) = 0 := hc32
                                refine v_load (v := (2, 121)) (hi_X12_readCompany_168 hT) rfl rfl ?_
                                refine v_getf (v := (0, 0)) (r := 121) (hi_X12_readCompany_169 hT) rfl rfl (fun _ => hX29.b) ?_
                                refine v_if (hi_X12_readCompany_172 hT) (fun hc33 => absurd (show 0 < (0 : Int) from hc33) (by decide)) (fun _ => ?_)
                                refine v_load (v := (2, 121)) (hz_X12_readCompany hT _ _ rfl) rfl rfl ?_
                                refine v_getR (c := 126) (r := 121) (hz_X12_readCompany hT _ _ rfl) rfl rfl rfl ?_
                                refine v_push (2445) (hz_X12_readCompany hT _ _ rfl) rfl ?_
                                refine v_load (v := (0, (P 0 3))) (hz_X12_readCompany hT _ _ rfl) rfl rfl ?_
                                refine v_bin (w := (2445 + (P 0 3))) (hz_X12_readCompany hT _ _ rfl) (hq_add (by omega) (by omega)) ?_
                                refine v_load (v := (0, (P 0 0 * y22 + x22))) (hz_X12_readCompany hT _ _ rfl) rfl rfl ?_
                                refine v_ast (r := 126) (hz_X12_readCompany hT _ _ rfl) rfl rfl (fun ha34 hb35 hf36 => ?_)
                                refine v_load (v := (2, 121)) (hz_X12_readCompany hT _ _ rfl) rfl rfl ?_
                                refine v_getR (c := 126) (r := 121) (hz_X12_readCompany hT _ _ rfl) rfl rfl rfl ?_
                                refine v_push (2457) (hz_X12_readCompany hT _ _ rfl) rfl ?_
                                refine v_load (v := (0, (P 0 3))) (hz_X12_readCompany hT _ _ rfl) rfl rfl ?_
                                refine v_bin (w := (2457 + (P 0 3))) (hz_X12_readCompany hT _ _ rfl) (hq_add (by omega) (by omega)) ?_
                                refine v_load (v := (0, (P 0 0 * y22 + x22))) (hz_X12_readCompany hT _ _ rfl) rfl rfl ?_
                                refine v_ast (r := 126) (hz_X12_readCompany hT _ _ rfl) rfl rfl (fun ha37 hb38 hf39 => ?_)
                                refine v_load (v := (2, 121)) (hz_X12_readCompany hT _ _ rfl) rfl rfl ?_
                                refine v_getR (c := 126) (r := 121) (hz_X12_readCompany hT _ _ rfl) rfl rfl rfl ?_
                                refine v_push (2451) (hz_X12_readCompany hT _ _ rfl) rfl ?_
                                refine v_load (v := (0, (P 0 3))) (hz_X12_readCompany hT _ _ rfl) rfl rfl ?_
                                refine v_bin (w := (2451 + (P 0 3))) (hz_X12_readCompany hT _ _ rfl) (hq_add (by omega) (by omega)) ?_
                                refine v_load (v := (0, (P 0 0 * y28 + x28))) (hz_X12_readCompany hT _ _ rfl) rfl rfl ?_
                                refine v_ast (r := 126) (hz_X12_readCompany hT _ _ rfl) rfl rfl (fun ha40 hb41 hf42 => ?_)
                                refine v_load (v := (2, 121)) (hz_X12_readCompany hT _ _ rfl) rfl rfl ?_
                                refine v_getR (c := 126) (r := 121) (hz_X12_readCompany hT _ _ rfl) rfl rfl rfl ?_
                                refine v_push (2463) (hz_X12_readCompany hT _ _ rfl) rfl ?_
                                refine v_load (v := (0, (P 0 3))) (hz_X12_readCompany hT _ _ rfl) rfl rfl ?_
                                refine v_bin (w := (2463 + (P 0 3))) (hz_X12_readCompany hT _ _ rfl) (hq_add (by omega) (by omega)) ?_
                                refine v_load (v := (0, 0)) (hz_X12_readCompany hT _ _ rfl) rfl rfl ?_
                                refine v_ast (r := 126) (hz_X12_readCompany hT _ _ rfl) rfl rfl (fun ha43 hb44 hf45 => ?_)
                                refine v_load (v := (2, 121)) (hz_X12_readCompany hT _ _ rfl) rfl rfl ?_
                                refine v_getR (c := 126) (r := 121) (hz_X12_readCompany hT _ _ rfl) rfl rfl rfl ?_
                                refine v_push (2203) (hz_X12_readCompany hT _ _ rfl) rfl ?_
                                refine v_dupd (hz_X12_readCompany hT _ _ rfl) (Nat.ne_of_beq_eq_false rfl) (Nat.ne_of_beq_eq_false rfl) ?_
                                refine v_aldV (v := (0, (P 0 3))) (r := 126) (hz_X12_readCompany hT _ _ rfl) rfl rfl (fun _ _ _ => (Eq.trans (Eq.trans (zset_ne (fun c => by omega)) (Eq.trans (zset_ne (fun c => by omega)) (Eq.trans (zset_ne (fun c => by omega)) (zset_ne (fun c => by omega))))) ((Eq.trans (ft29 126 2203 (by first | decide | exact fun c => by omega)) (Eq.trans (ft26 126 2203 (by first | decide | exact fun c => by omega)) (Eq.trans (ft23 126 2203 (by first | decide | exact fun c => by omega)) (Eq.trans (ft20 126 2203 (by first | decide | exact fun c => by omega)) (Eq.trans (ft18 126 2203 (by first | decide | exact fun c => by omega)) (Eq.trans (zset_ne (fun c => absurd c.1 (by decide))) ((Eq.trans (ft7 126 2203 (by first | decide | exact fun c => by omega)) hL.m))))))))))) (fun ha46 hb47 => ?_)
                                refine v_push (1) (hz_X12_readCompany hT _ _ rfl) rfl ?_
                                refine v_bin (w := ((P 0 3) + 1)) (hz_X12_readCompany hT _ _ rfl) (hq_add (by omega) (by omega)) ?_
                                refine v_ast (r := 126) (hz_X12_readCompany hT _ _ rfl) rfl rfl (fun ha48 hb49 hf50 => ?_)
                                refine v_ret0 (hz_X12_readCompany hT _ _ rfl) ?_
                                exact rRd_y (P := (pAdd P ((τ 4 (i + 1))) (y22 * 8 + x22) (y28 * 8 + x28) 0)) (j := i + 1 + 1 + 1 + 1 + 1 + 1 + 1 + 1) (by simp only [pCompany, pWord, pBy, pCi, (show ¬ 6 ≤ P 0 3 from by omega), hc8, pIx_n hc13, hc19, q23, hc25, q29, hc32, ne_eq, not_true_eq_false, not_false_eq_true, if_true, if_false, eq_self, eb_l, eb_r]) (rX.z (r := 126) (k := 2203) (v := (0, ((P 0 3) + 1))) (by decide) (rX.z (r := 126) (k := (((2463 + (P 0 3))).toNat)) (v := (0, 0)) (by decide) (rX.z (r := 126) (k := (((2451 + (P 0 3))).toNat)) (v := (0, (P 0 0 * y28 + x28))) (by decide) (rX.z (r := 126) (k := (((2457 + (P 0 3))).toNat)) (v := (0, (P 0 0 * y22 + x22))) (by decide) (rX.z (r := 126) (k := (((2445 + (P 0 3))).toNat)) (v := (0, (P 0 0 * y22 + x22))) (by decide) hX29))))) (rW.add (x := x22) (y := y22) (x' := x28) (y' := y28) (b := 0) (by omega) (by omega) (by omega) (by omega) (by omega) (by omega) (rW.qf (rW.qf (rW.qf (rW.qf (rW.qf (rL.wr (nm := (τ 4 (i + 1))) (by omega) (rL.qf hL ft7)) ft18) ft20) ft23) ft26) ft29)) (rF.z (a := 126) (b := 2203) (v := (0, ((P 0 3) + 1))) (by omega) (rF.z (a := 126) (b := (((2463 + (P 0 3))).toNat)) (v := (0, 0)) (by omega) (rF.z (a := 126) (b := (((2451 + (P 0 3))).toNat)) (v := (0, (P 0 0 * y28 + x28))) (by omega) (rF.z (a := 126) (b := (((2457 + (P 0 3))).toNat)) (v := (0, (P 0 0 * y22 + x22))) (by omega) (rF.z (a := 126) (b := (((2445 + (P 0 3))).toNat)) (v := (0, (P 0 0 * y22 + x22))) (by omega) (rF.t (rF.t (rF.t (rF.t (rF.t (rF.z (a := 128) (b := (((24 + (P 0 3))).toNat)) (v := (1, (τ 4 (i + 1)))) (by omega) (rF.t rF.rfl ft7)) ft18) ft20) ft23) ft26) ft29)))))) (show (0 ≤ P 0 0 ∧ P 0 0 ≤ 8) ∧ (0 ≤ P 0 1 ∧ P 0 1 ≤ 6) ∧ (0 ≤ P 0 2 ∧ P 0 2 ≤ 3) ∧ (0 ≤ P 0 3 + 1 ∧ P 0 3 + 1 ≤ 6) from by omega)
                              · have hc32 : (bW τ 3 (i + 1 + 1 + 1 + 1 + 1 + 1 + 1 + 1)) ≠ 0 := hc32
                                refine v_load (v := (2, 121)) (hz_X12_readCompany hT _ _ rfl) rfl rfl ?_
                                refine v_call (w := 2) [some (2, 121), none] hO (hz_X12_readCompany hT _ _ rfl) rfl rfl (rx_next hT hO hX29 (ne_10 (bW_y.mp hc32).1) (ne_14 (bW_y.mp hc32).1) (fun g51 ft51 hX51 => ?_))
                                · show vP D T N 296 151 g51 [some (2, 121), some (0, (P 0 3)), some (0, (P 0 0 * y22 + x22)), some (0, (P 0 0 * y28 + x28)), some (0, 0)] [] _
                                  refine vP_hv (fun hv51 => ?_)
                                  refine v_load (v := (2, 121)) (hz_X12_readCompany hT _ _ rfl) rfl rfl ?_
                                  refine v_push (0) (hz_X12_readCompany hT _ _ rfl) rfl ?_
                                  refine v_load (v := (2, 121)) (hz_X12_readCompany hT _ _ rfl) rfl rfl ?_
                                  refine v_getR (c := 126) (r := 121) (hz_X12_readCompany hT _ _ rfl) rfl rfl rfl ?_
                                  refine v_push (2202) (hz_X12_readCompany hT _ _ rfl) rfl ?_
                                  refine v_aldV (v := (0, (P 0 2))) (r := 126) (hz_X12_readCompany hT _ _ rfl) rfl rfl (fun _ _ _ => (Eq.trans (ft51 126 2202 (by first | decide | exact fun c => by omega)) (Eq.trans (ft29 126 2202 (by first | decide | exact fun c => by omega)) (Eq.trans (ft26 126 2202 (by first | decide | exact fun c => by omega)) (Eq.trans (ft23 126 2202 (by first | decide | exact fun c => by omega)) (Eq.trans (ft20 126 2202 (by first | decide | exact fun c => by omega)) (Eq.trans (ft18 126 2202 (by first | decide | exact fun c => by omega)) (Eq.trans (zset_ne (fun c => absurd c.1 (by decide))) ((Eq.trans (ft7 126 2202 (by first | decide | exact fun c => by omega)) hL.c)))))))))) (fun ha52 hb53 => ?_)
                                  refine v_push (1) (hz_X12_readCompany hT _ _ rfl) rfl ?_
                                  refine v_bin (w := ((P 0 2) - 1)) (hz_X12_readCompany hT _ _ rfl) (hq_sub (by omega) (by omega)) ?_
                                  refine v_call (w := 4) [some (2, 121), some (0, 0), some (0, ((P 0 2) - 1)), none] hO (hz_X12_readCompany hT _ _ rfl) rfl rfl (rx_num hT hO 0 (((P 0 2) - 1)) hX51 (fun g55 x54 ft55 q55 bux54 bvx54 hX55 => ?_) (fun g56 e56 ft56 q56 c56 => ?_))
                                  · show vP D T N 296 166 g55 [some (2, 121), some (0, (P 0 3)), some (0, (P 0 0 * y22 + x22)), some (0, (P 0 0 * y28 + x28)), some (0, 0)] [(0, x54)] _
                                    refine vP_hv (fun hv55 => ?_)
                                    refine v_store1 [some (2, 121), some (0, (P 0 3)), some (0, (P 0 0 * y22 + x22)), some (0, (P 0 0 * y28 + x28)), some (0, x54)] (hz_X12_readCompany hT _ _ rfl) ⟨rfl, Nat.ne_of_beq_eq_false rfl⟩ (Nat.le_of_ble_eq_true rfl) rfl ?_
                                    refine v_load (v := (2, 121)) (hi_X12_readCompany_168 hT) rfl rfl ?_
                                    refine v_getf (v := (0, 0)) (r := 121) (hi_X12_readCompany_169 hT) rfl rfl (fun _ => hX55.b) ?_
                                    refine v_if (hi_X12_readCompany_172 hT) (fun hc57 => absurd (show 0 < (0 : Int) from hc57) (by decide)) (fun _ => ?_)
                                    refine v_load (v := (2, 121)) (hz_X12_readCompany hT _ _ rfl) rfl rfl ?_
                                    refine v_getR (c := 126) (r := 121) (hz_X12_readCompany hT _ _ rfl) rfl rfl rfl ?_
                                    refine v_push (2445) (hz_X12_readCompany hT _ _ rfl) rfl ?_
                                    refine v_load (v := (0, (P 0 3))) (hz_X12_readCompany hT _ _ rfl) rfl rfl ?_
                                    refine v_bin (w := (2445 + (P 0 3))) (hz_X12_readCompany hT _ _ rfl) (hq_add (by omega) (by omega)) ?_
                                    refine v_load (v := (0, (P 0 0 * y22 + x22))) (hz_X12_readCompany hT _ _ rfl) rfl rfl ?_
                                    refine v_ast (r := 126) (hz_X12_readCompany hT _ _ rfl) rfl rfl (fun ha58 hb59 hf60 => ?_)
                                    refine v_load (v := (2, 121)) (hz_X12_readCompany hT _ _ rfl) rfl rfl ?_
                                    refine v_getR (c := 126) (r := 121) (hz_X12_readCompany hT _ _ rfl) rfl rfl rfl ?_
                                    refine v_push (2457) (hz_X12_readCompany hT _ _ rfl) rfl ?_
                                    refine v_load (v := (0, (P 0 3))) (hz_X12_readCompany hT _ _ rfl) rfl rfl ?_
                                    refine v_bin (w := (2457 + (P 0 3))) (hz_X12_readCompany hT _ _ rfl) (hq_add (by omega) (by omega)) ?_
                                    refine v_load (v := (0, (P 0 0 * y22 + x22))) (hz_X12_readCompany hT _ _ rfl) rfl rfl ?_
                                    refine v_ast (r := 126) (hz_X12_readCompany hT _ _ rfl) rfl rfl (fun ha61 hb62 hf63 => ?_)
                                    refine v_load (v := (2, 121)) (hz_X12_readCompany hT _ _ rfl) rfl rfl ?_
                                    refine v_getR (c := 126) (r := 121) (hz_X12_readCompany hT _ _ rfl) rfl rfl rfl ?_
                                    refine v_push (2451) (hz_X12_readCompany hT _ _ rfl) rfl ?_
                                    refine v_load (v := (0, (P 0 3))) (hz_X12_readCompany hT _ _ rfl) rfl rfl ?_
                                    refine v_bin (w := (2451 + (P 0 3))) (hz_X12_readCompany hT _ _ rfl) (hq_add (by omega) (by omega)) ?_
                                    refine v_load (v := (0, (P 0 0 * y28 + x28))) (hz_X12_readCompany hT _ _ rfl) rfl rfl ?_
                                    refine v_ast (r := 126) (hz_X12_readCompany hT _ _ rfl) rfl rfl (fun ha64 hb65 hf66 => ?_)
                                    refine v_load (v := (2, 121)) (hz_X12_readCompany hT _ _ rfl) rfl rfl ?_
                                    refine v_getR (c := 126) (r := 121) (hz_X12_readCompany hT _ _ rfl) rfl rfl rfl ?_
                                    refine v_push (2463) (hz_X12_readCompany hT _ _ rfl) rfl ?_
                                    refine v_load (v := (0, (P 0 3))) (hz_X12_readCompany hT _ _ rfl) rfl rfl ?_
                                    refine v_bin (w := (2463 + (P 0 3))) (hz_X12_readCompany hT _ _ rfl) (hq_add (by omega) (by omega)) ?_
                                    refine v_load (v := (0, x54)) (hz_X12_readCompany hT _ _ rfl) rfl rfl ?_
                                    refine v_ast (r := 126) (hz_X12_readCompany hT _ _ rfl) rfl rfl (fun ha67 hb68 hf69 => ?_)
                                    refine v_load (v := (2, 121)) (hz_X12_readCompany hT _ _ rfl) rfl rfl ?_
                                    refine v_getR (c := 126) (r := 121) (hz_X12_readCompany hT _ _ rfl) rfl rfl rfl ?_
                                    refine v_push (2203) (hz_X12_readCompany hT _ _ rfl) rfl ?_
                                    refine v_dupd (hz_X12_readCompany hT _ _ rfl) (Nat.ne_of_beq_eq_false rfl) (Nat.ne_of_beq_eq_false rfl) ?_
                                    refine v_aldV (v := (0, (P 0 3))) (r := 126) (hz_X12_readCompany hT _ _ rfl) rfl rfl (fun _ _ _ => (Eq.trans (Eq.trans (zset_ne (fun c => by omega)) (Eq.trans (zset_ne (fun c => by omega)) (Eq.trans (zset_ne (fun c => by omega)) (zset_ne (fun c => by omega))))) ((Eq.trans (ft55 126 2203 (by first | decide | exact fun c => by omega)) (Eq.trans (ft51 126 2203 (by first | decide | exact fun c => by omega)) (Eq.trans (ft29 126 2203 (by first | decide | exact fun c => by omega)) (Eq.trans (ft26 126 2203 (by first | decide | exact fun c => by omega)) (Eq.trans (ft23 126 2203 (by first | decide | exact fun c => by omega)) (Eq.trans (ft20 126 2203 (by first | decide | exact fun c => by omega)) (Eq.trans (ft18 126 2203 (by first | decide | exact fun c => by omega)) (Eq.trans (zset_ne (fun c => absurd c.1 (by decide))) ((Eq.trans (ft7 126 2203 (by first | decide | exact fun c => by omega)) hL.m))))))))))))) (fun ha70 hb71 => ?_)
                                    refine v_push (1) (hz_X12_readCompany hT _ _ rfl) rfl ?_
                                    refine v_bin (w := ((P 0 3) + 1)) (hz_X12_readCompany hT _ _ rfl) (hq_add (by omega) (by omega)) ?_
                                    refine v_ast (r := 126) (hz_X12_readCompany hT _ _ rfl) rfl rfl (fun ha72 hb73 hf74 => ?_)
                                    refine v_ret0 (hz_X12_readCompany hT _ _ rfl) ?_
                                    exact rRd_y (P := (pAdd P ((τ 4 (i + 1))) (y22 * 8 + x22) (y28 * 8 + x28) x54)) (j := i + 1 + 1 + 1 + 1 + 1 + 1 + 1 + 1 + 1 + 1) (by simp only [pCompany, pWord, pBy, pCi, (show ¬ 6 ≤ P 0 3 from by omega), hc8, pIx_n hc13, hc19, q23, hc25, q29, hc32, q55, ne_eq, not_true_eq_false, not_false_eq_true, if_true, if_false, eq_self, eb_l, eb_r]) (rX.z (r := 126) (k := 2203) (v := (0, ((P 0 3) + 1))) (by decide) (rX.z (r := 126) (k := (((2463 + (P 0 3))).toNat)) (v := (0, x54)) (by decide) (rX.z (r := 126) (k := (((2451 + (P 0 3))).toNat)) (v := (0, (P 0 0 * y28 + x28))) (by decide) (rX.z (r := 126) (k := (((2457 + (P 0 3))).toNat)) (v := (0, (P 0 0 * y22 + x22))) (by decide) (rX.z (r := 126) (k := (((2445 + (P 0 3))).toNat)) (v := (0, (P 0 0 * y22 + x22))) (by decide) hX55))))) (rW.add (x := x22) (y := y22) (x' := x28) (y' := y28) (b := x54) (by omega) (by omega) (by omega) (by omega) (by omega) (by omega) (rW.qf (rW.qf (rW.qf (rW.qf (rW.qf (rW.qf (rW.qf (rL.wr (nm := (τ 4 (i + 1))) (by omega) (rL.qf hL ft7)) ft18) ft20) ft23) ft26) ft29) ft51) ft55)) (rF.z (a := 126) (b := 2203) (v := (0, ((P 0 3) + 1))) (by omega) (rF.z (a := 126) (b := (((2463 + (P 0 3))).toNat)) (v := (0, x54)) (by omega) (rF.z (a := 126) (b := (((2451 + (P 0 3))).toNat)) (v := (0, (P 0 0 * y28 + x28))) (by omega) (rF.z (a := 126) (b := (((2457 + (P 0 3))).toNat)) (v := (0, (P 0 0 * y22 + x22))) (by omega) (rF.z (a := 126) (b := (((2445 + (P 0 3))).toNat)) (v := (0, (P 0 0 * y22 + x22))) (by omega) (rF.t (rF.t (rF.t (rF.t (rF.t (rF.t (rF.t (rF.z (a := 128) (b := (((24 + (P 0 3))).toNat)) (v := (1, (τ 4 (i + 1)))) (by omega) (rF.t rF.rfl ft7)) ft18) ft20) ft23) ft26) ft29) ft51) ft55)))))) (show (0 ≤ P 0 0 ∧ P 0 0 ≤ 8) ∧ (0 ≤ P 0 1 ∧ P 0 1 ≤ 6) ∧ (0 ≤ P 0 2 ∧ P 0 2 ≤ 3) ∧ (0 ≤ P 0 3 + 1 ∧ P 0 3 + 1 ≤ 6) from by omega)
                                  · show vP D T N 296 166 g56 [some (2, 121), some (0, (P 0 3)), some (0, (P 0 0 * y22 + x22)), some (0, (P 0 0 * y28 + x28)), some (0, 0)] [(0, 0)] _
                                    refine vP_hv (fun hv56 => ?_)
                                    refine v_store1 [some (2, 121), some (0, (P 0 3)), some (0, (P 0 0 * y22 + x22)), some (0, (P 0 0 * y28 + x28)), some (0, 0)] (hz_X12_readCompany hT _ _ rfl) ⟨rfl, Nat.ne_of_beq_eq_false rfl⟩ (Nat.le_of_ble_eq_true rfl) rfl ?_
                                    refine v_load (v := (2, 121)) (hi_X12_readCompany_168 hT) rfl rfl ?_
                                    refine v_getf (v := (0, e56.1)) (r := 121) (hi_X12_readCompany_169 hT) rfl rfl (fun _ => c56.1) ?_
                                    refine v_if (hi_X12_readCompany_172 hT) (fun _ => ?_) (fun hc75 => absurd (show 0 < e56.1 from c56.2.1) hc75)
                                    refine v_ret0 (hi_X12_readCompany_175 hT) ?_
                                    exact rRd_n (e := e56) (by simp only [pCompany, pWord, pBy, pCi, (show ¬ 6 ≤ P 0 3 from by omega), hc8, pIx_n hc13, hc19, q23, hc25, q29, hc32, q56, ne_eq, not_true_eq_false, not_false_eq_true, if_true, if_false, eq_self, eb_l, eb_r]) c56 (rF.t (rF.t (rF.t (rF.t (rF.t (rF.t (rF.t (rF.z (a := 128) (b := (((24 + (P 0 3))).toNat)) (v := (1, (τ 4 (i + 1)))) (by omega) (rF.t rF.rfl ft7)) ft18) ft20) ft23) ft26) ft29) ft51) ft56)
                          · show vP D T N 296 129 g30 [some (2, 121), some (0, (P 0 3)), some (0, (P 0 0 * y22 + x22)), none, none] [(0, v28)] _
                            refine vP_hv (fun hv30 => ?_)
                            refine v_store1 [some (2, 121), some (0, (P 0 3)), some (0, (P 0 0 * y22 + x22)), some (0, v28), none] (hi_X12_readCompany_129 hT) ⟨rfl, Nat.ne_of_beq_eq_false rfl⟩ (Nat.le_of_ble_eq_true rfl) rfl ?_
                            refine v_push (0) (hi_X12_readCompany_130 hT) rfl ?_
                            refine v_store1 [some (2, 121), some (0, (P 0 3)), some (0, (P 0 0 * y22 + x22)), some (0, v28), some (0, 0)] (hi_X12_readCompany_131 hT) ⟨rfl, Nat.ne_of_beq_eq_false rfl⟩ (Nat.le_of_ble_eq_true rfl) rfl ?_
                            refine v_load (v := (2, 121)) (hi_X12_readCompany_133 hT) rfl rfl ?_
                            refine v_getf (v := (0, e30.1)) (r := 121) (hi_X12_readCompany_134 hT) rfl rfl (fun _ => c30.1) ?_
                            refine v_if (hi_X12_readCompany_137 hT) (fun hc76 => absurd (show e30.1 = 0 from hc76) (by have := c30.2.1; omega)) (fun _ => ?_)
                            refine v_load (v := (2, 121)) (hi_X12_readCompany_168 hT) rfl rfl ?_
                            refine v_getf (v := (0, e30.1)) (r := 121) (hi_X12_readCompany_169 hT) rfl rfl (fun _ => c30.1) ?_
                            refine v_if (hi_X12_readCompany_172 hT) (fun _ => ?_) (fun hc77 => absurd (show 0 < e30.1 from c30.2.1) hc77)
                            refine v_ret0 (hi_X12_readCompany_175 hT) ?_
                            exact rRd_n (e := e30) (by simp only [pCompany, pWord, pBy, pCi, (show ¬ 6 ≤ P 0 3 from by omega), hc8, pIx_n hc13, hc19, q23, hc25, q30, ne_eq, not_true_eq_false, not_false_eq_true, if_true, if_false, eq_self, eb_l, eb_r]) c30 (rF.t (rF.t (rF.t (rF.t (rF.t (rF.z (a := 128) (b := (((24 + (P 0 3))).toNat)) (v := (1, (τ 4 (i + 1)))) (by omega) (rF.t rF.rfl ft7)) ft18) ft20) ft23) ft26) ft30)
                        · show vP D T N 296 122 g27 [some (2, 121), some (0, (P 0 3)), some (0, (P 0 0 * y22 + x22)), none, none] [] _
                          refine vP_hv (fun hv27 => ?_)
                          refine v_load (v := (2, 121)) (hi_X12_readCompany_122 hT) rfl rfl ?_
                          refine v_push (2200) (hi_X12_readCompany_123 hT) rfl ?_
                          refine v_call (w := 4) [some (2, 121), some (0, 2200), none, none] hO (hi_X12_readCompany_126 hT) rfl rfl (rx_cellB_2200 hT hO ((P 0 0)) ((P 0 1)) c27 (Eq.trans (ft27 126 2200 (by first | decide | exact fun c => by omega)) (Eq.trans (ft23 126 2200 (by first | decide | exact fun c => by omega)) (Eq.trans (ft20 126 2200 (by first | decide | exact fun c => by omega)) (Eq.trans (ft18 126 2200 (by first | decide | exact fun c => by omega)) (Eq.trans (zset_ne (fun c => absurd c.1 (by decide))) ((Eq.trans (ft7 126 2200 (by first | decide | exact fun c => by omega)) hL.w))))))) (Eq.trans (ft27 126 2201 (by first | decide | exact fun c => by omega)) (Eq.trans (ft23 126 2201 (by first | decide | exact fun c => by omega)) (Eq.trans (ft20 126 2201 (by first | decide | exact fun c => by omega)) (Eq.trans (ft18 126 2201 (by first | decide | exact fun c => by omega)) (Eq.trans (zset_ne (fun c => absurd c.1 (by decide))) ((Eq.trans (ft7 126 2201 (by first | decide | exact fun c => by omega)) hL.ro))))))) (by omega) (by omega) (fun v78 bva78 bvb78 => ?_))
                          · show vP D T N 296 129 g27 [some (2, 121), some (0, (P 0 3)), some (0, (P 0 0 * y22 + x22)), none, none] [(0, v78)] _
                            refine v_store1 [some (2, 121), some (0, (P 0 3)), some (0, (P 0 0 * y22 + x22)), some (0, v78), none] (hi_X12_readCompany_129 hT) ⟨rfl, Nat.ne_of_beq_eq_false rfl⟩ (Nat.le_of_ble_eq_true rfl) rfl ?_
                            refine v_push (0) (hi_X12_readCompany_130 hT) rfl ?_
                            refine v_store1 [some (2, 121), some (0, (P 0 3)), some (0, (P 0 0 * y22 + x22)), some (0, v78), some (0, 0)] (hi_X12_readCompany_131 hT) ⟨rfl, Nat.ne_of_beq_eq_false rfl⟩ (Nat.le_of_ble_eq_true rfl) rfl ?_
                            refine v_load (v := (2, 121)) (hi_X12_readCompany_133 hT) rfl rfl ?_
                            refine v_getf (v := (0, (eF τ (i + 1 + 1 + 1 + 1 + 1) 2).1)) (r := 121) (hi_X12_readCompany_134 hT) rfl rfl (fun _ => c27.1) ?_
                            refine v_if (hi_X12_readCompany_137 hT) (fun hc79 => absurd (show (eF τ (i + 1 + 1 + 1 + 1 + 1) 2).1 = 0 from hc79) (by have := c27.2.1; omega)) (fun _ => ?_)
                            refine v_load (v := (2, 121)) (hi_X12_readCompany_168 hT) rfl rfl ?_
                            refine v_getf (v := (0, (eF τ (i + 1 + 1 + 1 + 1 + 1) 2).1)) (r := 121) (hi_X12_readCompany_169 hT) rfl rfl (fun _ => c27.1) ?_
                            refine v_if (hi_X12_readCompany_172 hT) (fun _ => ?_) (fun hc80 => absurd (show 0 < (eF τ (i + 1 + 1 + 1 + 1 + 1) 2).1 from c27.2.1) hc80)
                            refine v_ret0 (hi_X12_readCompany_175 hT) ?_
                            exact rRd_n (e := (eF τ (i + 1 + 1 + 1 + 1 + 1) 2)) (by simp only [pCompany, pWord, pBy, pCi, (show ¬ 6 ≤ P 0 3 from by omega), hc8, pIx_n hc13, hc19, q23, hc27, ne_eq, not_true_eq_false, not_false_eq_true, if_true, if_false, eq_self, eb_l, eb_r]) c27 (rF.t (rF.t (rF.t (rF.t (rF.z (a := 128) (b := (((24 + (P 0 3))).toNat)) (v := (1, (τ 4 (i + 1)))) (by omega) (rF.t rF.rfl ft7)) ft18) ft20) ft23) ft27)
                    · show vP D T N 296 113 g24 [some (2, 121), some (0, (P 0 3)), none, none, none] [(0, v22)] _
                      refine vP_hv (fun hv24 => ?_)
                      refine v_store1 [some (2, 121), some (0, (P 0 3)), some (0, v22), none, none] (hz_X12_readCompany hT _ _ rfl) ⟨rfl, Nat.ne_of_beq_eq_false rfl⟩ (Nat.le_of_ble_eq_true rfl) rfl ?_
                      refine v_load (v := (2, 121)) (hz_X12_readCompany hT _ _ rfl) rfl rfl ?_
                      refine v_load (v := (2, 121)) (hz_X12_readCompany hT _ _ rfl) rfl rfl ?_
                      refine v_call (w := 1) [some (2, 121)] hO (hz_X12_readCompany hT _ _ rfl) rfl rfl (rb_any_isTo hT hO (fun v81 => ?_))
                      · show vP D T N 296 119 g24 [some (2, 121), some (0, (P 0 3)), some (0, v22), none, none] [(0, v81), (2, 121)] _
                        refine v_call (w := 2) [some (2, 121), some (0, v81)] hO (hz_X12_readCompany hT _ _ rfl) rfl rfl (rx_mustB hT hO v81 c24 ?_)
                        · show vP D T N 296 122 g24 [some (2, 121), some (0, (P 0 3)), some (0, v22), none, none] [] _
                          refine v_load (v := (2, 121)) (hi_X12_readCompany_122 hT) rfl rfl ?_
                          refine v_push (2200) (hi_X12_readCompany_123 hT) rfl ?_
                          refine v_call (w := 4) [some (2, 121), some (0, 2200), none, none] hO (hi_X12_readCompany_126 hT) rfl rfl (rx_cellB_2200 hT hO ((P 0 0)) ((P 0 1)) c24 (Eq.trans (ft24 126 2200 (by first | decide | exact fun c => by omega)) (Eq.trans (ft20 126 2200 (by first | decide | exact fun c => by omega)) (Eq.trans (ft18 126 2200 (by first | decide | exact fun c => by omega)) (Eq.trans (zset_ne (fun c => absurd c.1 (by decide))) ((Eq.trans (ft7 126 2200 (by first | decide | exact fun c => by omega)) hL.w)))))) (Eq.trans (ft24 126 2201 (by first | decide | exact fun c => by omega)) (Eq.trans (ft20 126 2201 (by first | decide | exact fun c => by omega)) (Eq.trans (ft18 126 2201 (by first | decide | exact fun c => by omega)) (Eq.trans (zset_ne (fun c => absurd c.1 (by decide))) ((Eq.trans (ft7 126 2201 (by first | decide | exact fun c => by omega)) hL.ro)))))) (by omega) (by omega) (fun v82 bva82 bvb82 => ?_))
                          · show vP D T N 296 129 g24 [some (2, 121), some (0, (P 0 3)), some (0, v22), none, none] [(0, v82)] _
                            refine v_store1 [some (2, 121), some (0, (P 0 3)), some (0, v22), some (0, v82), none] (hi_X12_readCompany_129 hT) ⟨rfl, Nat.ne_of_beq_eq_false rfl⟩ (Nat.le_of_ble_eq_true rfl) rfl ?_
                            refine v_push (0) (hi_X12_readCompany_130 hT) rfl ?_
                            refine v_store1 [some (2, 121), some (0, (P 0 3)), some (0, v22), some (0, v82), some (0, 0)] (hi_X12_readCompany_131 hT) ⟨rfl, Nat.ne_of_beq_eq_false rfl⟩ (Nat.le_of_ble_eq_true rfl) rfl ?_
                            refine v_load (v := (2, 121)) (hi_X12_readCompany_133 hT) rfl rfl ?_
                            refine v_getf (v := (0, e24.1)) (r := 121) (hi_X12_readCompany_134 hT) rfl rfl (fun _ => c24.1) ?_
                            refine v_if (hi_X12_readCompany_137 hT) (fun hc83 => absurd (show e24.1 = 0 from hc83) (by have := c24.2.1; omega)) (fun _ => ?_)
                            refine v_load (v := (2, 121)) (hi_X12_readCompany_168 hT) rfl rfl ?_
                            refine v_getf (v := (0, e24.1)) (r := 121) (hi_X12_readCompany_169 hT) rfl rfl (fun _ => c24.1) ?_
                            refine v_if (hi_X12_readCompany_172 hT) (fun _ => ?_) (fun hc84 => absurd (show 0 < e24.1 from c24.2.1) hc84)
                            refine v_ret0 (hi_X12_readCompany_175 hT) ?_
                            exact rRd_n (e := e24) (by simp only [pCompany, pWord, pBy, pCi, (show ¬ 6 ≤ P 0 3 from by omega), hc8, pIx_n hc13, hc19, q24, ne_eq, not_true_eq_false, not_false_eq_true, if_true, if_false, eq_self, eb_l, eb_r]) c24 (rF.t (rF.t (rF.t (rF.z (a := 128) (b := (((24 + (P 0 3))).toNat)) (v := (1, (τ 4 (i + 1)))) (by omega) (rF.t rF.rfl ft7)) ft18) ft20) ft24)
                  · show vP D T N 296 106 g21 [some (2, 121), some (0, (P 0 3)), none, none, none] [] _
                    refine vP_hv (fun hv21 => ?_)
                    refine v_load (v := (2, 121)) (hz_X12_readCompany hT _ _ rfl) rfl rfl ?_
                    refine v_push (2200) (hz_X12_readCompany hT _ _ rfl) rfl ?_
                    refine v_call (w := 4) [some (2, 121), some (0, 2200), none, none] hO (hz_X12_readCompany hT _ _ rfl) rfl rfl (rx_cellB_2200 hT hO ((P 0 0)) ((P 0 1)) c21 (Eq.trans (ft21 126 2200 (by first | decide | exact fun c => by omega)) (Eq.trans (ft18 126 2200 (by first | decide | exact fun c => by omega)) (Eq.trans (zset_ne (fun c => absurd c.1 (by decide))) ((Eq.trans (ft7 126 2200 (by first | decide | exact fun c => by omega)) hL.w))))) (Eq.trans (ft21 126 2201 (by first | decide | exact fun c => by omega)) (Eq.trans (ft18 126 2201 (by first | decide | exact fun c => by omega)) (Eq.trans (zset_ne (fun c => absurd c.1 (by decide))) ((Eq.trans (ft7 126 2201 (by first | decide | exact fun c => by omega)) hL.ro))))) (by omega) (by omega) (fun v85 bva85 bvb85 => ?_))
                    · show vP D T N 296 113 g21 [some (2, 121), some (0, (P 0 3)), none, none, none] [(0, v85)] _
                      refine v_store1 [some (2, 121), some (0, (P 0 3)), some (0, v85), none, none] (hz_X12_readCompany hT _ _ rfl) ⟨rfl, Nat.ne_of_beq_eq_false rfl⟩ (Nat.le_of_ble_eq_true rfl) rfl ?_
                      refine v_load (v := (2, 121)) (hz_X12_readCompany hT _ _ rfl) rfl rfl ?_
                      refine v_load (v := (2, 121)) (hz_X12_readCompany hT _ _ rfl) rfl rfl ?_
                      refine v_call (w := 1) [some (2, 121)] hO (hz_X12_readCompany hT _ _ rfl) rfl rfl (rb_any_isTo hT hO (fun v86 => ?_))
                      · show vP D T N 296 119 g21 [some (2, 121), some (0, (P 0 3)), some (0, v85), none, none] [(0, v86), (2, 121)] _
                        refine v_call (w := 2) [some (2, 121), some (0, v86)] hO (hz_X12_readCompany hT _ _ rfl) rfl rfl (rx_mustB hT hO v86 c21 ?_)
                        · show vP D T N 296 122 g21 [some (2, 121), some (0, (P 0 3)), some (0, v85), none, none] [] _
                          refine v_load (v := (2, 121)) (hi_X12_readCompany_122 hT) rfl rfl ?_
                          refine v_push (2200) (hi_X12_readCompany_123 hT) rfl ?_
                          refine v_call (w := 4) [some (2, 121), some (0, 2200), none, none] hO (hi_X12_readCompany_126 hT) rfl rfl (rx_cellB_2200 hT hO ((P 0 0)) ((P 0 1)) c21 (Eq.trans (ft21 126 2200 (by first | decide | exact fun c => by omega)) (Eq.trans (ft18 126 2200 (by first | decide | exact fun c => by omega)) (Eq.trans (zset_ne (fun c => absurd c.1 (by decide))) ((Eq.trans (ft7 126 2200 (by first | decide | exact fun c => by omega)) hL.w))))) (Eq.trans (ft21 126 2201 (by first | decide | exact fun c => by omega)) (Eq.trans (ft18 126 2201 (by first | decide | exact fun c => by omega)) (Eq.trans (zset_ne (fun c => absurd c.1 (by decide))) ((Eq.trans (ft7 126 2201 (by first | decide | exact fun c => by omega)) hL.ro))))) (by omega) (by omega) (fun v87 bva87 bvb87 => ?_))
                          · show vP D T N 296 129 g21 [some (2, 121), some (0, (P 0 3)), some (0, v85), none, none] [(0, v87)] _
                            refine v_store1 [some (2, 121), some (0, (P 0 3)), some (0, v85), some (0, v87), none] (hi_X12_readCompany_129 hT) ⟨rfl, Nat.ne_of_beq_eq_false rfl⟩ (Nat.le_of_ble_eq_true rfl) rfl ?_
                            refine v_push (0) (hi_X12_readCompany_130 hT) rfl ?_
                            refine v_store1 [some (2, 121), some (0, (P 0 3)), some (0, v85), some (0, v87), some (0, 0)] (hi_X12_readCompany_131 hT) ⟨rfl, Nat.ne_of_beq_eq_false rfl⟩ (Nat.le_of_ble_eq_true rfl) rfl ?_
                            refine v_load (v := (2, 121)) (hi_X12_readCompany_133 hT) rfl rfl ?_
                            refine v_getf (v := (0, (eF τ (i + 1 + 1) 2).1)) (r := 121) (hi_X12_readCompany_134 hT) rfl rfl (fun _ => c21.1) ?_
                            refine v_if (hi_X12_readCompany_137 hT) (fun hc88 => absurd (show (eF τ (i + 1 + 1) 2).1 = 0 from hc88) (by have := c21.2.1; omega)) (fun _ => ?_)
                            refine v_load (v := (2, 121)) (hi_X12_readCompany_168 hT) rfl rfl ?_
                            refine v_getf (v := (0, (eF τ (i + 1 + 1) 2).1)) (r := 121) (hi_X12_readCompany_169 hT) rfl rfl (fun _ => c21.1) ?_
                            refine v_if (hi_X12_readCompany_172 hT) (fun _ => ?_) (fun hc89 => absurd (show 0 < (eF τ (i + 1 + 1) 2).1 from c21.2.1) hc89)
                            refine v_ret0 (hi_X12_readCompany_175 hT) ?_
                            exact rRd_n (e := (eF τ (i + 1 + 1) 2)) (by simp only [pCompany, pWord, pBy, pCi, (show ¬ 6 ≤ P 0 3 from by omega), hc8, pIx_n hc13, hc21, ne_eq, not_true_eq_false, not_false_eq_true, if_true, if_false, eq_self, eb_l, eb_r]) c21 (rF.t (rF.t (rF.z (a := 128) (b := (((24 + (P 0 3))).toNat)) (v := (1, (τ 4 (i + 1)))) (by omega) (rF.t rF.rfl ft7)) ft18) ft21)
            · have hc13 : 0 ≤ (pIx (P 4) (τ 4 (i + 1)) (P 0 3).toNat 0) := Int.not_lt.mp hc13
              refine v_load (v := (2, 121)) (hz_X12_readCompany hT _ _ rfl) rfl rfl ?_
              refine v_push (3) (hz_X12_readCompany hT _ _ rfl) rfl ?_
              refine v_load (v := (2, 121)) (hz_X12_readCompany hT _ _ rfl) rfl rfl ?_
              refine v_getf (v := (0, (τ 1 (i + 1)))) (r := 121) (hz_X12_readCompany hT _ _ rfl) rfl rfl (fun _ => hX7.ps) ?_
              refine v_call (w := 3) [some (2, 121), some (0, 3), some (0, (τ 1 (i + 1)))] hO (hz_X12_readCompany hT _ _ rfl) rfl rfl (rx_fail hT hO 3 hX7 (bN_y.mp hc8).1 (by decide) (fun g90 ft90 c90 => ?_))
              · show vP D T N 296 73 g90 [some (2, 121), some (0, (P 0 3)), none, none, none] [] _
                refine vP_hv (fun hv90 => ?_)
                refine v_load (v := (2, 121)) (hz_X12_readCompany hT _ _ rfl) rfl rfl ?_
                refine v_getf (v := (0, (eF τ (i + 1) 3).1)) (r := 121) (hz_X12_readCompany hT _ _ rfl) rfl rfl (fun _ => c90.1) ?_
                refine v_if (hz_X12_readCompany hT _ _ rfl) (fun _ => ?_) (fun hc91 => absurd (show 0 < (eF τ (i + 1) 3).1 from c90.2.1) hc91)
                refine v_ret0 (hz_X12_readCompany hT _ _ rfl) ?_
                exact rRd_n (e := (eF τ (i + 1) 3)) (by simp only [pCompany, pWord, pBy, pCi, (show ¬ 6 ≤ P 0 3 from by omega), hc8, pIx_y hc13, ne_eq, not_true_eq_false, not_false_eq_true, if_true, if_false, eq_self, eb_l, eb_r]) c90 (rF.t (rF.t rF.rfl ft7) ft90)
theorem qr_row0 {D : zD} {T : zT} (hT : hTab T) (hO : vOK T) {N : Nat} {h : zH} {Q : zR → Prop} {B : Nat → Int} {n m i : Nat} {τ P : PT} (hv0 : zHv h) (hX : rX B n m τ i h) (hL : rL P h) (hb : (0 ≤ P 0 0 ∧ P 0 0 ≤ 8) ∧ (0 ≤ P 0 1 ∧ P 0 1 ≤ 6) ∧ (0 ≤ P 0 2 ∧ P 0 2 ≤ 3) ∧ (0 ≤ P 0 3 ∧ P 0 3 ≤ 6)) (h1 : bW τ 1 i ≠ 0)
    (k0 : ((P 0 1) = 6) → ∀ (g4 : zH), (qF h g4) → (rE (eF τ i 6) g4) → Q (g4, none))
    (k1 : ((P 0 1) ≠ 6) → ∀ (g7 : zH), (qF h g7) → (rX B n m τ (i + 1) g7) → ((τ 0 (i + 1)) = 1) → ((τ 2 (i + 1) - τ 1 (i + 1)) = (P 0 0)) → vP D T N 303 68 g7 [some (2, 121), some (0, (P 0 1)), some (0, 1), some (0, 0)] [] Q)
    (k2 : ((P 0 1) ≠ 6) → ∀ (g7 : zH), (qF h g7) → (rX B n m τ (i + 1) g7) → ((τ 0 (i + 1)) = 1) → ((τ 2 (i + 1) - τ 1 (i + 1)) ≠ (P 0 0)) → vP D T N 303 68 g7 [some (2, 121), some (0, (P 0 1)), some (0, 0), some (0, 0)] [] Q)
    (k3 : ((P 0 1) ≠ 6) → ∀ (g7 : zH), (qF h g7) → (rX B n m τ (i + 1) g7) → ((τ 0 (i + 1)) ≠ 1) → vP D T N 303 68 g7 [some (2, 121), some (0, (P 0 1)), some (0, 0), some (0, 0)] [] Q) :
    vP D T N 303 0 h [some (2, 121), none, none, none] [] Q := by
  refine v_load (v := (2, 121)) (hz_X12_readRow hT _ _ rfl) rfl rfl ?_
  refine v_getR (c := 126) (r := 121) (hz_X12_readRow hT _ _ rfl) rfl rfl rfl ?_
  refine v_push (2201) (hz_X12_readRow hT _ _ rfl) rfl ?_
  refine v_aldV (v := (0, (P 0 1))) (r := 126) (hz_X12_readRow hT _ _ rfl) rfl rfl (fun _ _ _ => hL.ro) (fun ha1 hb2 => ?_)
  refine v_store1 [some (2, 121), some (0, (P 0 1)), none, none] (hz_X12_readRow hT _ _ rfl) ⟨rfl, Nat.ne_of_beq_eq_false rfl⟩ (Nat.le_of_ble_eq_true rfl) rfl ?_
  refine v_load (v := (0, (P 0 1))) (hz_X12_readRow hT _ _ rfl) rfl rfl ?_
  refine v_push (6) (hz_X12_readRow hT _ _ rfl) rfl ?_
  refine v_ic (hz_X12_readRow hT _ _ rfl) (fun hc3 => ?_) (fun hc3 => ?_)
  · have hc3 : (P 0 1) = 6 := hc3
    refine v_load (v := (2, 121)) (hz_X12_readRow hT _ _ rfl) rfl rfl ?_
    refine v_push (6) (hz_X12_readRow hT _ _ rfl) rfl ?_
    refine v_load (v := (2, 121)) (hz_X12_readRow hT _ _ rfl) rfl rfl ?_
    refine v_getf (v := (0, (τ 1 i))) (r := 121) (hz_X12_readRow hT _ _ rfl) rfl rfl (fun _ => hX.ps) ?_
    refine v_call (w := 3) [some (2, 121), some (0, 6), some (0, (τ 1 i))] hO (hz_X12_readRow hT _ _ rfl) rfl rfl (rx_fail hT hO 6 hX (bW_y.mp h1).1 (by decide) (fun g4 ft4 c4 => ?_))
    · show vP D T N 303 25 g4 [some (2, 121), some (0, (P 0 1)), none, none] [] _
      refine vP_hv (fun hv4 => ?_)
      refine v_load (v := (2, 121)) (hz_X12_readRow hT _ _ rfl) rfl rfl ?_
      refine v_getf (v := (0, (eF τ i 6).1)) (r := 121) (hz_X12_readRow hT _ _ rfl) rfl rfl (fun _ => c4.1) ?_
      refine v_if (hz_X12_readRow hT _ _ rfl) (fun _ => ?_) (fun hc5 => absurd (show 0 < (eF τ i 6).1 from c4.2.1) hc5)
      refine v_ret0 (hz_X12_readRow hT _ _ rfl) ?_
      exact k0 hc3 g4 ft4 c4
  · have hc3 : (P 0 1) ≠ 6 := hc3
    refine v_load (v := (2, 121)) (hz_X12_readRow hT _ _ rfl) rfl rfl ?_
    refine v_getf (v := (0, 0)) (r := 121) (hz_X12_readRow hT _ _ rfl) rfl rfl (fun _ => hX.b) ?_
    refine v_if (hz_X12_readRow hT _ _ rfl) (fun hc6 => absurd (show 0 < (0 : Int) from hc6) (by decide)) (fun _ => ?_)
    refine v_load (v := (2, 121)) (hz_X12_readRow hT _ _ rfl) rfl rfl ?_
    refine v_call (w := 2) [some (2, 121), none] hO (hz_X12_readRow hT _ _ rfl) rfl rfl (rx_next hT hO hX (ne_10 (bW_y.mp h1).1) (ne_14 (bW_y.mp h1).1) (fun g7 ft7 hX7 => ?_))
    · show vP D T N 303 37 g7 [some (2, 121), some (0, (P 0 1)), none, none] [] _
      refine vP_hv (fun hv7 => ?_)
      refine v_load (v := (2, 121)) (hz_X12_readRow hT _ _ rfl) rfl rfl ?_
      refine v_getf (v := (0, (τ 0 (i + 1)))) (r := 121) (hz_X12_readRow hT _ _ rfl) rfl rfl (fun _ => hX7.tk) ?_
      refine v_push (1) (hz_X12_readRow hT _ _ rfl) rfl ?_
      refine v_ic (hz_X12_readRow hT _ _ rfl) (fun hc8 => ?_) (fun hc8 => ?_)
      · have hc8 : (τ 0 (i + 1)) = 1 := hc8
        refine v_load (v := (2, 121)) (hz_X12_readRow hT _ _ rfl) rfl rfl ?_
        refine v_getf (v := (0, (τ 2 (i + 1) - τ 1 (i + 1)))) (r := 121) (hz_X12_readRow hT _ _ rfl) rfl rfl (fun _ => (hX7.ln hc8)) ?_
        refine v_load (v := (2, 121)) (hz_X12_readRow hT _ _ rfl) rfl rfl ?_
        refine v_getR (c := 126) (r := 121) (hz_X12_readRow hT _ _ rfl) rfl rfl rfl ?_
        refine v_push (2200) (hz_X12_readRow hT _ _ rfl) rfl ?_
        refine v_aldV (v := (0, (P 0 0))) (r := 126) (hz_X12_readRow hT _ _ rfl) rfl rfl (fun _ _ _ => (Eq.trans (ft7 126 2200 (by first | decide | exact fun c => by omega)) hL.w)) (fun ha9 hb10 => ?_)
        refine v_ic (hz_X12_readRow hT _ _ rfl) (fun hc11 => ?_) (fun hc11 => ?_)
        · have hc11 : (τ 2 (i + 1) - τ 1 (i + 1)) = (P 0 0) := hc11
          refine v_push (1) (hz_X12_readRow hT _ _ rfl) rfl ?_
          refine v_goto (hz_X12_readRow hT _ _ rfl) ?_
          refine v_store1 [some (2, 121), some (0, (P 0 1)), some (0, 1), none] (hz_X12_readRow hT _ _ rfl) ⟨rfl, Nat.ne_of_beq_eq_false rfl⟩ (Nat.le_of_ble_eq_true rfl) rfl ?_
          refine v_push (0) (hz_X12_readRow hT _ _ rfl) rfl ?_
          refine v_store1 [some (2, 121), some (0, (P 0 1)), some (0, 1), some (0, 0)] (hz_X12_readRow hT _ _ rfl) ⟨rfl, Nat.ne_of_beq_eq_false rfl⟩ (Nat.le_of_ble_eq_true rfl) rfl ?_
          exact k1 hc3 g7 ft7 hX7 hc8 hc11
        · have hc11 : (τ 2 (i + 1) - τ 1 (i + 1)) ≠ (P 0 0) := hc11
          refine v_push (0) (hz_X12_readRow hT _ _ rfl) rfl ?_
          refine v_store1 [some (2, 121), some (0, (P 0 1)), some (0, 0), none] (hz_X12_readRow hT _ _ rfl) ⟨rfl, Nat.ne_of_beq_eq_false rfl⟩ (Nat.le_of_ble_eq_true rfl) rfl ?_
          refine v_push (0) (hz_X12_readRow hT _ _ rfl) rfl ?_
          refine v_store1 [some (2, 121), some (0, (P 0 1)), some (0, 0), some (0, 0)] (hz_X12_readRow hT _ _ rfl) ⟨rfl, Nat.ne_of_beq_eq_false rfl⟩ (Nat.le_of_ble_eq_true rfl) rfl ?_
          exact k2 hc3 g7 ft7 hX7 hc8 hc11
      · have hc8 : (τ 0 (i + 1)) ≠ 1 := hc8
        refine v_push (0) (hz_X12_readRow hT _ _ rfl) rfl ?_
        refine v_store1 [some (2, 121), some (0, (P 0 1)), some (0, 0), none] (hz_X12_readRow hT _ _ rfl) ⟨rfl, Nat.ne_of_beq_eq_false rfl⟩ (Nat.le_of_ble_eq_true rfl) rfl ?_
        refine v_push (0) (hz_X12_readRow hT _ _ rfl) rfl ?_
        refine v_store1 [some (2, 121), some (0, (P 0 1)), some (0, 0), some (0, 0)] (hz_X12_readRow hT _ _ rfl) ⟨rfl, Nat.ne_of_beq_eq_false rfl⟩ (Nat.le_of_ble_eq_true rfl) rfl ?_
        exact k3 hc3 g7 ft7 hX7 hc8
theorem qr_row68 {D : zD} {T : zT} (hT : hTab T) (hO : vOK T) {N : Nat} {h : zH} {Q : zR → Prop} {B : Nat → Int} {n m i : Nat} {τ P : PT} (u x : Int) (hv0 : zHv h) (hX : rX B n m τ i h) (hL : rL P h) (hb : (0 ≤ P 0 0 ∧ P 0 0 ≤ 8) ∧ (0 ≤ P 0 1 ∧ P 0 1 ≤ 6) ∧ (0 ≤ P 0 2 ∧ P 0 2 ≤ 3) ∧ (0 ≤ P 0 3 ∧ P 0 3 ≤ 6)) (h6 : P 0 1 < 6) (hx : 0 ≤ x ∧ x ≤ 8) (b1 : 0 ≤ τ 1 i ∧ τ 1 i ≤ 900)
    (k0 : (u = 0) → ∀ (g3 : zH), (qF h g3) → (rE (eF τ i 2) g3) → Q (g3, none))
    (k1 : (u ≠ 0) → (x < (P 0 0)) → ((lt ((lk B n (((τ 1 i) + x))))) < 0) → vP D T N 303 68 h [some (2, 121), some (0, (P 0 1)), some (0, 0), some (0, (x + 1))] [] Q)
    (k2 : (u ≠ 0) → (x < (P 0 0)) → (0 ≤ (lt ((lk B n (((τ 1 i) + x)))))) → vP D T N 303 68 h [some (2, 121), some (0, (P 0 1)), some (0, 1), some (0, (x + 1))] [] Q)
    (k3 : (u ≠ 0) → ((P 0 0) ≤ x) → vP D T N 303 130 h [some (2, 121), some (0, (P 0 1)), some (0, u), some (0, 0)] [] Q) :
    vP D T (N + 1) 303 68 h [some (2, 121), some (0, (P 0 1)), some (0, u), some (0, x)] [] Q := by
  refine v_loadS (v := (0, u)) (hz_X12_readRow hT _ _ rfl) rfl rfl ?_
  refine v_if (hz_X12_readRow hT _ _ rfl) (fun hc1 => ?_) (fun hc1 => ?_)
  · have hc1 : u = 0 := hc1
    refine v_load (v := (0, u)) (hz_X12_readRow hT _ _ rfl) rfl rfl ?_
    refine v_if (hz_X12_readRow hT _ _ rfl) (fun _ => ?_) (fun hc2 => absurd (show u = 0 from hc1) hc2)
    refine v_load (v := (2, 121)) (hz_X12_readRow hT _ _ rfl) rfl rfl ?_
    refine v_call (w := 1) [some (2, 121)] hO (hz_X12_readRow hT _ _ rfl) rfl rfl (rx_wrong hT hO hX (fun g3 ft3 c3 => ?_))
    · show vP D T N 303 120 g3 [some (2, 121), some (0, (P 0 1)), some (0, u), some (0, x)] [] _
      refine vP_hv (fun hv3 => ?_)
      refine v_load (v := (2, 121)) (hz_X12_readRow hT _ _ rfl) rfl rfl ?_
      refine v_getf (v := (0, (eF τ i 2).1)) (r := 121) (hz_X12_readRow hT _ _ rfl) rfl rfl (fun _ => c3.1) ?_
      refine v_if (hz_X12_readRow hT _ _ rfl) (fun _ => ?_) (fun hc4 => absurd (show 0 < (eF τ i 2).1 from c3.2.1) hc4)
      refine v_ret0 (hz_X12_readRow hT _ _ rfl) ?_
      exact k0 hc1 g3 ft3 c3
  · have hc1 : u ≠ 0 := hc1
    refine v_load (v := (0, x)) (hz_X12_readRow hT _ _ rfl) rfl rfl ?_
    refine v_load (v := (2, 121)) (hz_X12_readRow hT _ _ rfl) rfl rfl ?_
    refine v_getR (c := 126) (r := 121) (hz_X12_readRow hT _ _ rfl) rfl rfl rfl ?_
    refine v_push (2200) (hz_X12_readRow hT _ _ rfl) rfl ?_
    refine v_aldV (v := (0, (P 0 0))) (r := 126) (hz_X12_readRow hT _ _ rfl) rfl rfl (fun _ _ _ => hL.w) (fun ha5 hb6 => ?_)
    refine v_ic (hz_X12_readRow hT _ _ rfl) (fun hc7 => ?_) (fun hc7 => ?_)
    · have hc7 : x < (P 0 0) := hc7
      refine v_load (v := (2, 121)) (hz_X12_readRow hT _ _ rfl) rfl rfl ?_
      refine v_load (v := (2, 121)) (hz_X12_readRow hT _ _ rfl) rfl rfl ?_
      refine v_getf (v := (0, (τ 1 i))) (r := 121) (hz_X12_readRow hT _ _ rfl) rfl rfl (fun _ => hX.ps) ?_
      refine v_load (v := (0, x)) (hz_X12_readRow hT _ _ rfl) rfl rfl ?_
      refine v_bin (w := ((τ 1 i) + x)) (hz_X12_readRow hT _ _ rfl) (hq_add (by omega) (by omega)) ?_
      refine v_call (w := 2) [some (2, 121), some (0, ((τ 1 i) + x))] hO (hz_X12_readRow hT _ _ rfl) rfl rfl (r_look hT hO (rX.tx hX) (((τ 1 i) + x)) ?_)
      · show vP D T N 303 94 h [some (2, 121), some (0, (P 0 1)), some (0, u), some (0, x)] [(0, (lk B n (((τ 1 i) + x))))] _
        refine v_call (w := 1) [some (0, (lk B n (((τ 1 i) + x))))] hO (hz_X12_readRow hT _ _ rfl) rfl rfl (r_ground hT hO ((lk B n (((τ 1 i) + x)))) ?_)
        · show vP D T N 303 97 h [some (2, 121), some (0, (P 0 1)), some (0, u), some (0, x)] [(0, (lt ((lk B n (((τ 1 i) + x))))))] _
          refine v_if (hz_X12_readRow hT _ _ rfl) (fun hc8 => ?_) (fun hc8 => ?_)
          · have hc8 : (lt ((lk B n (((τ 1 i) + x))))) < 0 := hc8
            refine v_push (0) (hz_X12_readRow hT _ _ rfl) rfl ?_
            refine v_store1 [some (2, 121), some (0, (P 0 1)), some (0, 0), some (0, x)] (hz_X12_readRow hT _ _ rfl) ⟨rfl, Nat.ne_of_beq_eq_false rfl⟩ (Nat.le_of_ble_eq_true rfl) rfl ?_
            refine v_iinc (x := x) (u := 1) (w := (x + 1)) [some (2, 121), some (0, (P 0 1)), some (0, 0), some (0, (x + 1))] (hz_X12_readRow hT _ _ rfl) rfl rfl (Nat.le_of_ble_eq_true rfl) (vz_inc (by omega) (by omega)) rfl ?_
            refine v_goto (hz_X12_readRow hT _ _ rfl) ?_
            exact k1 hc1 hc7 hc8
          · have hc8 : 0 ≤ (lt ((lk B n (((τ 1 i) + x))))) := Int.not_lt.mp hc8
            refine v_push (1) (hz_X12_readRow hT _ _ rfl) rfl ?_
            refine v_goto (hz_X12_readRow hT _ _ rfl) ?_
            refine v_store1 [some (2, 121), some (0, (P 0 1)), some (0, 1), some (0, x)] (hz_X12_readRow hT _ _ rfl) ⟨rfl, Nat.ne_of_beq_eq_false rfl⟩ (Nat.le_of_ble_eq_true rfl) rfl ?_
            refine v_iinc (x := x) (u := 1) (w := (x + 1)) [some (2, 121), some (0, (P 0 1)), some (0, 1), some (0, (x + 1))] (hz_X12_readRow hT _ _ rfl) rfl rfl (Nat.le_of_ble_eq_true rfl) (vz_inc (by omega) (by omega)) rfl ?_
            refine v_goto (hz_X12_readRow hT _ _ rfl) ?_
            exact k2 hc1 hc7 hc8
    · have hc7 : (P 0 0) ≤ x := Int.not_lt.mp hc7
      refine v_load (v := (0, u)) (hz_X12_readRow hT _ _ rfl) rfl rfl ?_
      refine v_if (hz_X12_readRow hT _ _ rfl) (fun hc9 => absurd (show u = 0 from hc9) hc1) (fun _ => ?_)
      refine v_load (v := (2, 121)) (hz_X12_readRow hT _ _ rfl) rfl rfl ?_
      refine v_getf (v := (0, 0)) (r := 121) (hz_X12_readRow hT _ _ rfl) rfl rfl (fun _ => hX.b) ?_
      refine v_if (hz_X12_readRow hT _ _ rfl) (fun hc10 => absurd (show 0 < (0 : Int) from hc10) (by decide)) (fun _ => ?_)
      refine v_push (0) (hz_X12_readRow hT _ _ rfl) rfl ?_
      refine v_store1 [some (2, 121), some (0, (P 0 1)), some (0, u), some (0, 0)] (hz_X12_readRow hT _ _ rfl) ⟨rfl, Nat.ne_of_beq_eq_false rfl⟩ (Nat.le_of_ble_eq_true rfl) rfl ?_
      exact k3 hc1 hc7
theorem qr_row130 {D : zD} {T : zT} (hT : hTab T) (hO : vOK T) {N : Nat} {h : zH} {Q : zR → Prop} {B : Nat → Int} {n m i : Nat} {τ P : PT} (u x : Int) (hv0 : zHv h) (hX : rX B n m τ i h) (hL : rL P h) (hb : (0 ≤ P 0 0 ∧ P 0 0 ≤ 8) ∧ (0 ≤ P 0 1 ∧ P 0 1 ≤ 6) ∧ (0 ≤ P 0 2 ∧ P 0 2 ≤ 3) ∧ (0 ≤ P 0 3 ∧ P 0 3 ≤ 6)) (h6 : P 0 1 < 6) (hx : 0 ≤ x ∧ x ≤ 8) (b1 : 0 ≤ τ 1 i ∧ τ 1 i ≤ 900) (h1 : bL τ (P 0 0) i ≠ 0)
    (k0 : (x < (P 0 0)) → (0 ≤ ((2205 + ((P 0 0) * (P 0 1))) + x)) → (((2205 + ((P 0 0) * (P 0 1))) + x) < 2750) → vP D T N 303 130 (zset h 126 ((((2205 + ((P 0 0) * (P 0 1))) + x)).toNat) (0, (lt ((lk B n (((τ 1 i) + x))))))) [some (2, 121), some (0, (P 0 1)), some (0, u), some (0, (x + 1))] [] Q)
    (k1 : ((P 0 0) ≤ x) → ∀ (g9 : zH), (qF h g9) → (rX B n m τ (i + 1) g9) → ∀ (g16 : zH), (qF (zset g9 126 2201 (0, ((P 0 1) + 1))) g16) → ((bG τ 59 (i + 1)) ≠ 0) → (rX B n m τ (i + 1 + 1) g16) → Q (g16, none))
    (k2 : ((P 0 0) ≤ x) → ∀ (g9 : zH), (qF h g9) → (rX B n m τ (i + 1) g9) → ∀ (g17 : zH), (qF (zset g9 126 2201 (0, ((P 0 1) + 1))) g17) → ((bG τ 59 (i + 1)) = 0) → (rE (eF τ (i + 1) 2) g17) → Q (g17, none)) :
    vP D T (N + 1) 303 130 h [some (2, 121), some (0, (P 0 1)), some (0, u), some (0, x)] [] Q := by
  refine v_loadS (v := (0, x)) (hz_X12_readRow hT _ _ rfl) rfl rfl ?_
  refine v_load (v := (2, 121)) (hz_X12_readRow hT _ _ rfl) rfl rfl ?_
  refine v_getR (c := 126) (r := 121) (hz_X12_readRow hT _ _ rfl) rfl rfl rfl ?_
  refine v_push (2200) (hz_X12_readRow hT _ _ rfl) rfl ?_
  refine v_aldV (v := (0, (P 0 0))) (r := 126) (hz_X12_readRow hT _ _ rfl) rfl rfl (fun _ _ _ => hL.w) (fun ha1 hb2 => ?_)
  refine v_ic (hz_X12_readRow hT _ _ rfl) (fun hc3 => ?_) (fun hc3 => ?_)
  · have hc3 : x < (P 0 0) := hc3
    refine v_load (v := (2, 121)) (hz_X12_readRow hT _ _ rfl) rfl rfl ?_
    refine v_getR (c := 126) (r := 121) (hz_X12_readRow hT _ _ rfl) rfl rfl rfl ?_
    refine v_push (2205) (hz_X12_readRow hT _ _ rfl) rfl ?_
    refine v_load (v := (2, 121)) (hz_X12_readRow hT _ _ rfl) rfl rfl ?_
    refine v_getR (c := 126) (r := 121) (hz_X12_readRow hT _ _ rfl) rfl rfl rfl ?_
    refine v_push (2200) (hz_X12_readRow hT _ _ rfl) rfl ?_
    refine v_aldV (v := (0, (P 0 0))) (r := 126) (hz_X12_readRow hT _ _ rfl) rfl rfl (fun _ _ _ => hL.w) (fun ha4 hb5 => ?_)
    refine v_load (v := (0, (P 0 1))) (hz_X12_readRow hT _ _ rfl) rfl rfl ?_
    refine v_bin (w := ((P 0 0) * (P 0 1))) (hz_X12_readRow hT _ _ rfl) (hq_mulB (by omega) (by omega)) ?_
    refine v_bin (w := (2205 + ((P 0 0) * (P 0 1)))) (hz_X12_readRow hT _ _ rfl) (hq_addC (by omega) (by omega)) ?_
    refine v_load (v := (0, x)) (hz_X12_readRow hT _ _ rfl) rfl rfl ?_
    refine v_bin (w := ((2205 + ((P 0 0) * (P 0 1))) + x)) (hz_X12_readRow hT _ _ rfl) (hq_addD (by omega) (by omega) (by omega)) ?_
    refine v_load (v := (2, 121)) (hz_X12_readRow hT _ _ rfl) rfl rfl ?_
    refine v_load (v := (2, 121)) (hz_X12_readRow hT _ _ rfl) rfl rfl ?_
    refine v_getf (v := (0, (τ 1 i))) (r := 121) (hz_X12_readRow hT _ _ rfl) rfl rfl (fun _ => hX.ps) ?_
    refine v_load (v := (0, x)) (hz_X12_readRow hT _ _ rfl) rfl rfl ?_
    refine v_bin (w := ((τ 1 i) + x)) (hz_X12_readRow hT _ _ rfl) (hq_add (by omega) (by omega)) ?_
    refine v_call (w := 2) [some (2, 121), some (0, ((τ 1 i) + x))] hO (hz_X12_readRow hT _ _ rfl) rfl rfl (r_look hT hO (rX.tx hX) (((τ 1 i) + x)) ?_)
    · show vP D T N 303 172 h [some (2, 121), some (0, (P 0 1)), some (0, u), some (0, x)] [(0, (lk B n (((τ 1 i) + x)))), (0, ((2205 + ((P 0 0) * (P 0 1))) + x)), (2, 126)] _
      refine v_call (w := 1) [some (0, (lk B n (((τ 1 i) + x))))] hO (hz_X12_readRow hT _ _ rfl) rfl rfl (r_ground hT hO ((lk B n (((τ 1 i) + x)))) ?_)
      · show vP D T N 303 175 h [some (2, 121), some (0, (P 0 1)), some (0, u), some (0, x)] [(0, (lt ((lk B n (((τ 1 i) + x)))))), (0, ((2205 + ((P 0 0) * (P 0 1))) + x)), (2, 126)] _
        refine v_ast (r := 126) (hz_X12_readRow hT _ _ rfl) rfl rfl (fun ha6 hb7 hf8 => ?_)
        refine v_iinc (x := x) (u := 1) (w := (x + 1)) [some (2, 121), some (0, (P 0 1)), some (0, u), some (0, (x + 1))] (hz_X12_readRow hT _ _ rfl) rfl rfl (Nat.le_of_ble_eq_true rfl) (vz_inc (by omega) (by omega)) rfl ?_
        refine v_goto (hz_X12_readRow hT _ _ rfl) ?_
        exact k0 hc3 ha6 hb7
  · have hc3 : (P 0 0) ≤ x := Int.not_lt.mp hc3
    refine v_load (v := (2, 121)) (hz_X12_readRow hT _ _ rfl) rfl rfl ?_
    refine v_call (w := 2) [some (2, 121), none] hO (hz_X12_readRow hT _ _ rfl) rfl rfl (rx_next hT hO hX (ne_10 (bL_y.mp h1).1) (ne_14 (bL_y.mp h1).1) (fun g9 ft9 hX9 => ?_))
    · show vP D T N 303 186 g9 [some (2, 121), some (0, (P 0 1)), some (0, u), some (0, x)] [] _
      refine vP_hv (fun hv9 => ?_)
      refine v_load (v := (2, 121)) (hz_X12_readRow hT _ _ rfl) rfl rfl ?_
      refine v_getR (c := 126) (r := 121) (hz_X12_readRow hT _ _ rfl) rfl rfl rfl ?_
      refine v_push (2201) (hz_X12_readRow hT _ _ rfl) rfl ?_
      refine v_dupd (hz_X12_readRow hT _ _ rfl) (Nat.ne_of_beq_eq_false rfl) (Nat.ne_of_beq_eq_false rfl) ?_
      refine v_aldV (v := (0, (P 0 1))) (r := 126) (hz_X12_readRow hT _ _ rfl) rfl rfl (fun _ _ _ => (Eq.trans (ft9 126 2201 (by first | decide | exact fun c => by omega)) hL.ro)) (fun ha10 hb11 => ?_)
      refine v_push (1) (hz_X12_readRow hT _ _ rfl) rfl ?_
      refine v_bin (w := ((P 0 1) + 1)) (hz_X12_readRow hT _ _ rfl) (hq_add (by omega) (by omega)) ?_
      refine v_ast (r := 126) (hz_X12_readRow hT _ _ rfl) rfl rfl (fun ha12 hb13 hf14 => ?_)
      refine v_load (v := (2, 121)) (hz_X12_readRow hT _ _ rfl) rfl rfl ?_
      refine v_load (v := (2, 121)) (hz_X12_readRow hT _ _ rfl) rfl rfl ?_
      refine v_push (59) (hz_X12_readRow hT _ _ rfl) rfl ?_
      refine v_call (w := 2) [some (2, 121), some (0, 59)] hO (hz_X12_readRow hT _ _ rfl) rfl rfl (rx_isSign hT hO 59 (rX.z (r := 126) (k := 2201) (v := (0, ((P 0 1) + 1))) (by decide) hX9) ?_)
      · show vP D T N 303 205 (zset g9 126 2201 (0, ((P 0 1) + 1))) [some (2, 121), some (0, (P 0 1)), some (0, u), some (0, x)] [(0, (bG τ 59 (i + 1))), (2, 121)] _
        refine v_call (w := 2) [some (2, 121), some (0, (bG τ 59 (i + 1)))] hO (hz_X12_readRow hT _ _ rfl) rfl rfl (rx_must hT hO ((bG τ 59 (i + 1))) (rX.z (r := 126) (k := 2201) (v := (0, ((P 0 1) + 1))) (by decide) hX9) (fun c => ⟨by have := (bG_y.mp c).1; omega, by have := (bG_y.mp c).1; omega⟩) (fun g16 ft16 hc15 hX16 => ?_) (fun g17 ft17 hc17 c17 => ?_))
        · show vP D T N 303 208 g16 [some (2, 121), some (0, (P 0 1)), some (0, u), some (0, x)] [] _
          refine vP_hv (fun hv16 => ?_)
          refine v_ret0 (hz_X12_readRow hT _ _ rfl) ?_
          exact k1 hc3 g9 ft9 hX9 g16 ft16 hc15 hX16
        · show vP D T N 303 208 g17 [some (2, 121), some (0, (P 0 1)), some (0, u), some (0, x)] [] _
          refine vP_hv (fun hv17 => ?_)
          refine v_ret0 (hz_X12_readRow hT _ _ rfl) ?_
          exact k2 hc3 g9 ft9 hX9 g17 ft17 hc17 c17
/-- a letter of a word, as the reference sees it -/
theorem lk_lt {B : Nat → Int} {n m i : Nat} {τ : PT} (hK : Tks B n m τ) (hi : i ≤ m) (h1 : τ 0 i = 1) (hb : BB B n) {x : Nat} (hx : (x : Int) < τ 2 i - τ 1 i) : lt (lk B n (τ 1 i + x)) = τ (10 + x) i := by
  obtain ⟨s, e, e1, e2, hR, _, he, _, _, _, hl⟩ := tk_w hK hi h1
  have hq := iL_ne (hR.2.1 (s + x) (by omega) (by omega)).2
  rw [hl x, e1, show (s : Int) + x = ((s + x : Nat) : Int) from by omega, lk_in (by omega), vU_nn (by omega)]
theorem rx_row {D : zD} {T : zT} (hT : hTab T) (hO : vOK T) {N : Nat} {h : zH} {B : Nat → Int} {n m i : Nat} {τ P : PT} (hv0 : zHv h) (hX : rX B n m τ i h) (hL : rL P h) (hb : (0 ≤ P 0 0 ∧ P 0 0 ≤ 8) ∧ (0 ≤ P 0 1 ∧ P 0 1 ≤ 6) ∧ (0 ≤ P 0 2 ∧ P 0 2 ≤ 3) ∧ (0 ≤ P 0 3 ∧ P 0 3 ≤ 6)) (h1 : bW τ 1 i ≠ 0) : vP D T N 303 0 h [some (2, 121), none, none, none] [] (rRd B n m τ (pS τ (pRow τ P i)) h) := by
  have key : ∀ g, qF h g → rX B n m τ (i + 1) g → P 0 1 < 6 → ∀ u : Int, (u = 0 ∨ u = 1) → (u = 1 → τ 0 (i + 1) = 1 ∧ τ 2 (i + 1) - τ 1 (i + 1) = P 0 0) → (u = 0 → ¬ (τ 0 (i + 1) = 1 ∧ τ 2 (i + 1) - τ 1 (i + 1) = P 0 0)) → vP D T N 303 68 g [some (2, 121), some (0, P 0 1), some (0, u), some (0, 0)] [] (rRd B n m τ (pS τ (pRow τ P i)) h) := by
    intro g f hX1 h6 u hu hu1 hu0
    have tb := tk_b hX1.2.2 hX1.2.1
    have hBB : BB B n := hX1.tx.2.1
    have b9 := hBB.1
    have hLg : rL P g := hL.qf f
    have e6 : ∀ F : Er ⊕ (PT × Nat), pS τ (pRowL τ P (i + 1)) = F → pS τ (pRow τ P i) = F := fun F hF => by
      rw [← hF]
      unfold pRow
      rw [if_neg (by omega)]
    refine vP_loop (fun h' l => h' = g ∧ ∃ (x : Nat) (u : Int), l = [some (2, 121), some (0, P 0 1), some (0, u), some (0, (x : Int))] ∧ (x : Int) ≤ P 0 0 ∧ ((u ≠ 0 ∧ (τ 0 (i + 1) = 1 ∧ τ 2 (i + 1) - τ 1 (i + 1) = P 0 0) ∧ ∀ y, y < x → 0 ≤ τ (10 + y) (i + 1)) ∨ (u = 0 ∧ ¬ (bL τ (P 0 0) (i + 1) ≠ 0 ∧ pAll τ (i + 1) (P 0 0).toNat = true)))) ?_ N _ _ ⟨rfl, 0, u, rfl, by omega, ?_⟩
    · rintro N h' l ⟨rfl, x, u, rfl, hx, hux⟩ ih
      refine vP_hv (fun hv => qr_row68 hT hO u x hv hX1 hLg hb h6 ⟨by omega, by omega⟩ ⟨by omega, by omega⟩ ?_ ?_ ?_ ?_)
      · intro c g3 f3 c3
        rcases hux with ⟨d, _⟩ | ⟨_, d⟩
        · exact absurd c d
        · refine rRd_n (e6 _ ?_) c3 ((rF.rfl.t f).t f3)
          unfold pS pRowL
          rw [if_neg d, eb_l]
      · intro c c1 c2
        rcases hux with ⟨_, d, d2⟩ | ⟨d, _⟩
        · refine ih _ _ ⟨rfl, x + 1, 0, rfl, by omega, Or.inr ⟨rfl, fun f' => ?_⟩⟩
          rw [lk_lt hX1.2.2 hX1.2.1 d.1 hBB (by omega)] at c2
          have := pAll_y.mp f'.2 x (by omega)
          omega
        · exact absurd d c
      · intro c c1 c2
        rcases hux with ⟨_, d, d2⟩ | ⟨d, _⟩
        · refine ih _ _ ⟨rfl, x + 1, 1, rfl, by omega, Or.inl ⟨by decide, d, fun y hy => ?_⟩⟩
          rw [lk_lt hX1.2.2 hX1.2.1 d.1 hBB (by omega)] at c2
          by_cases e : y = x
          · rw [e]; exact c2
          · exact d2 y (by omega)
        · exact absurd d c
      · intro c c1
        rcases hux with ⟨_, d, d2⟩ | ⟨d, _⟩
        · have hbl : bL τ (P 0 0) (i + 1) ≠ 0 := bL_y.mpr d
          have hall : pAll τ (i + 1) (P 0 0).toNat = true := pAll_y.mpr (fun y hy => d2 y (by omega))
          have el : pRowL τ P (i + 1) = .inr (pset (pLt τ P (i + 1) (P 0 0).toNat) 0 1 (P 0 1 + 1), i + 1 + 1) := by
            unfold pRowL
            rw [if_pos ⟨hbl, hall⟩]
          refine vP_loop (fun h'' l => ∃ y : Nat, l = [some (2, 121), some (0, P 0 1), some (0, u), some (0, (y : Int))] ∧ (y : Int) ≤ P 0 0 ∧ rX B n m τ (i + 1) h'' ∧ rL (pLt τ P (i + 1) y) h'' ∧ rF h h'') ?_ N _ _ ⟨0, rfl, by omega, hX1, by rw [pLt_0]; exact hLg, rF.rfl.t f⟩
          rintro N h'' l ⟨y, rfl, hy, hX2, hL2, hF2⟩ ih2
          refine vP_hv (fun hv => ?_)
          have Rr := qr_row130 (P := pLt τ P (i + 1) y) (N := N) (D := D) hT hO u y hv hX2 hL2 (by rw [pLt_f, pLt_f, pLt_f, pLt_f]; exact hb) (by rw [pLt_f]; exact h6) ⟨by omega, by omega⟩ ⟨by omega, by omega⟩ (by rw [pLt_f]; exact hbl) (Q := rRd B n m τ (pS τ (pRow τ P i)) h)
          rw [pLt_f, pLt_f] at Rr
          refine Rr ?_ ?_ ?_
          · intro c1 _ _
            have hm := Int.mul_nonneg hb.1.1 hb.2.1.1
            refine ih2 _ _ ⟨y + 1, rfl, by omega, hX2.z (by decide), ?_, hF2.z (by omega)⟩
            rw [lk_lt hX1.2.2 hX1.2.1 d.1 hBB (by omega), ← pLt_s (x := y) (by omega)]
            have := hL2.lett (x := (y : Int)) (y := P 0 1) (v := τ (10 + y) (i + 1)) (by rw [pLt_f]; omega) (by omega) (by rw [pLt_f]; omega) (by omega) (by omega)
            rw [pLt_f] at this
            rw [show 2205 + P 0 0 * P 0 1 + (y : Int) = 2205 + (P 0 0 * P 0 1 + y) from by omega]
            exact this
          · intro c1 g9 f9 hX9 g16 f16 c16 hX16
            have ey : y = (P 0 0).toNat := by omega
            refine rRd_y (P := pset (pLt τ P (i + 1) y) 0 1 (P 0 1 + 1)) (j := i + 1 + 1 + 1) (e6 _ ?_) hX16 (((hL2.qf f9).f (k := 1) (Or.inl rfl)).qf f16) (((hF2.t f9).z (by omega)).t f16) ?_
            · unfold pS
              rw [el, eb_r, ey]
              simp only [pSg, c16, ne_eq, not_false_eq_true, if_true, eb_r]
            · show (0 ≤ P 0 0 ∧ P 0 0 ≤ 8) ∧ (0 ≤ P 0 1 + 1 ∧ P 0 1 + 1 ≤ 6) ∧ (0 ≤ P 0 2 ∧ P 0 2 ≤ 3) ∧ (0 ≤ P 0 3 ∧ P 0 3 ≤ 6)
              omega
          · intro c1 g9 f9 hX9 g17 f17 c17 e17
            refine rRd_n (e6 _ ?_) e17 (((hF2.t f9).z (by omega)).t f17)
            unfold pS
            rw [el, eb_r]
            simp only [pSg, c17, ne_eq, not_true_eq_false, if_false, eb_l]
        · exact absurd d c
    · rcases hu with e | e
      · exact Or.inr ⟨e, fun c => hu0 e (bL_y.mp c.1)⟩
      · exact Or.inl ⟨by omega, hu1 e, fun y hy => absurd hy (by omega)⟩
  refine qr_row0 hT hO hv0 hX hL hb h1 ?_ ?_ ?_ ?_
  · intro c g f e
    refine rRd_n ?_ e (rF.rfl.t f)
    unfold pS pRow
    rw [if_pos (by omega), eb_l]
  · exact fun c g f hX1 c1 c2 => key g f hX1 (by omega) 1 (Or.inr rfl) (fun _ => ⟨c1, c2⟩) (fun e => absurd e (by decide))
  · exact fun c g f hX1 c1 c2 => key g f hX1 (by omega) 0 (Or.inl rfl) (fun e => absurd e (by decide)) (fun _ d => c2 d.2)
  · exact fun c g f hX1 c1 => key g f hX1 (by omega) 0 (Or.inl rfl) (fun e => absurd e (by decide)) (fun _ d => c1 d.1)
theorem qr_land23 {D : zD} {T : zT} (hT : hTab T) (hO : vOK T) {N : Nat} {h : zH} {Q : zR → Prop} (z : Int) (hv0 : zHv h)
    (k0 : vP D T N 268 25 h [some (2, 121), some (0, z), some (0, 0)] [] Q) :
    vP D T N 268 23 h [some (2, 121), some (0, z), none] [] Q := by
  refine v_push (0) (hz_X12_land hT _ _ rfl) rfl ?_
  refine v_store1 [some (2, 121), some (0, z), some (0, 0)] (hz_X12_land hT _ _ rfl) ⟨rfl, Nat.ne_of_beq_eq_false rfl⟩ (Nat.le_of_ble_eq_true rfl) rfl ?_
  exact k0 
theorem qr_land25 {D : zD} {T : zT} (hT : hTab T) (hO : vOK T) {N : Nat} {h : zH} {Q : zR → Prop} (z x : Int) (hv0 : zHv h) (hx : 0 ≤ x ∧ x ≤ 550)
    (k0 : (x < 550) → (0 ≤ (2200 + x)) → ((2200 + x) < 2750) → vP D T N 268 25 (zset h 126 (((2200 + x)).toNat) (0, 0)) [some (2, 121), some (0, z), some (0, (x + 1))] [] Q)
    (k1 : (550 ≤ x) → vP D T N 268 49 h [some (2, 121), some (0, z), some (0, x)] [] Q) :
    vP D T (N + 1) 268 25 h [some (2, 121), some (0, z), some (0, x)] [] Q := by
  refine v_loadS (v := (0, x)) (hz_X12_land hT _ _ rfl) rfl rfl ?_
  refine v_push (550) (hz_X12_land hT _ _ rfl) rfl ?_
  refine v_ic (hz_X12_land hT _ _ rfl) (fun hc1 => ?_) (fun hc1 => ?_)
  · have hc1 : x < 550 := hc1
    refine v_load (v := (2, 121)) (hz_X12_land hT _ _ rfl) rfl rfl ?_
    refine v_getR (c := 126) (r := 121) (hz_X12_land hT _ _ rfl) rfl rfl rfl ?_
    refine v_push (2200) (hz_X12_land hT _ _ rfl) rfl ?_
    refine v_load (v := (0, x)) (hz_X12_land hT _ _ rfl) rfl rfl ?_
    refine v_bin (w := (2200 + x)) (hz_X12_land hT _ _ rfl) (hq_add (by omega) (by omega)) ?_
    refine v_push (0) (hz_X12_land hT _ _ rfl) rfl ?_
    refine v_ast (r := 126) (hz_X12_land hT _ _ rfl) rfl rfl (fun ha2 hb3 hf4 => ?_)
    refine v_iinc (x := x) (u := 1) (w := (x + 1)) [some (2, 121), some (0, z), some (0, (x + 1))] (hz_X12_land hT _ _ rfl) rfl rfl (Nat.le_of_ble_eq_true rfl) (vz_inc (by omega) (by omega)) rfl ?_
    refine v_goto (hz_X12_land hT _ _ rfl) ?_
    exact k0 hc1 ha2 hb3
  · have hc1 : 550 ≤ x := Int.not_lt.mp hc1
    exact k1 hc1
theorem qr_land49 {D : zD} {T : zT} (hT : hTab T) (hO : vOK T) {N : Nat} {h : zH} {Q : zR → Prop} {B : Nat → Int} {n m i : Nat} {τ : PT} (z u : Int) (hv0 : zHv h) (hX : rX B n m τ i h)
    (k0 : ∀ (g6 : zH), (qF (zset (zset h 126 2202 (0, 1)) 121 24 (0, 0)) g6) → ((bW τ 0 i) ≠ 0) → (rX B n m τ (i + 1) g6) → ∀ (g9 : zH) (x8 : Int), (qF g6 g9) → (pNum τ 2 8 (i + 1) = .inr (x8, i + 1 + 1)) → (2 ≤ x8) → (x8 ≤ 8) → (rX B n m τ (i + 1 + 1) g9) → ∀ (g15 : zH), (qF (zset g9 126 2200 (0, x8)) g15) → ((bG τ 59 (i + 1 + 1)) ≠ 0) → (rX B n m τ (i + 1 + 1 + 1) g15) → vP D T N 268 96 g15 [some (2, 121), some (0, z), some (0, u)] [] Q)
    (k1 : ∀ (g6 : zH), (qF (zset (zset h 126 2202 (0, 1)) 121 24 (0, 0)) g6) → ((bW τ 0 i) ≠ 0) → (rX B n m τ (i + 1) g6) → ∀ (g9 : zH) (x8 : Int), (qF g6 g9) → (pNum τ 2 8 (i + 1) = .inr (x8, i + 1 + 1)) → (2 ≤ x8) → (x8 ≤ 8) → (rX B n m τ (i + 1 + 1) g9) → ∀ (g16 : zH), (qF (zset g9 126 2200 (0, x8)) g16) → ((bG τ 59 (i + 1 + 1)) = 0) → (rE (eF τ (i + 1 + 1) 2) g16) → Q (zset (zset (zset g16 121 10 (0, (eF τ (i + 1 + 1) 2).1)) 121 11 (0, (eF τ (i + 1 + 1) 2).2)) 121 0 (0, 10), some (0, -1)))
    (k2 : ∀ (g6 : zH), (qF (zset (zset h 126 2202 (0, 1)) 121 24 (0, 0)) g6) → ((bW τ 0 i) ≠ 0) → (rX B n m τ (i + 1) g6) → ∀ (g10 : zH) (e10 : Er), (qF g6 g10) → (pNum τ 2 8 (i + 1) = .inl e10) → (rE e10 g10) → ∀ (v30 : Int), Q (zset (zset (zset (zset g10 126 2200 (0, 0)) 121 10 (0, e10.1)) 121 11 (0, e10.2)) 121 0 (0, 10), some (0, -1)))
    (k3 : ∀ (g7 : zH), (qF (zset (zset h 126 2202 (0, 1)) 121 24 (0, 0)) g7) → ((bW τ 0 i) = 0) → (rE (eF τ i 2) g7) → ∀ (v44 : Int), Q (zset (zset (zset (zset g7 126 2200 (0, 0)) 121 10 (0, (eF τ i 2).1)) 121 11 (0, (eF τ i 2).2)) 121 0 (0, 10), some (0, -1))) :
    vP D T N 268 49 h [some (2, 121), some (0, z), some (0, u)] [] Q := by
  refine v_load (v := (2, 121)) (hz_X12_land hT _ _ rfl) rfl rfl ?_
  refine v_getR (c := 126) (r := 121) (hz_X12_land hT _ _ rfl) rfl rfl rfl ?_
  refine v_push (2202) (hz_X12_land hT _ _ rfl) rfl ?_
  refine v_push (1) (hz_X12_land hT _ _ rfl) rfl ?_
  refine v_ast (r := 126) (hz_X12_land hT _ _ rfl) rfl rfl (fun ha1 hb2 hf3 => ?_)
  refine v_load (v := (2, 121)) (hz_X12_land hT _ _ rfl) rfl rfl ?_
  refine v_push (0) (hz_X12_land hT _ _ rfl) rfl ?_
  refine v_putf (r := 121) hO (hz_X12_land hT _ _ rfl) rfl (fun hf4 => ?_)
  refine v_load (v := (2, 121)) (hz_X12_land hT _ _ rfl) rfl rfl ?_
  refine v_load (v := (2, 121)) (hz_X12_land hT _ _ rfl) rfl rfl ?_
  refine v_call (w := 1) [some (2, 121)] hO (hz_X12_land hT _ _ rfl) rfl rfl (rx_isWide hT hO (rX.zf (k := 24) (v := (0, 0)) (by decide) (rX.z (r := 126) (k := 2202) (v := (0, 1)) (by decide) hX)) ?_)
  · show vP D T N 268 68 (zset (zset h 126 2202 (0, 1)) 121 24 (0, 0)) [some (2, 121), some (0, z), some (0, u)] [(0, (bW τ 0 i)), (2, 121)] _
    refine v_call (w := 2) [some (2, 121), some (0, (bW τ 0 i))] hO (hz_X12_land hT _ _ rfl) rfl rfl (rx_must hT hO ((bW τ 0 i)) (rX.zf (k := 24) (v := (0, 0)) (by decide) (rX.z (r := 126) (k := 2202) (v := (0, 1)) (by decide) hX)) (fun c => ⟨ne_10 (bW_y.mp c).1, ne_14 (bW_y.mp c).1⟩) (fun g6 ft6 hc5 hX6 => ?_) (fun g7 ft7 hc7 c7 => ?_))
    · show vP D T N 268 71 g6 [some (2, 121), some (0, z), some (0, u)] [] _
      refine vP_hv (fun hv6 => ?_)
      refine v_load (v := (2, 121)) (hz_X12_land hT _ _ rfl) rfl rfl ?_
      refine v_getR (c := 126) (r := 121) (hz_X12_land hT _ _ rfl) rfl rfl rfl ?_
      refine v_push (2200) (hz_X12_land hT _ _ rfl) rfl ?_
      refine v_load (v := (2, 121)) (hz_X12_land hT _ _ rfl) rfl rfl ?_
      refine v_push (2) (hz_X12_land hT _ _ rfl) rfl ?_
      refine v_push (8) (hz_X12_land hT _ _ rfl) rfl ?_
      refine v_call (w := 4) [some (2, 121), some (0, 2), some (0, 8), none] hO (hz_X12_land hT _ _ rfl) rfl rfl (rx_num hT hO 2 8 hX6 (fun g9 x8 ft9 q9 bux8 bvx8 hX9 => ?_) (fun g10 e10 ft10 q10 c10 => ?_))
      · show vP D T N 268 85 g9 [some (2, 121), some (0, z), some (0, u)] [(0, x8), (0, 2200), (2, 126)] _
        refine vP_hv (fun hv9 => ?_)
        refine v_ast (r := 126) (hz_X12_land hT _ _ rfl) rfl rfl (fun ha11 hb12 hf13 => ?_)
        refine v_load (v := (2, 121)) (hz_X12_land hT _ _ rfl) rfl rfl ?_
        refine v_load (v := (2, 121)) (hz_X12_land hT _ _ rfl) rfl rfl ?_
        refine v_push (59) (hz_X12_land hT _ _ rfl) rfl ?_
        refine v_call (w := 2) [some (2, 121), some (0, 59)] hO (hz_X12_land hT _ _ rfl) rfl rfl (rx_isSign hT hO 59 (rX.z (r := 126) (k := 2200) (v := (0, x8)) (by decide) hX9) ?_)
        · show vP D T N 268 93 (zset g9 126 2200 (0, x8)) [some (2, 121), some (0, z), some (0, u)] [(0, (bG τ 59 (i + 1 + 1))), (2, 121)] _
          refine v_call (w := 2) [some (2, 121), some (0, (bG τ 59 (i + 1 + 1)))] hO (hz_X12_land hT _ _ rfl) rfl rfl (rx_must hT hO ((bG τ 59 (i + 1 + 1))) (rX.z (r := 126) (k := 2200) (v := (0, x8)) (by decide) hX9) (fun c => ⟨by have := (bG_y.mp c).1; omega, by have := (bG_y.mp c).1; omega⟩) (fun g15 ft15 hc14 hX15 => ?_) (fun g16 ft16 hc16 c16 => ?_))
          · show vP D T N 268 96 g15 [some (2, 121), some (0, z), some (0, u)] [] _
            refine vP_hv (fun hv15 => ?_)
            exact k0 g6 ft6 hc5 hX6 g9 x8 ft9 q9 bux8 bvx8 hX9 g15 ft15 hc14 hX15
          · show vP D T N 268 96 g16 [some (2, 121), some (0, z), some (0, u)] [] _
            refine vP_hv (fun hv16 => ?_)
            refine v_load (v := (2, 121)) (hi_X12_land_96 hT) rfl rfl ?_
            refine v_getf (v := (0, (eF τ (i + 1 + 1) 2).1)) (r := 121) (hi_X12_land_97 hT) rfl rfl (fun _ => c16.1) ?_
            refine v_if (hi_X12_land_100 hT) (fun hc17 => absurd (show (eF τ (i + 1 + 1) 2).1 = 0 from hc17) (by have := c16.2.1; omega)) (fun _ => ?_)
            refine v_load (v := (2, 121)) (hi_X12_land_117 hT) rfl rfl ?_
            refine v_getf (v := (0, (eF τ (i + 1 + 1) 2).1)) (r := 121) (hi_X12_land_118 hT) rfl rfl (fun _ => c16.1) ?_
            refine v_if (hi_X12_land_121 hT) (fun hc18 => absurd (show (eF τ (i + 1 + 1) 2).1 = 0 from hc18) (by have := c16.2.1; omega)) (fun _ => ?_)
            refine v_load (v := (2, 121)) (hi_X12_land_139 hT) rfl rfl ?_
            refine v_getf (v := (0, (eF τ (i + 1 + 1) 2).1)) (r := 121) (hi_X12_land_140 hT) rfl rfl (fun _ => c16.1) ?_
            refine v_if (hi_X12_land_143 hT) (fun hc19 => absurd (show (eF τ (i + 1 + 1) 2).1 = 0 from hc19) (by have := c16.2.1; omega)) (fun _ => ?_)
            refine v_load (v := (2, 121)) (hi_X12_land_212 hT) rfl rfl ?_
            refine v_call (w := 1) [some (2, 121)] hO (hi_X12_land_213 hT) rfl rfl ?_
            refine v_load (v := (2, 121)) (hi_X12_isWell_0 hT) rfl rfl ?_
            refine v_load (v := (2, 121)) (hi_X12_isWell_1 hT) rfl rfl ?_
            refine v_getf (v := (0, (eF τ (i + 1 + 1) 2).1)) (r := 121) (hi_X12_isWell_2 hT) rfl rfl (fun _ => c16.1) ?_
            refine v_putf (r := 121) hO (hi_X12_isWell_5 hT) rfl (fun hf20 => ?_)
            refine v_load (v := (2, 121)) (hi_X12_isWell_8 hT) rfl rfl ?_
            refine v_load (v := (2, 121)) (hi_X12_isWell_9 hT) rfl rfl ?_
            refine v_getf (v := (0, (eF τ (i + 1 + 1) 2).1)) (r := 121) (hi_X12_isWell_10 hT) rfl rfl (fun _ => Eq.trans (zset_ne (fun c => absurd c.2 (by decide))) (c16.1)) ?_
            refine v_if (hi_X12_isWell_13 hT) (fun hc21 => absurd (show (eF τ (i + 1 + 1) 2).1 = 0 from hc21) (by have := c16.2.1; omega)) (fun _ => ?_)
            refine v_load (v := (2, 121)) (hi_X12_isWell_20 hT) rfl rfl ?_
            refine v_getf (v := (0, (eF τ (i + 1 + 1) 2).2)) (r := 121) (hi_X12_isWell_21 hT) rfl rfl (fun _ => Eq.trans (zset_ne (fun c => absurd c.2 (by decide))) (c16.2.2)) ?_
            refine v_putf (r := 121) hO (hi_X12_isWell_24 hT) rfl (fun hf22 => ?_)
            refine v_load (v := (2, 121)) (hi_X12_isWell_27 hT) rfl rfl ?_
            refine v_getf (v := (0, (eF τ (i + 1 + 1) 2).1)) (r := 121) (hi_X12_isWell_28 hT) rfl rfl (fun _ => Eq.trans (Eq.trans (zset_ne (fun c => absurd c.2 (by decide))) (zset_ne (fun c => absurd c.2 (by decide)))) (c16.1)) ?_
            refine v_if (hi_X12_isWell_31 hT) (fun hc23 => absurd (show (eF τ (i + 1 + 1) 2).1 = 0 from hc23) (by have := c16.2.1; omega)) (fun _ => ?_)
            refine v_load (v := (2, 121)) (hi_X12_isWell_34 hT) rfl rfl ?_
            refine v_push (10) (hi_X12_isWell_35 hT) rfl ?_
            refine v_call (w := 2) [some (2, 121), some (0, 10)] hO (hi_X12_isWell_37 hT) rfl rfl ?_
            refine v_load (v := (2, 121)) (hi_X12_no_0 hT) rfl rfl ?_
            refine v_load (v := (0, 10)) (hi_X12_no_1 hT) rfl rfl ?_
            refine v_putf (r := 121) hO (hi_X12_no_2 hT) rfl (fun hf24 => ?_)
            refine v_push (0) (hi_X12_no_5 hT) rfl ?_
            refine v_ret (hi_X12_no_6 hT) (Or.inl rfl) ?_
            show vP D T N 265 40 (zset (zset (zset g16 121 10 (0, (eF τ (i + 1 + 1) 2).1)) 121 11 (0, (eF τ (i + 1 + 1) 2).2)) 121 0 (0, 10)) [some (2, 121)] [(0, 0)] _
            refine v_if (hi_X12_isWell_40 hT) (fun _ => ?_) (fun hc25 => absurd (show (0 : Int) = 0 from (by decide)) hc25)
            refine v_push (0) (hi_X12_isWell_47 hT) rfl ?_
            refine v_ret (hi_X12_isWell_48 hT) (Or.inl rfl) ?_
            show vP D T N 268 216 (zset (zset (zset g16 121 10 (0, (eF τ (i + 1 + 1) 2).1)) 121 11 (0, (eF τ (i + 1 + 1) 2).2)) 121 0 (0, 10)) [some (2, 121), some (0, z), some (0, u)] [(0, 0)] _
            refine v_if (hi_X12_land_216 hT) (fun _ => ?_) (fun hc26 => absurd (show (0 : Int) = 0 from (by decide)) hc26)
            refine v_push (-1) (hi_X12_land_219 hT) rfl ?_
            refine v_ret (hi_X12_land_220 hT) (Or.inl rfl) ?_
            exact k1 g6 ft6 hc5 hX6 g9 x8 ft9 q9 bux8 bvx8 hX9 g16 ft16 hc16 c16
      · show vP D T N 268 85 g10 [some (2, 121), some (0, z), some (0, u)] [(0, 0), (0, 2200), (2, 126)] _
        refine vP_hv (fun hv10 => ?_)
        refine v_ast (r := 126) (hz_X12_land hT _ _ rfl) rfl rfl (fun ha27 hb28 hf29 => ?_)
        refine v_load (v := (2, 121)) (hz_X12_land hT _ _ rfl) rfl rfl ?_
        refine v_load (v := (2, 121)) (hz_X12_land hT _ _ rfl) rfl rfl ?_
        refine v_push (59) (hz_X12_land hT _ _ rfl) rfl ?_
        refine v_call (w := 2) [some (2, 121), some (0, 59)] hO (hz_X12_land hT _ _ rfl) rfl rfl (rb_any_isSign hT hO (fun v30 => ?_))
        · show vP D T N 268 93 (zset g10 126 2200 (0, 0)) [some (2, 121), some (0, z), some (0, u)] [(0, v30), (2, 121)] _
          refine v_call (w := 2) [some (2, 121), some (0, v30)] hO (hz_X12_land hT _ _ rfl) rfl rfl (rx_mustB hT hO v30 (rE.z (r := 126) (k := 2200) (v := (0, 0)) (by decide) c10) ?_)
          · show vP D T N 268 96 (zset g10 126 2200 (0, 0)) [some (2, 121), some (0, z), some (0, u)] [] _
            refine v_load (v := (2, 121)) (hi_X12_land_96 hT) rfl rfl ?_
            refine v_getf (v := (0, e10.1)) (r := 121) (hi_X12_land_97 hT) rfl rfl (fun _ => Eq.trans (zset_ne (fun c => absurd c.1 (by decide))) (c10.1)) ?_
            refine v_if (hi_X12_land_100 hT) (fun hc31 => absurd (show e10.1 = 0 from hc31) (by have := c10.2.1; omega)) (fun _ => ?_)
            refine v_load (v := (2, 121)) (hi_X12_land_117 hT) rfl rfl ?_
            refine v_getf (v := (0, e10.1)) (r := 121) (hi_X12_land_118 hT) rfl rfl (fun _ => Eq.trans (zset_ne (fun c => absurd c.1 (by decide))) (c10.1)) ?_
            refine v_if (hi_X12_land_121 hT) (fun hc32 => absurd (show e10.1 = 0 from hc32) (by have := c10.2.1; omega)) (fun _ => ?_)
            refine v_load (v := (2, 121)) (hi_X12_land_139 hT) rfl rfl ?_
            refine v_getf (v := (0, e10.1)) (r := 121) (hi_X12_land_140 hT) rfl rfl (fun _ => Eq.trans (zset_ne (fun c => absurd c.1 (by decide))) (c10.1)) ?_
            refine v_if (hi_X12_land_143 hT) (fun hc33 => absurd (show e10.1 = 0 from hc33) (by have := c10.2.1; omega)) (fun _ => ?_)
            refine v_load (v := (2, 121)) (hi_X12_land_212 hT) rfl rfl ?_
            refine v_call (w := 1) [some (2, 121)] hO (hi_X12_land_213 hT) rfl rfl ?_
            refine v_load (v := (2, 121)) (hi_X12_isWell_0 hT) rfl rfl ?_
            refine v_load (v := (2, 121)) (hi_X12_isWell_1 hT) rfl rfl ?_
            refine v_getf (v := (0, e10.1)) (r := 121) (hi_X12_isWell_2 hT) rfl rfl (fun _ => Eq.trans (zset_ne (fun c => absurd c.1 (by decide))) (c10.1)) ?_
            refine v_putf (r := 121) hO (hi_X12_isWell_5 hT) rfl (fun hf34 => ?_)
            refine v_load (v := (2, 121)) (hi_X12_isWell_8 hT) rfl rfl ?_
            refine v_load (v := (2, 121)) (hi_X12_isWell_9 hT) rfl rfl ?_
            refine v_getf (v := (0, e10.1)) (r := 121) (hi_X12_isWell_10 hT) rfl rfl (fun _ => Eq.trans (Eq.trans (zset_ne (fun c => absurd c.2 (by decide))) (zset_ne (fun c => absurd c.1 (by decide)))) (c10.1)) ?_
            refine v_if (hi_X12_isWell_13 hT) (fun hc35 => absurd (show e10.1 = 0 from hc35) (by have := c10.2.1; omega)) (fun _ => ?_)
            refine v_load (v := (2, 121)) (hi_X12_isWell_20 hT) rfl rfl ?_
            refine v_getf (v := (0, e10.2)) (r := 121) (hi_X12_isWell_21 hT) rfl rfl (fun _ => Eq.trans (Eq.trans (zset_ne (fun c => absurd c.2 (by decide))) (zset_ne (fun c => absurd c.1 (by decide)))) (c10.2.2)) ?_
            refine v_putf (r := 121) hO (hi_X12_isWell_24 hT) rfl (fun hf36 => ?_)
            refine v_load (v := (2, 121)) (hi_X12_isWell_27 hT) rfl rfl ?_
            refine v_getf (v := (0, e10.1)) (r := 121) (hi_X12_isWell_28 hT) rfl rfl (fun _ => Eq.trans (Eq.trans (zset_ne (fun c => absurd c.2 (by decide))) (Eq.trans (zset_ne (fun c => absurd c.2 (by decide))) (zset_ne (fun c => absurd c.1 (by decide))))) (c10.1)) ?_
            refine v_if (hi_X12_isWell_31 hT) (fun hc37 => absurd (show e10.1 = 0 from hc37) (by have := c10.2.1; omega)) (fun _ => ?_)
            refine v_load (v := (2, 121)) (hi_X12_isWell_34 hT) rfl rfl ?_
            refine v_push (10) (hi_X12_isWell_35 hT) rfl ?_
            refine v_call (w := 2) [some (2, 121), some (0, 10)] hO (hi_X12_isWell_37 hT) rfl rfl ?_
            refine v_load (v := (2, 121)) (hi_X12_no_0 hT) rfl rfl ?_
            refine v_load (v := (0, 10)) (hi_X12_no_1 hT) rfl rfl ?_
            refine v_putf (r := 121) hO (hi_X12_no_2 hT) rfl (fun hf38 => ?_)
            refine v_push (0) (hi_X12_no_5 hT) rfl ?_
            refine v_ret (hi_X12_no_6 hT) (Or.inl rfl) ?_
            show vP D T N 265 40 (zset (zset (zset (zset g10 126 2200 (0, 0)) 121 10 (0, e10.1)) 121 11 (0, e10.2)) 121 0 (0, 10)) [some (2, 121)] [(0, 0)] _
            refine v_if (hi_X12_isWell_40 hT) (fun _ => ?_) (fun hc39 => absurd (show (0 : Int) = 0 from (by decide)) hc39)
            refine v_push (0) (hi_X12_isWell_47 hT) rfl ?_
            refine v_ret (hi_X12_isWell_48 hT) (Or.inl rfl) ?_
            show vP D T N 268 216 (zset (zset (zset (zset g10 126 2200 (0, 0)) 121 10 (0, e10.1)) 121 11 (0, e10.2)) 121 0 (0, 10)) [some (2, 121), some (0, z), some (0, u)] [(0, 0)] _
            refine v_if (hi_X12_land_216 hT) (fun _ => ?_) (fun hc40 => absurd (show (0 : Int) = 0 from (by decide)) hc40)
            refine v_push (-1) (hi_X12_land_219 hT) rfl ?_
            refine v_ret (hi_X12_land_220 hT) (Or.inl rfl) ?_
            exact k2 g6 ft6 hc5 hX6 g10 e10 ft10 q10 c10 v30
    · show vP D T N 268 71 g7 [some (2, 121), some (0, z), some (0, u)] [] _
      refine vP_hv (fun hv7 => ?_)
      refine v_load (v := (2, 121)) (hz_X12_land hT _ _ rfl) rfl rfl ?_
      refine v_getR (c := 126) (r := 121) (hz_X12_land hT _ _ rfl) rfl rfl rfl ?_
      refine v_push (2200) (hz_X12_land hT _ _ rfl) rfl ?_
      refine v_load (v := (2, 121)) (hz_X12_land hT _ _ rfl) rfl rfl ?_
      refine v_push (2) (hz_X12_land hT _ _ rfl) rfl ?_
      refine v_push (8) (hz_X12_land hT _ _ rfl) rfl ?_
      refine v_call (w := 4) [some (2, 121), some (0, 2), some (0, 8), none] hO (hz_X12_land hT _ _ rfl) rfl rfl (rx_numB hT hO 2 8 c7 ?_)
      · show vP D T N 268 85 g7 [some (2, 121), some (0, z), some (0, u)] [(0, 0), (0, 2200), (2, 126)] _
        refine v_ast (r := 126) (hz_X12_land hT _ _ rfl) rfl rfl (fun ha41 hb42 hf43 => ?_)
        refine v_load (v := (2, 121)) (hz_X12_land hT _ _ rfl) rfl rfl ?_
        refine v_load (v := (2, 121)) (hz_X12_land hT _ _ rfl) rfl rfl ?_
        refine v_push (59) (hz_X12_land hT _ _ rfl) rfl ?_
        refine v_call (w := 2) [some (2, 121), some (0, 59)] hO (hz_X12_land hT _ _ rfl) rfl rfl (rb_any_isSign hT hO (fun v44 => ?_))
        · show vP D T N 268 93 (zset g7 126 2200 (0, 0)) [some (2, 121), some (0, z), some (0, u)] [(0, v44), (2, 121)] _
          refine v_call (w := 2) [some (2, 121), some (0, v44)] hO (hz_X12_land hT _ _ rfl) rfl rfl (rx_mustB hT hO v44 (rE.z (r := 126) (k := 2200) (v := (0, 0)) (by decide) c7) ?_)
          · show vP D T N 268 96 (zset g7 126 2200 (0, 0)) [some (2, 121), some (0, z), some (0, u)] [] _
            refine v_load (v := (2, 121)) (hi_X12_land_96 hT) rfl rfl ?_
            refine v_getf (v := (0, (eF τ i 2).1)) (r := 121) (hi_X12_land_97 hT) rfl rfl (fun _ => Eq.trans (zset_ne (fun c => absurd c.1 (by decide))) (c7.1)) ?_
            refine v_if (hi_X12_land_100 hT) (fun hc45 => absurd (show (eF τ i 2).1 = 0 from hc45) (by have := c7.2.1; omega)) (fun _ => ?_)
            refine v_load (v := (2, 121)) (hi_X12_land_117 hT) rfl rfl ?_
            refine v_getf (v := (0, (eF τ i 2).1)) (r := 121) (hi_X12_land_118 hT) rfl rfl (fun _ => Eq.trans (zset_ne (fun c => absurd c.1 (by decide))) (c7.1)) ?_
            refine v_if (hi_X12_land_121 hT) (fun hc46 => absurd (show (eF τ i 2).1 = 0 from hc46) (by have := c7.2.1; omega)) (fun _ => ?_)
            refine v_load (v := (2, 121)) (hi_X12_land_139 hT) rfl rfl ?_
            refine v_getf (v := (0, (eF τ i 2).1)) (r := 121) (hi_X12_land_140 hT) rfl rfl (fun _ => Eq.trans (zset_ne (fun c => absurd c.1 (by decide))) (c7.1)) ?_
            refine v_if (hi_X12_land_143 hT) (fun hc47 => absurd (show (eF τ i 2).1 = 0 from hc47) (by have := c7.2.1; omega)) (fun _ => ?_)
            refine v_load (v := (2, 121)) (hi_X12_land_212 hT) rfl rfl ?_
            refine v_call (w := 1) [some (2, 121)] hO (hi_X12_land_213 hT) rfl rfl ?_
            refine v_load (v := (2, 121)) (hi_X12_isWell_0 hT) rfl rfl ?_
            refine v_load (v := (2, 121)) (hi_X12_isWell_1 hT) rfl rfl ?_
            refine v_getf (v := (0, (eF τ i 2).1)) (r := 121) (hi_X12_isWell_2 hT) rfl rfl (fun _ => Eq.trans (zset_ne (fun c => absurd c.1 (by decide))) (c7.1)) ?_
            refine v_putf (r := 121) hO (hi_X12_isWell_5 hT) rfl (fun hf48 => ?_)
            refine v_load (v := (2, 121)) (hi_X12_isWell_8 hT) rfl rfl ?_
            refine v_load (v := (2, 121)) (hi_X12_isWell_9 hT) rfl rfl ?_
            refine v_getf (v := (0, (eF τ i 2).1)) (r := 121) (hi_X12_isWell_10 hT) rfl rfl (fun _ => Eq.trans (Eq.trans (zset_ne (fun c => absurd c.2 (by decide))) (zset_ne (fun c => absurd c.1 (by decide)))) (c7.1)) ?_
            refine v_if (hi_X12_isWell_13 hT) (fun hc49 => absurd (show (eF τ i 2).1 = 0 from hc49) (by have := c7.2.1; omega)) (fun _ => ?_)
            refine v_load (v := (2, 121)) (hi_X12_isWell_20 hT) rfl rfl ?_
            refine v_getf (v := (0, (eF τ i 2).2)) (r := 121) (hi_X12_isWell_21 hT) rfl rfl (fun _ => Eq.trans (Eq.trans (zset_ne (fun c => absurd c.2 (by decide))) (zset_ne (fun c => absurd c.1 (by decide)))) (c7.2.2)) ?_
            refine v_putf (r := 121) hO (hi_X12_isWell_24 hT) rfl (fun hf50 => ?_)
            refine v_load (v := (2, 121)) (hi_X12_isWell_27 hT) rfl rfl ?_
            refine v_getf (v := (0, (eF τ i 2).1)) (r := 121) (hi_X12_isWell_28 hT) rfl rfl (fun _ => Eq.trans (Eq.trans (zset_ne (fun c => absurd c.2 (by decide))) (Eq.trans (zset_ne (fun c => absurd c.2 (by decide))) (zset_ne (fun c => absurd c.1 (by decide))))) (c7.1)) ?_
            refine v_if (hi_X12_isWell_31 hT) (fun hc51 => absurd (show (eF τ i 2).1 = 0 from hc51) (by have := c7.2.1; omega)) (fun _ => ?_)
            refine v_load (v := (2, 121)) (hi_X12_isWell_34 hT) rfl rfl ?_
            refine v_push (10) (hi_X12_isWell_35 hT) rfl ?_
            refine v_call (w := 2) [some (2, 121), some (0, 10)] hO (hi_X12_isWell_37 hT) rfl rfl ?_
            refine v_load (v := (2, 121)) (hi_X12_no_0 hT) rfl rfl ?_
            refine v_load (v := (0, 10)) (hi_X12_no_1 hT) rfl rfl ?_
            refine v_putf (r := 121) hO (hi_X12_no_2 hT) rfl (fun hf52 => ?_)
            refine v_push (0) (hi_X12_no_5 hT) rfl ?_
            refine v_ret (hi_X12_no_6 hT) (Or.inl rfl) ?_
            show vP D T N 265 40 (zset (zset (zset (zset g7 126 2200 (0, 0)) 121 10 (0, (eF τ i 2).1)) 121 11 (0, (eF τ i 2).2)) 121 0 (0, 10)) [some (2, 121)] [(0, 0)] _
            refine v_if (hi_X12_isWell_40 hT) (fun _ => ?_) (fun hc53 => absurd (show (0 : Int) = 0 from (by decide)) hc53)
            refine v_push (0) (hi_X12_isWell_47 hT) rfl ?_
            refine v_ret (hi_X12_isWell_48 hT) (Or.inl rfl) ?_
            show vP D T N 268 216 (zset (zset (zset (zset g7 126 2200 (0, 0)) 121 10 (0, (eF τ i 2).1)) 121 11 (0, (eF τ i 2).2)) 121 0 (0, 10)) [some (2, 121), some (0, z), some (0, u)] [(0, 0)] _
            refine v_if (hi_X12_land_216 hT) (fun _ => ?_) (fun hc54 => absurd (show (0 : Int) = 0 from (by decide)) hc54)
            refine v_push (-1) (hi_X12_land_219 hT) rfl ?_
            refine v_ret (hi_X12_land_220 hT) (Or.inl rfl) ?_
            exact k3 g7 ft7 hc7 c7 v44
theorem qr_land96 {D : zD} {T : zT} (hT : hTab T) (hO : vOK T) {N : Nat} {h : zH} {Q : zR → Prop} {B : Nat → Int} {n m i : Nat} {τ P : PT} (z u : Int) (hv0 : zHv h) (hX : rX B n m τ i h) (hL : rL P h) (hb : (0 ≤ P 0 0 ∧ P 0 0 ≤ 8) ∧ (0 ≤ P 0 1 ∧ P 0 1 ≤ 6) ∧ (0 ≤ P 0 2 ∧ P 0 2 ≤ 3) ∧ (0 ≤ P 0 3 ∧ P 0 3 ≤ 6))
    (k0 : ((bW τ 1 i) = 0) → ((P 0 1) = 0) → ∀ (g7 : zH), (qF h g7) → (rE (eF τ i 2) g7) → Q (zset (zset (zset g7 121 10 (0, (eF τ i 2).1)) 121 11 (0, (eF τ i 2).2)) 121 0 (0, 10), some (0, -1)))
    (k1 : ((bW τ 1 i) = 0) → ((P 0 1) ≠ 0) → vP D T N 268 139 h [some (2, 121), some (0, z), some (0, u)] [] Q)
    (k2 : ((bW τ 1 i) ≠ 0) → ∀ (g16 : zH) (P16 : PT) (j16 : Nat), (rF h g16) → (pS τ (pRow τ P i) = .inr (P16, j16)) → (rX B n m τ j16 g16) → (rL P16 g16) → ((0 ≤ P16 0 0 ∧ P16 0 0 ≤ 8) ∧ (0 ≤ P16 0 1 ∧ P16 0 1 ≤ 6) ∧ (0 ≤ P16 0 2 ∧ P16 0 2 ≤ 3) ∧ (0 ≤ P16 0 3 ∧ P16 0 3 ≤ 6)) → vP D T N 268 96 g16 [some (2, 121), some (0, z), some (0, u)] [] Q)
    (k3 : ((bW τ 1 i) ≠ 0) → ∀ (g17 : zH) (e17 : Er), (rF h g17) → (pS τ (pRow τ P i) = .inl e17) → (rE e17 g17) → Q (zset (zset (zset g17 121 10 (0, e17.1)) 121 11 (0, e17.2)) 121 0 (0, 10), some (0, -1))) :
    vP D T (N + 1) 268 96 h [some (2, 121), some (0, z), some (0, u)] [] Q := by
  refine v_loadS (v := (2, 121)) (hi_X12_land_96 hT) rfl rfl ?_
  refine v_getf (v := (0, 0)) (r := 121) (hi_X12_land_97 hT) rfl rfl (fun _ => hX.b) ?_
  refine v_if (hi_X12_land_100 hT) (fun _ => ?_) (fun hc1 => absurd (show (0 : Int) = 0 from (by decide)) hc1)
  refine v_load (v := (2, 121)) (hz_X12_land hT _ _ rfl) rfl rfl ?_
  refine v_call (w := 1) [some (2, 121)] hO (hz_X12_land hT _ _ rfl) rfl rfl (rx_isRow hT hO hX ?_)
  · show vP D T N 268 107 h [some (2, 121), some (0, z), some (0, u)] [(0, (bW τ 1 i))] _
    refine v_if (hz_X12_land hT _ _ rfl) (fun hc2 => ?_) (fun hc2 => ?_)
    · have hc2 : (bW τ 1 i) = 0 := hc2
      refine v_load (v := (2, 121)) (hi_X12_land_117 hT) rfl rfl ?_
      refine v_getf (v := (0, 0)) (r := 121) (hi_X12_land_118 hT) rfl rfl (fun _ => hX.b) ?_
      refine v_if (hi_X12_land_121 hT) (fun _ => ?_) (fun hc3 => absurd (show (0 : Int) = 0 from (by decide)) hc3)
      refine v_load (v := (2, 121)) (hz_X12_land hT _ _ rfl) rfl rfl ?_
      refine v_getR (c := 126) (r := 121) (hz_X12_land hT _ _ rfl) rfl rfl rfl ?_
      refine v_push (2201) (hz_X12_land hT _ _ rfl) rfl ?_
      refine v_aldV (v := (0, (P 0 1))) (r := 126) (hz_X12_land hT _ _ rfl) rfl rfl (fun _ _ _ => hL.ro) (fun ha4 hb5 => ?_)
      refine v_if (hz_X12_land hT _ _ rfl) (fun hc6 => ?_) (fun hc6 => ?_)
      · have hc6 : (P 0 1) = 0 := hc6
        refine v_load (v := (2, 121)) (hz_X12_land hT _ _ rfl) rfl rfl ?_
        refine v_call (w := 1) [some (2, 121)] hO (hz_X12_land hT _ _ rfl) rfl rfl (rx_wrong hT hO hX (fun g7 ft7 c7 => ?_))
        · show vP D T N 268 139 g7 [some (2, 121), some (0, z), some (0, u)] [] _
          refine vP_hv (fun hv7 => ?_)
          refine v_load (v := (2, 121)) (hi_X12_land_139 hT) rfl rfl ?_
          refine v_getf (v := (0, (eF τ i 2).1)) (r := 121) (hi_X12_land_140 hT) rfl rfl (fun _ => c7.1) ?_
          refine v_if (hi_X12_land_143 hT) (fun hc8 => absurd (show (eF τ i 2).1 = 0 from hc8) (by have := c7.2.1; omega)) (fun _ => ?_)
          refine v_load (v := (2, 121)) (hi_X12_land_212 hT) rfl rfl ?_
          refine v_call (w := 1) [some (2, 121)] hO (hi_X12_land_213 hT) rfl rfl ?_
          refine v_load (v := (2, 121)) (hi_X12_isWell_0 hT) rfl rfl ?_
          refine v_load (v := (2, 121)) (hi_X12_isWell_1 hT) rfl rfl ?_
          refine v_getf (v := (0, (eF τ i 2).1)) (r := 121) (hi_X12_isWell_2 hT) rfl rfl (fun _ => c7.1) ?_
          refine v_putf (r := 121) hO (hi_X12_isWell_5 hT) rfl (fun hf9 => ?_)
          refine v_load (v := (2, 121)) (hi_X12_isWell_8 hT) rfl rfl ?_
          refine v_load (v := (2, 121)) (hi_X12_isWell_9 hT) rfl rfl ?_
          refine v_getf (v := (0, (eF τ i 2).1)) (r := 121) (hi_X12_isWell_10 hT) rfl rfl (fun _ => Eq.trans (zset_ne (fun c => absurd c.2 (by decide))) (c7.1)) ?_
          refine v_if (hi_X12_isWell_13 hT) (fun hc10 => absurd (show (eF τ i 2).1 = 0 from hc10) (by have := c7.2.1; omega)) (fun _ => ?_)
          refine v_load (v := (2, 121)) (hi_X12_isWell_20 hT) rfl rfl ?_
          refine v_getf (v := (0, (eF τ i 2).2)) (r := 121) (hi_X12_isWell_21 hT) rfl rfl (fun _ => Eq.trans (zset_ne (fun c => absurd c.2 (by decide))) (c7.2.2)) ?_
          refine v_putf (r := 121) hO (hi_X12_isWell_24 hT) rfl (fun hf11 => ?_)
          refine v_load (v := (2, 121)) (hi_X12_isWell_27 hT) rfl rfl ?_
          refine v_getf (v := (0, (eF τ i 2).1)) (r := 121) (hi_X12_isWell_28 hT) rfl rfl (fun _ => Eq.trans (Eq.trans (zset_ne (fun c => absurd c.2 (by decide))) (zset_ne (fun c => absurd c.2 (by decide)))) (c7.1)) ?_
          refine v_if (hi_X12_isWell_31 hT) (fun hc12 => absurd (show (eF τ i 2).1 = 0 from hc12) (by have := c7.2.1; omega)) (fun _ => ?_)
          refine v_load (v := (2, 121)) (hi_X12_isWell_34 hT) rfl rfl ?_
          refine v_push (10) (hi_X12_isWell_35 hT) rfl ?_
          refine v_call (w := 2) [some (2, 121), some (0, 10)] hO (hi_X12_isWell_37 hT) rfl rfl ?_
          refine v_load (v := (2, 121)) (hi_X12_no_0 hT) rfl rfl ?_
          refine v_load (v := (0, 10)) (hi_X12_no_1 hT) rfl rfl ?_
          refine v_putf (r := 121) hO (hi_X12_no_2 hT) rfl (fun hf13 => ?_)
          refine v_push (0) (hi_X12_no_5 hT) rfl ?_
          refine v_ret (hi_X12_no_6 hT) (Or.inl rfl) ?_
          show vP D T N 265 40 (zset (zset (zset g7 121 10 (0, (eF τ i 2).1)) 121 11 (0, (eF τ i 2).2)) 121 0 (0, 10)) [some (2, 121)] [(0, 0)] _
          refine v_if (hi_X12_isWell_40 hT) (fun _ => ?_) (fun hc14 => absurd (show (0 : Int) = 0 from (by decide)) hc14)
          refine v_push (0) (hi_X12_isWell_47 hT) rfl ?_
          refine v_ret (hi_X12_isWell_48 hT) (Or.inl rfl) ?_
          show vP D T N 268 216 (zset (zset (zset g7 121 10 (0, (eF τ i 2).1)) 121 11 (0, (eF τ i 2).2)) 121 0 (0, 10)) [some (2, 121), some (0, z), some (0, u)] [(0, 0)] _
          refine v_if (hi_X12_land_216 hT) (fun _ => ?_) (fun hc15 => absurd (show (0 : Int) = 0 from (by decide)) hc15)
          refine v_push (-1) (hi_X12_land_219 hT) rfl ?_
          refine v_ret (hi_X12_land_220 hT) (Or.inl rfl) ?_
          exact k0 hc2 hc6 g7 ft7 c7
      · have hc6 : (P 0 1) ≠ 0 := hc6
        exact k1 hc2 hc6
    · have hc2 : (bW τ 1 i) ≠ 0 := hc2
      refine v_load (v := (2, 121)) (hz_X12_land hT _ _ rfl) rfl rfl ?_
      refine v_call (w := 4) [some (2, 121), none, none, none] hO (hz_X12_land hT _ _ rfl) rfl rfl (rRd_k (vP_hv (fun hv_ => rx_row hT hO hv_ hX hL (show (0 ≤ P 0 0 ∧ P 0 0 ≤ 8) ∧ (0 ≤ P 0 1 ∧ P 0 1 ≤ 6) ∧ (0 ≤ P 0 2 ∧ P 0 2 ≤ 3) ∧ (0 ≤ P 0 3 ∧ P 0 3 ≤ 6) from by omega) hc2)) (fun g16 P16 j16 lf16 q16 hX16 hL16 hb16 => ?_) (fun g17 e17 lf17 q17 c17 => ?_))
      · show vP D T N 268 114 g16 [some (2, 121), some (0, z), some (0, u)] [] _
        have hb16 : (0 ≤ P16 0 0 ∧ P16 0 0 ≤ 8) ∧ (0 ≤ P16 0 1 ∧ P16 0 1 ≤ 6) ∧ (0 ≤ P16 0 2 ∧ P16 0 2 ≤ 3) ∧ (0 ≤ P16 0 3 ∧ P16 0 3 ≤ 6) := hb16
        refine vP_hv (fun hv16 => ?_)
        refine v_goto (hz_X12_land hT _ _ rfl) ?_
        exact k2 hc2 g16 P16 j16 lf16 q16 hX16 hL16 hb16
      · show vP D T N 268 114 g17 [some (2, 121), some (0, z), some (0, u)] [] _
        refine vP_hv (fun hv17 => ?_)
        refine v_goto (hz_X12_land hT _ _ rfl) ?_
        refine v_load (v := (2, 121)) (hi_X12_land_96 hT) rfl rfl ?_
        refine v_getf (v := (0, e17.1)) (r := 121) (hi_X12_land_97 hT) rfl rfl (fun _ => c17.1) ?_
        refine v_if (hi_X12_land_100 hT) (fun hc18 => absurd (show e17.1 = 0 from hc18) (by have := c17.2.1; omega)) (fun _ => ?_)
        refine v_load (v := (2, 121)) (hi_X12_land_117 hT) rfl rfl ?_
        refine v_getf (v := (0, e17.1)) (r := 121) (hi_X12_land_118 hT) rfl rfl (fun _ => c17.1) ?_
        refine v_if (hi_X12_land_121 hT) (fun hc19 => absurd (show e17.1 = 0 from hc19) (by have := c17.2.1; omega)) (fun _ => ?_)
        refine v_load (v := (2, 121)) (hi_X12_land_139 hT) rfl rfl ?_
        refine v_getf (v := (0, e17.1)) (r := 121) (hi_X12_land_140 hT) rfl rfl (fun _ => c17.1) ?_
        refine v_if (hi_X12_land_143 hT) (fun hc20 => absurd (show e17.1 = 0 from hc20) (by have := c17.2.1; omega)) (fun _ => ?_)
        refine v_load (v := (2, 121)) (hi_X12_land_212 hT) rfl rfl ?_
        refine v_call (w := 1) [some (2, 121)] hO (hi_X12_land_213 hT) rfl rfl ?_
        refine v_load (v := (2, 121)) (hi_X12_isWell_0 hT) rfl rfl ?_
        refine v_load (v := (2, 121)) (hi_X12_isWell_1 hT) rfl rfl ?_
        refine v_getf (v := (0, e17.1)) (r := 121) (hi_X12_isWell_2 hT) rfl rfl (fun _ => c17.1) ?_
        refine v_putf (r := 121) hO (hi_X12_isWell_5 hT) rfl (fun hf21 => ?_)
        refine v_load (v := (2, 121)) (hi_X12_isWell_8 hT) rfl rfl ?_
        refine v_load (v := (2, 121)) (hi_X12_isWell_9 hT) rfl rfl ?_
        refine v_getf (v := (0, e17.1)) (r := 121) (hi_X12_isWell_10 hT) rfl rfl (fun _ => Eq.trans (zset_ne (fun c => absurd c.2 (by decide))) (c17.1)) ?_
        refine v_if (hi_X12_isWell_13 hT) (fun hc22 => absurd (show e17.1 = 0 from hc22) (by have := c17.2.1; omega)) (fun _ => ?_)
        refine v_load (v := (2, 121)) (hi_X12_isWell_20 hT) rfl rfl ?_
        refine v_getf (v := (0, e17.2)) (r := 121) (hi_X12_isWell_21 hT) rfl rfl (fun _ => Eq.trans (zset_ne (fun c => absurd c.2 (by decide))) (c17.2.2)) ?_
        refine v_putf (r := 121) hO (hi_X12_isWell_24 hT) rfl (fun hf23 => ?_)
        refine v_load (v := (2, 121)) (hi_X12_isWell_27 hT) rfl rfl ?_
        refine v_getf (v := (0, e17.1)) (r := 121) (hi_X12_isWell_28 hT) rfl rfl (fun _ => Eq.trans (Eq.trans (zset_ne (fun c => absurd c.2 (by decide))) (zset_ne (fun c => absurd c.2 (by decide)))) (c17.1)) ?_
        refine v_if (hi_X12_isWell_31 hT) (fun hc24 => absurd (show e17.1 = 0 from hc24) (by have := c17.2.1; omega)) (fun _ => ?_)
        refine v_load (v := (2, 121)) (hi_X12_isWell_34 hT) rfl rfl ?_
        refine v_push (10) (hi_X12_isWell_35 hT) rfl ?_
        refine v_call (w := 2) [some (2, 121), some (0, 10)] hO (hi_X12_isWell_37 hT) rfl rfl ?_
        refine v_load (v := (2, 121)) (hi_X12_no_0 hT) rfl rfl ?_
        refine v_load (v := (0, 10)) (hi_X12_no_1 hT) rfl rfl ?_
        refine v_putf (r := 121) hO (hi_X12_no_2 hT) rfl (fun hf25 => ?_)
        refine v_push (0) (hi_X12_no_5 hT) rfl ?_
        refine v_ret (hi_X12_no_6 hT) (Or.inl rfl) ?_
        show vP D T N 265 40 (zset (zset (zset g17 121 10 (0, e17.1)) 121 11 (0, e17.2)) 121 0 (0, 10)) [some (2, 121)] [(0, 0)] _
        refine v_if (hi_X12_isWell_40 hT) (fun _ => ?_) (fun hc26 => absurd (show (0 : Int) = 0 from (by decide)) hc26)
        refine v_push (0) (hi_X12_isWell_47 hT) rfl ?_
        refine v_ret (hi_X12_isWell_48 hT) (Or.inl rfl) ?_
        show vP D T N 268 216 (zset (zset (zset g17 121 10 (0, e17.1)) 121 11 (0, e17.2)) 121 0 (0, 10)) [some (2, 121), some (0, z), some (0, u)] [(0, 0)] _
        refine v_if (hi_X12_land_216 hT) (fun _ => ?_) (fun hc27 => absurd (show (0 : Int) = 0 from (by decide)) hc27)
        refine v_push (-1) (hi_X12_land_219 hT) rfl ?_
        refine v_ret (hi_X12_land_220 hT) (Or.inl rfl) ?_
        exact k3 hc2 g17 e17 lf17 q17 c17
theorem qr_land139 {D : zD} {T : zT} (hT : hTab T) (hO : vOK T) {N : Nat} {h : zH} {Q : zR → Prop} {B : Nat → Int} {n m i : Nat} {τ P : PT} (z u : Int) (hv0 : zHv h) (hX : rX B n m τ i h) (hL : rL P h) (hb : (0 ≤ P 0 0 ∧ P 0 0 ≤ 8) ∧ (0 ≤ P 0 1 ∧ P 0 1 ≤ 6) ∧ (0 ≤ P 0 2 ∧ P 0 2 ≤ 3) ∧ (0 ≤ P 0 3 ∧ P 0 3 ≤ 6))
    (k0 : ((τ 0 i) = 0) → vP D T N 268 212 h [some (2, 121), some (0, z), some (0, u)] [] Q)
    (k1 : ((τ 0 i) ≠ 0) → ((bW τ 2 i) = 0) → ((bW τ 4 i) = 0) → ((bW τ 5 i) = 0) → ∀ (g6 : zH), (qF h g6) → (rE (eF τ i 2) g6) → ∀ (v7 : Int), Q (zset (zset (zset g6 121 10 (0, (eF τ i 2).1)) 121 11 (0, (eF τ i 2).2)) 121 0 (0, 10), some (0, -1)))
    (k2 : ((τ 0 i) ≠ 0) → ((bW τ 2 i) = 0) → ((bW τ 4 i) = 0) → ((bW τ 5 i) ≠ 0) → ∀ (g16 : zH) (P16 : PT) (j16 : Nat), (rF h g16) → (pCompany τ P i = .inr (P16, j16)) → (rX B n m τ j16 g16) → (rL P16 g16) → ((0 ≤ P16 0 0 ∧ P16 0 0 ≤ 8) ∧ (0 ≤ P16 0 1 ∧ P16 0 1 ≤ 6) ∧ (0 ≤ P16 0 2 ∧ P16 0 2 ≤ 3) ∧ (0 ≤ P16 0 3 ∧ P16 0 3 ≤ 6)) → ∀ (g19 : zH), (qF g16 g19) → ((bG τ 59 j16) ≠ 0) → (rX B n m τ (j16 + 1) g19) → vP D T N 268 139 g19 [some (2, 121), some (0, z), some (0, u)] [] Q)
    (k3 : ((τ 0 i) ≠ 0) → ((bW τ 2 i) = 0) → ((bW τ 4 i) = 0) → ((bW τ 5 i) ≠ 0) → ∀ (g16 : zH) (P16 : PT) (j16 : Nat), (rF h g16) → (pCompany τ P i = .inr (P16, j16)) → (rX B n m τ j16 g16) → (rL P16 g16) → ((0 ≤ P16 0 0 ∧ P16 0 0 ≤ 8) ∧ (0 ≤ P16 0 1 ∧ P16 0 1 ≤ 6) ∧ (0 ≤ P16 0 2 ∧ P16 0 2 ≤ 3) ∧ (0 ≤ P16 0 3 ∧ P16 0 3 ≤ 6)) → ∀ (g20 : zH), (qF g16 g20) → ((bG τ 59 j16) = 0) → (rE (eF τ j16 2) g20) → Q (zset (zset (zset g20 121 10 (0, (eF τ j16 2).1)) 121 11 (0, (eF τ j16 2).2)) 121 0 (0, 10), some (0, -1)))
    (k4 : ((τ 0 i) ≠ 0) → ((bW τ 2 i) = 0) → ((bW τ 4 i) = 0) → ((bW τ 5 i) ≠ 0) → ∀ (g17 : zH) (e17 : Er), (rF h g17) → (pCompany τ P i = .inl e17) → (rE e17 g17) → ∀ (v29 : Int), Q (zset (zset (zset g17 121 10 (0, e17.1)) 121 11 (0, e17.2)) 121 0 (0, 10), some (0, -1)))
    (k5 : ((τ 0 i) ≠ 0) → ((bW τ 2 i) = 0) → ((bW τ 4 i) ≠ 0) → ∀ (g38 : zH) (P38 : PT) (j38 : Nat), (rF h g38) → (pCopies τ P i = .inr (P38, j38)) → (rX B n m τ j38 g38) → (rL P38 g38) → ((0 ≤ P38 0 0 ∧ P38 0 0 ≤ 8) ∧ (0 ≤ P38 0 1 ∧ P38 0 1 ≤ 6) ∧ (0 ≤ P38 0 2 ∧ P38 0 2 ≤ 3) ∧ (0 ≤ P38 0 3 ∧ P38 0 3 ≤ 6)) → ∀ (g41 : zH), (qF g38 g41) → ((bG τ 59 j38) ≠ 0) → (rX B n m τ (j38 + 1) g41) → vP D T N 268 139 g41 [some (2, 121), some (0, z), some (0, u)] [] Q)
    (k6 : ((τ 0 i) ≠ 0) → ((bW τ 2 i) = 0) → ((bW τ 4 i) ≠ 0) → ∀ (g38 : zH) (P38 : PT) (j38 : Nat), (rF h g38) → (pCopies τ P i = .inr (P38, j38)) → (rX B n m τ j38 g38) → (rL P38 g38) → ((0 ≤ P38 0 0 ∧ P38 0 0 ≤ 8) ∧ (0 ≤ P38 0 1 ∧ P38 0 1 ≤ 6) ∧ (0 ≤ P38 0 2 ∧ P38 0 2 ≤ 3) ∧ (0 ≤ P38 0 3 ∧ P38 0 3 ≤ 6)) → ∀ (g42 : zH), (qF g38 g42) → ((bG τ 59 j38) = 0) → (rE (eF τ j38 2) g42) → Q (zset (zset (zset g42 121 10 (0, (eF τ j38 2).1)) 121 11 (0, (eF τ j38 2).2)) 121 0 (0, 10), some (0, -1)))
    (k7 : ((τ 0 i) ≠ 0) → ((bW τ 2 i) = 0) → ((bW τ 4 i) ≠ 0) → ∀ (g39 : zH) (e39 : Er), (rF h g39) → (pCopies τ P i = .inl e39) → (rE e39 g39) → ∀ (v51 : Int), Q (zset (zset (zset g39 121 10 (0, e39.1)) 121 11 (0, e39.2)) 121 0 (0, 10), some (0, -1)))
    (k8 : ((τ 0 i) ≠ 0) → ((bW τ 2 i) ≠ 0) → ∀ (g60 : zH) (P60 : PT) (j60 : Nat), (rF h g60) → (pRise τ P i = .inr (P60, j60)) → (rX B n m τ j60 g60) → (rL P60 g60) → ((0 ≤ P60 0 0 ∧ P60 0 0 ≤ 8) ∧ (0 ≤ P60 0 1 ∧ P60 0 1 ≤ 6) ∧ (0 ≤ P60 0 2 ∧ P60 0 2 ≤ 3) ∧ (0 ≤ P60 0 3 ∧ P60 0 3 ≤ 6)) → ∀ (g63 : zH), (qF g60 g63) → ((bG τ 59 j60) ≠ 0) → (rX B n m τ (j60 + 1) g63) → vP D T N 268 139 g63 [some (2, 121), some (0, z), some (0, u)] [] Q)
    (k9 : ((τ 0 i) ≠ 0) → ((bW τ 2 i) ≠ 0) → ∀ (g60 : zH) (P60 : PT) (j60 : Nat), (rF h g60) → (pRise τ P i = .inr (P60, j60)) → (rX B n m τ j60 g60) → (rL P60 g60) → ((0 ≤ P60 0 0 ∧ P60 0 0 ≤ 8) ∧ (0 ≤ P60 0 1 ∧ P60 0 1 ≤ 6) ∧ (0 ≤ P60 0 2 ∧ P60 0 2 ≤ 3) ∧ (0 ≤ P60 0 3 ∧ P60 0 3 ≤ 6)) → ∀ (g64 : zH), (qF g60 g64) → ((bG τ 59 j60) = 0) → (rE (eF τ j60 2) g64) → Q (zset (zset (zset g64 121 10 (0, (eF τ j60 2).1)) 121 11 (0, (eF τ j60 2).2)) 121 0 (0, 10), some (0, -1)))
    (k10 : ((τ 0 i) ≠ 0) → ((bW τ 2 i) ≠ 0) → ∀ (g61 : zH) (e61 : Er), (rF h g61) → (pRise τ P i = .inl e61) → (rE e61 g61) → ∀ (v73 : Int), Q (zset (zset (zset g61 121 10 (0, e61.1)) 121 11 (0, e61.2)) 121 0 (0, 10), some (0, -1))) :
    vP D T (N + 1) 268 139 h [some (2, 121), some (0, z), some (0, u)] [] Q := by
  refine v_loadS (v := (2, 121)) (hi_X12_land_139 hT) rfl rfl ?_
  refine v_getf (v := (0, 0)) (r := 121) (hi_X12_land_140 hT) rfl rfl (fun _ => hX.b) ?_
  refine v_if (hi_X12_land_143 hT) (fun _ => ?_) (fun hc1 => absurd (show (0 : Int) = 0 from (by decide)) hc1)
  refine v_load (v := (2, 121)) (hz_X12_land hT _ _ rfl) rfl rfl ?_
  refine v_getf (v := (0, (τ 0 i))) (r := 121) (hz_X12_land hT _ _ rfl) rfl rfl (fun _ => hX.tk) ?_
  refine v_if (hz_X12_land hT _ _ rfl) (fun hc2 => ?_) (fun hc2 => ?_)
  · have hc2 : (τ 0 i) = 0 := hc2
    exact k0 hc2
  · have hc2 : (τ 0 i) ≠ 0 := hc2
    refine v_load (v := (2, 121)) (hz_X12_land hT _ _ rfl) rfl rfl ?_
    refine v_call (w := 1) [some (2, 121)] hO (hz_X12_land hT _ _ rfl) rfl rfl (rx_isRise hT hO hX ?_)
    · show vP D T N 268 157 h [some (2, 121), some (0, z), some (0, u)] [(0, (bW τ 2 i))] _
      refine v_if (hz_X12_land hT _ _ rfl) (fun hc3 => ?_) (fun hc3 => ?_)
      · have hc3 : (bW τ 2 i) = 0 := hc3
        refine v_load (v := (2, 121)) (hz_X12_land hT _ _ rfl) rfl rfl ?_
        refine v_call (w := 1) [some (2, 121)] hO (hz_X12_land hT _ _ rfl) rfl rfl (rx_isCopies hT hO hX ?_)
        · show vP D T N 268 171 h [some (2, 121), some (0, z), some (0, u)] [(0, (bW τ 4 i))] _
          refine v_if (hz_X12_land hT _ _ rfl) (fun hc4 => ?_) (fun hc4 => ?_)
          · have hc4 : (bW τ 4 i) = 0 := hc4
            refine v_load (v := (2, 121)) (hz_X12_land hT _ _ rfl) rfl rfl ?_
            refine v_call (w := 1) [some (2, 121)] hO (hz_X12_land hT _ _ rfl) rfl rfl (rx_isCompany hT hO hX ?_)
            · show vP D T N 268 185 h [some (2, 121), some (0, z), some (0, u)] [(0, (bW τ 5 i))] _
              refine v_if (hz_X12_land hT _ _ rfl) (fun hc5 => ?_) (fun hc5 => ?_)
              · have hc5 : (bW τ 5 i) = 0 := hc5
                refine v_load (v := (2, 121)) (hz_X12_land hT _ _ rfl) rfl rfl ?_
                refine v_call (w := 1) [some (2, 121)] hO (hz_X12_land hT _ _ rfl) rfl rfl (rx_wrong hT hO hX (fun g6 ft6 c6 => ?_))
                · show vP D T N 268 199 g6 [some (2, 121), some (0, z), some (0, u)] [] _
                  refine vP_hv (fun hv6 => ?_)
                  refine v_load (v := (2, 121)) (hi_X12_land_199 hT) rfl rfl ?_
                  refine v_load (v := (2, 121)) (hi_X12_land_200 hT) rfl rfl ?_
                  refine v_push (59) (hi_X12_land_201 hT) rfl ?_
                  refine v_call (w := 2) [some (2, 121), some (0, 59)] hO (hi_X12_land_203 hT) rfl rfl (rb_any_isSign hT hO (fun v7 => ?_))
                  · show vP D T N 268 206 g6 [some (2, 121), some (0, z), some (0, u)] [(0, v7), (2, 121)] _
                    refine v_call (w := 2) [some (2, 121), some (0, v7)] hO (hi_X12_land_206 hT) rfl rfl (rx_mustB hT hO v7 c6 ?_)
                    · show vP D T N 268 209 g6 [some (2, 121), some (0, z), some (0, u)] [] _
                      refine v_goto (hi_X12_land_209 hT) ?_
                      refine v_load (v := (2, 121)) (hi_X12_land_139 hT) rfl rfl ?_
                      refine v_getf (v := (0, (eF τ i 2).1)) (r := 121) (hi_X12_land_140 hT) rfl rfl (fun _ => c6.1) ?_
                      refine v_if (hi_X12_land_143 hT) (fun hc8 => absurd (show (eF τ i 2).1 = 0 from hc8) (by have := c6.2.1; omega)) (fun _ => ?_)
                      refine v_load (v := (2, 121)) (hi_X12_land_212 hT) rfl rfl ?_
                      refine v_call (w := 1) [some (2, 121)] hO (hi_X12_land_213 hT) rfl rfl ?_
                      refine v_load (v := (2, 121)) (hi_X12_isWell_0 hT) rfl rfl ?_
                      refine v_load (v := (2, 121)) (hi_X12_isWell_1 hT) rfl rfl ?_
                      refine v_getf (v := (0, (eF τ i 2).1)) (r := 121) (hi_X12_isWell_2 hT) rfl rfl (fun _ => c6.1) ?_
                      refine v_putf (r := 121) hO (hi_X12_isWell_5 hT) rfl (fun hf9 => ?_)
                      refine v_load (v := (2, 121)) (hi_X12_isWell_8 hT) rfl rfl ?_
                      refine v_load (v := (2, 121)) (hi_X12_isWell_9 hT) rfl rfl ?_
                      refine v_getf (v := (0, (eF τ i 2).1)) (r := 121) (hi_X12_isWell_10 hT) rfl rfl (fun _ => Eq.trans (zset_ne (fun c => absurd c.2 (by decide))) (c6.1)) ?_
                      refine v_if (hi_X12_isWell_13 hT) (fun hc10 => absurd (show (eF τ i 2).1 = 0 from hc10) (by have := c6.2.1; omega)) (fun _ => ?_)
                      refine v_load (v := (2, 121)) (hi_X12_isWell_20 hT) rfl rfl ?_
                      refine v_getf (v := (0, (eF τ i 2).2)) (r := 121) (hi_X12_isWell_21 hT) rfl rfl (fun _ => Eq.trans (zset_ne (fun c => absurd c.2 (by decide))) (c6.2.2)) ?_
                      refine v_putf (r := 121) hO (hi_X12_isWell_24 hT) rfl (fun hf11 => ?_)
                      refine v_load (v := (2, 121)) (hi_X12_isWell_27 hT) rfl rfl ?_
                      refine v_getf (v := (0, (eF τ i 2).1)) (r := 121) (hi_X12_isWell_28 hT) rfl rfl (fun _ => Eq.trans (Eq.trans (zset_ne (fun c => absurd c.2 (by decide))) (zset_ne (fun c => absurd c.2 (by decide)))) (c6.1)) ?_
                      refine v_if (hi_X12_isWell_31 hT) (fun hc12 => absurd (show (eF τ i 2).1 = 0 from hc12) (by have := c6.2.1; omega)) (fun _ => ?_)
                      refine v_load (v := (2, 121)) (hi_X12_isWell_34 hT) rfl rfl ?_
                      refine v_push (10) (hi_X12_isWell_35 hT) rfl ?_
                      refine v_call (w := 2) [some (2, 121), some (0, 10)] hO (hi_X12_isWell_37 hT) rfl rfl ?_
                      refine v_load (v := (2, 121)) (hi_X12_no_0 hT) rfl rfl ?_
                      refine v_load (v := (0, 10)) (hi_X12_no_1 hT) rfl rfl ?_
                      refine v_putf (r := 121) hO (hi_X12_no_2 hT) rfl (fun hf13 => ?_)
                      refine v_push (0) (hi_X12_no_5 hT) rfl ?_
                      refine v_ret (hi_X12_no_6 hT) (Or.inl rfl) ?_
                      show vP D T N 265 40 (zset (zset (zset g6 121 10 (0, (eF τ i 2).1)) 121 11 (0, (eF τ i 2).2)) 121 0 (0, 10)) [some (2, 121)] [(0, 0)] _
                      refine v_if (hi_X12_isWell_40 hT) (fun _ => ?_) (fun hc14 => absurd (show (0 : Int) = 0 from (by decide)) hc14)
                      refine v_push (0) (hi_X12_isWell_47 hT) rfl ?_
                      refine v_ret (hi_X12_isWell_48 hT) (Or.inl rfl) ?_
                      show vP D T N 268 216 (zset (zset (zset g6 121 10 (0, (eF τ i 2).1)) 121 11 (0, (eF τ i 2).2)) 121 0 (0, 10)) [some (2, 121), some (0, z), some (0, u)] [(0, 0)] _
                      refine v_if (hi_X12_land_216 hT) (fun _ => ?_) (fun hc15 => absurd (show (0 : Int) = 0 from (by decide)) hc15)
                      refine v_push (-1) (hi_X12_land_219 hT) rfl ?_
                      refine v_ret (hi_X12_land_220 hT) (Or.inl rfl) ?_
                      exact k1 hc2 hc3 hc4 hc5 g6 ft6 c6 v7
              · have hc5 : (bW τ 5 i) ≠ 0 := hc5
                refine v_load (v := (2, 121)) (hz_X12_land hT _ _ rfl) rfl rfl ?_
                refine v_call (w := 5) [some (2, 121), none, none, none, none] hO (hz_X12_land hT _ _ rfl) rfl rfl (rRd_k (vP_hv (fun hv_ => rx_comp hT hO hv_ hX hL (show (0 ≤ P 0 0 ∧ P 0 0 ≤ 8) ∧ (0 ≤ P 0 1 ∧ P 0 1 ≤ 6) ∧ (0 ≤ P 0 2 ∧ P 0 2 ≤ 3) ∧ (0 ≤ P 0 3 ∧ P 0 3 ≤ 6) from by omega) hc5)) (fun g16 P16 j16 lf16 q16 hX16 hL16 hb16 => ?_) (fun g17 e17 lf17 q17 c17 => ?_))
                · show vP D T N 268 192 g16 [some (2, 121), some (0, z), some (0, u)] [] _
                  have hb16 : (0 ≤ P16 0 0 ∧ P16 0 0 ≤ 8) ∧ (0 ≤ P16 0 1 ∧ P16 0 1 ≤ 6) ∧ (0 ≤ P16 0 2 ∧ P16 0 2 ≤ 3) ∧ (0 ≤ P16 0 3 ∧ P16 0 3 ≤ 6) := hb16
                  refine vP_hv (fun hv16 => ?_)
                  refine v_goto (hz_X12_land hT _ _ rfl) ?_
                  refine v_load (v := (2, 121)) (hi_X12_land_199 hT) rfl rfl ?_
                  refine v_load (v := (2, 121)) (hi_X12_land_200 hT) rfl rfl ?_
                  refine v_push (59) (hi_X12_land_201 hT) rfl ?_
                  refine v_call (w := 2) [some (2, 121), some (0, 59)] hO (hi_X12_land_203 hT) rfl rfl (rx_isSign hT hO 59 hX16 ?_)
                  · show vP D T N 268 206 g16 [some (2, 121), some (0, z), some (0, u)] [(0, (bG τ 59 j16)), (2, 121)] _
                    refine v_call (w := 2) [some (2, 121), some (0, (bG τ 59 j16))] hO (hi_X12_land_206 hT) rfl rfl (rx_must hT hO ((bG τ 59 j16)) hX16 (fun c => ⟨by have := (bG_y.mp c).1; omega, by have := (bG_y.mp c).1; omega⟩) (fun g19 ft19 hc18 hX19 => ?_) (fun g20 ft20 hc20 c20 => ?_))
                    · show vP D T N 268 209 g19 [some (2, 121), some (0, z), some (0, u)] [] _
                      refine vP_hv (fun hv19 => ?_)
                      refine v_goto (hi_X12_land_209 hT) ?_
                      exact k2 hc2 hc3 hc4 hc5 g16 P16 j16 lf16 q16 hX16 hL16 hb16 g19 ft19 hc18 hX19
                    · show vP D T N 268 209 g20 [some (2, 121), some (0, z), some (0, u)] [] _
                      refine vP_hv (fun hv20 => ?_)
                      refine v_goto (hi_X12_land_209 hT) ?_
                      refine v_load (v := (2, 121)) (hi_X12_land_139 hT) rfl rfl ?_
                      refine v_getf (v := (0, (eF τ j16 2).1)) (r := 121) (hi_X12_land_140 hT) rfl rfl (fun _ => c20.1) ?_
                      refine v_if (hi_X12_land_143 hT) (fun hc21 => absurd (show (eF τ j16 2).1 = 0 from hc21) (by have := c20.2.1; omega)) (fun _ => ?_)
                      refine v_load (v := (2, 121)) (hi_X12_land_212 hT) rfl rfl ?_
                      refine v_call (w := 1) [some (2, 121)] hO (hi_X12_land_213 hT) rfl rfl ?_
                      refine v_load (v := (2, 121)) (hi_X12_isWell_0 hT) rfl rfl ?_
                      refine v_load (v := (2, 121)) (hi_X12_isWell_1 hT) rfl rfl ?_
                      refine v_getf (v := (0, (eF τ j16 2).1)) (r := 121) (hi_X12_isWell_2 hT) rfl rfl (fun _ => c20.1) ?_
                      refine v_putf (r := 121) hO (hi_X12_isWell_5 hT) rfl (fun hf22 => ?_)
                      refine v_load (v := (2, 121)) (hi_X12_isWell_8 hT) rfl rfl ?_
                      refine v_load (v := (2, 121)) (hi_X12_isWell_9 hT) rfl rfl ?_
                      refine v_getf (v := (0, (eF τ j16 2).1)) (r := 121) (hi_X12_isWell_10 hT) rfl rfl (fun _ => Eq.trans (zset_ne (fun c => absurd c.2 (by decide))) (c20.1)) ?_
                      refine v_if (hi_X12_isWell_13 hT) (fun hc23 => absurd (show (eF τ j16 2).1 = 0 from hc23) (by have := c20.2.1; omega)) (fun _ => ?_)
                      refine v_load (v := (2, 121)) (hi_X12_isWell_20 hT) rfl rfl ?_
                      refine v_getf (v := (0, (eF τ j16 2).2)) (r := 121) (hi_X12_isWell_21 hT) rfl rfl (fun _ => Eq.trans (zset_ne (fun c => absurd c.2 (by decide))) (c20.2.2)) ?_
                      refine v_putf (r := 121) hO (hi_X12_isWell_24 hT) rfl (fun hf24 => ?_)
                      refine v_load (v := (2, 121)) (hi_X12_isWell_27 hT) rfl rfl ?_
                      refine v_getf (v := (0, (eF τ j16 2).1)) (r := 121) (hi_X12_isWell_28 hT) rfl rfl (fun _ => Eq.trans (Eq.trans (zset_ne (fun c => absurd c.2 (by decide))) (zset_ne (fun c => absurd c.2 (by decide)))) (c20.1)) ?_
                      refine v_if (hi_X12_isWell_31 hT) (fun hc25 => absurd (show (eF τ j16 2).1 = 0 from hc25) (by have := c20.2.1; omega)) (fun _ => ?_)
                      refine v_load (v := (2, 121)) (hi_X12_isWell_34 hT) rfl rfl ?_
                      refine v_push (10) (hi_X12_isWell_35 hT) rfl ?_
                      refine v_call (w := 2) [some (2, 121), some (0, 10)] hO (hi_X12_isWell_37 hT) rfl rfl ?_
                      refine v_load (v := (2, 121)) (hi_X12_no_0 hT) rfl rfl ?_
                      refine v_load (v := (0, 10)) (hi_X12_no_1 hT) rfl rfl ?_
                      refine v_putf (r := 121) hO (hi_X12_no_2 hT) rfl (fun hf26 => ?_)
                      refine v_push (0) (hi_X12_no_5 hT) rfl ?_
                      refine v_ret (hi_X12_no_6 hT) (Or.inl rfl) ?_
                      show vP D T N 265 40 (zset (zset (zset g20 121 10 (0, (eF τ j16 2).1)) 121 11 (0, (eF τ j16 2).2)) 121 0 (0, 10)) [some (2, 121)] [(0, 0)] _
                      refine v_if (hi_X12_isWell_40 hT) (fun _ => ?_) (fun hc27 => absurd (show (0 : Int) = 0 from (by decide)) hc27)
                      refine v_push (0) (hi_X12_isWell_47 hT) rfl ?_
                      refine v_ret (hi_X12_isWell_48 hT) (Or.inl rfl) ?_
                      show vP D T N 268 216 (zset (zset (zset g20 121 10 (0, (eF τ j16 2).1)) 121 11 (0, (eF τ j16 2).2)) 121 0 (0, 10)) [some (2, 121), some (0, z), some (0, u)] [(0, 0)] _
                      refine v_if (hi_X12_land_216 hT) (fun _ => ?_) (fun hc28 => absurd (show (0 : Int) = 0 from (by decide)) hc28)
                      refine v_push (-1) (hi_X12_land_219 hT) rfl ?_
                      refine v_ret (hi_X12_land_220 hT) (Or.inl rfl) ?_
                      exact k3 hc2 hc3 hc4 hc5 g16 P16 j16 lf16 q16 hX16 hL16 hb16 g20 ft20 hc20 c20
                · show vP D T N 268 192 g17 [some (2, 121), some (0, z), some (0, u)] [] _
                  refine vP_hv (fun hv17 => ?_)
                  refine v_goto (hz_X12_land hT _ _ rfl) ?_
                  refine v_load (v := (2, 121)) (hi_X12_land_199 hT) rfl rfl ?_
                  refine v_load (v := (2, 121)) (hi_X12_land_200 hT) rfl rfl ?_
                  refine v_push (59) (hi_X12_land_201 hT) rfl ?_
                  refine v_call (w := 2) [some (2, 121), some (0, 59)] hO (hi_X12_land_203 hT) rfl rfl (rb_any_isSign hT hO (fun v29 => ?_))
                  · show vP D T N 268 206 g17 [some (2, 121), some (0, z), some (0, u)] [(0, v29), (2, 121)] _
                    refine v_call (w := 2) [some (2, 121), some (0, v29)] hO (hi_X12_land_206 hT) rfl rfl (rx_mustB hT hO v29 c17 ?_)
                    · show vP D T N 268 209 g17 [some (2, 121), some (0, z), some (0, u)] [] _
                      refine v_goto (hi_X12_land_209 hT) ?_
                      refine v_load (v := (2, 121)) (hi_X12_land_139 hT) rfl rfl ?_
                      refine v_getf (v := (0, e17.1)) (r := 121) (hi_X12_land_140 hT) rfl rfl (fun _ => c17.1) ?_
                      refine v_if (hi_X12_land_143 hT) (fun hc30 => absurd (show e17.1 = 0 from hc30) (by have := c17.2.1; omega)) (fun _ => ?_)
                      refine v_load (v := (2, 121)) (hi_X12_land_212 hT) rfl rfl ?_
                      refine v_call (w := 1) [some (2, 121)] hO (hi_X12_land_213 hT) rfl rfl ?_
                      refine v_load (v := (2, 121)) (hi_X12_isWell_0 hT) rfl rfl ?_
                      refine v_load (v := (2, 121)) (hi_X12_isWell_1 hT) rfl rfl ?_
                      refine v_getf (v := (0, e17.1)) (r := 121) (hi_X12_isWell_2 hT) rfl rfl (fun _ => c17.1) ?_
                      refine v_putf (r := 121) hO (hi_X12_isWell_5 hT) rfl (fun hf31 => ?_)
                      refine v_load (v := (2, 121)) (hi_X12_isWell_8 hT) rfl rfl ?_
                      refine v_load (v := (2, 121)) (hi_X12_isWell_9 hT) rfl rfl ?_
                      refine v_getf (v := (0, e17.1)) (r := 121) (hi_X12_isWell_10 hT) rfl rfl (fun _ => Eq.trans (zset_ne (fun c => absurd c.2 (by decide))) (c17.1)) ?_
                      refine v_if (hi_X12_isWell_13 hT) (fun hc32 => absurd (show e17.1 = 0 from hc32) (by have := c17.2.1; omega)) (fun _ => ?_)
                      refine v_load (v := (2, 121)) (hi_X12_isWell_20 hT) rfl rfl ?_
                      refine v_getf (v := (0, e17.2)) (r := 121) (hi_X12_isWell_21 hT) rfl rfl (fun _ => Eq.trans (zset_ne (fun c => absurd c.2 (by decide))) (c17.2.2)) ?_
                      refine v_putf (r := 121) hO (hi_X12_isWell_24 hT) rfl (fun hf33 => ?_)
                      refine v_load (v := (2, 121)) (hi_X12_isWell_27 hT) rfl rfl ?_
                      refine v_getf (v := (0, e17.1)) (r := 121) (hi_X12_isWell_28 hT) rfl rfl (fun _ => Eq.trans (Eq.trans (zset_ne (fun c => absurd c.2 (by decide))) (zset_ne (fun c => absurd c.2 (by decide)))) (c17.1)) ?_
                      refine v_if (hi_X12_isWell_31 hT) (fun hc34 => absurd (show e17.1 = 0 from hc34) (by have := c17.2.1; omega)) (fun _ => ?_)
                      refine v_load (v := (2, 121)) (hi_X12_isWell_34 hT) rfl rfl ?_
                      refine v_push (10) (hi_X12_isWell_35 hT) rfl ?_
                      refine v_call (w := 2) [some (2, 121), some (0, 10)] hO (hi_X12_isWell_37 hT) rfl rfl ?_
                      refine v_load (v := (2, 121)) (hi_X12_no_0 hT) rfl rfl ?_
                      refine v_load (v := (0, 10)) (hi_X12_no_1 hT) rfl rfl ?_
                      refine v_putf (r := 121) hO (hi_X12_no_2 hT) rfl (fun hf35 => ?_)
                      refine v_push (0) (hi_X12_no_5 hT) rfl ?_
                      refine v_ret (hi_X12_no_6 hT) (Or.inl rfl) ?_
                      show vP D T N 265 40 (zset (zset (zset g17 121 10 (0, e17.1)) 121 11 (0, e17.2)) 121 0 (0, 10)) [some (2, 121)] [(0, 0)] _
                      refine v_if (hi_X12_isWell_40 hT) (fun _ => ?_) (fun hc36 => absurd (show (0 : Int) = 0 from (by decide)) hc36)
                      refine v_push (0) (hi_X12_isWell_47 hT) rfl ?_
                      refine v_ret (hi_X12_isWell_48 hT) (Or.inl rfl) ?_
                      show vP D T N 268 216 (zset (zset (zset g17 121 10 (0, e17.1)) 121 11 (0, e17.2)) 121 0 (0, 10)) [some (2, 121), some (0, z), some (0, u)] [(0, 0)] _
                      refine v_if (hi_X12_land_216 hT) (fun _ => ?_) (fun hc37 => absurd (show (0 : Int) = 0 from (by decide)) hc37)
                      refine v_push (-1) (hi_X12_land_219 hT) rfl ?_
                      refine v_ret (hi_X12_land_220 hT) (Or.inl rfl) ?_
                      exact k4 hc2 hc3 hc4 hc5 g17 e17 lf17 q17 c17 v29
          · have hc4 : (bW τ 4 i) ≠ 0 := hc4
            refine v_load (v := (2, 121)) (hz_X12_land hT _ _ rfl) rfl rfl ?_
            refine v_call (w := 1) [some (2, 121)] hO (hz_X12_land hT _ _ rfl) rfl rfl (rRd_k (vP_hv (fun hv_ => rx_cops hT hO hv_ hX hL (show (0 ≤ P 0 0 ∧ P 0 0 ≤ 8) ∧ (0 ≤ P 0 1 ∧ P 0 1 ≤ 6) ∧ (0 ≤ P 0 2 ∧ P 0 2 ≤ 3) ∧ (0 ≤ P 0 3 ∧ P 0 3 ≤ 6) from by omega) hc4)) (fun g38 P38 j38 lf38 q38 hX38 hL38 hb38 => ?_) (fun g39 e39 lf39 q39 c39 => ?_))
            · show vP D T N 268 178 g38 [some (2, 121), some (0, z), some (0, u)] [] _
              have hb38 : (0 ≤ P38 0 0 ∧ P38 0 0 ≤ 8) ∧ (0 ≤ P38 0 1 ∧ P38 0 1 ≤ 6) ∧ (0 ≤ P38 0 2 ∧ P38 0 2 ≤ 3) ∧ (0 ≤ P38 0 3 ∧ P38 0 3 ≤ 6) := hb38
              refine vP_hv (fun hv38 => ?_)
              refine v_goto (hz_X12_land hT _ _ rfl) ?_
              refine v_load (v := (2, 121)) (hi_X12_land_199 hT) rfl rfl ?_
              refine v_load (v := (2, 121)) (hi_X12_land_200 hT) rfl rfl ?_
              refine v_push (59) (hi_X12_land_201 hT) rfl ?_
              refine v_call (w := 2) [some (2, 121), some (0, 59)] hO (hi_X12_land_203 hT) rfl rfl (rx_isSign hT hO 59 hX38 ?_)
              · show vP D T N 268 206 g38 [some (2, 121), some (0, z), some (0, u)] [(0, (bG τ 59 j38)), (2, 121)] _
                refine v_call (w := 2) [some (2, 121), some (0, (bG τ 59 j38))] hO (hi_X12_land_206 hT) rfl rfl (rx_must hT hO ((bG τ 59 j38)) hX38 (fun c => ⟨by have := (bG_y.mp c).1; omega, by have := (bG_y.mp c).1; omega⟩) (fun g41 ft41 hc40 hX41 => ?_) (fun g42 ft42 hc42 c42 => ?_))
                · show vP D T N 268 209 g41 [some (2, 121), some (0, z), some (0, u)] [] _
                  refine vP_hv (fun hv41 => ?_)
                  refine v_goto (hi_X12_land_209 hT) ?_
                  exact k5 hc2 hc3 hc4 g38 P38 j38 lf38 q38 hX38 hL38 hb38 g41 ft41 hc40 hX41
                · show vP D T N 268 209 g42 [some (2, 121), some (0, z), some (0, u)] [] _
                  refine vP_hv (fun hv42 => ?_)
                  refine v_goto (hi_X12_land_209 hT) ?_
                  refine v_load (v := (2, 121)) (hi_X12_land_139 hT) rfl rfl ?_
                  refine v_getf (v := (0, (eF τ j38 2).1)) (r := 121) (hi_X12_land_140 hT) rfl rfl (fun _ => c42.1) ?_
                  refine v_if (hi_X12_land_143 hT) (fun hc43 => absurd (show (eF τ j38 2).1 = 0 from hc43) (by have := c42.2.1; omega)) (fun _ => ?_)
                  refine v_load (v := (2, 121)) (hi_X12_land_212 hT) rfl rfl ?_
                  refine v_call (w := 1) [some (2, 121)] hO (hi_X12_land_213 hT) rfl rfl ?_
                  refine v_load (v := (2, 121)) (hi_X12_isWell_0 hT) rfl rfl ?_
                  refine v_load (v := (2, 121)) (hi_X12_isWell_1 hT) rfl rfl ?_
                  refine v_getf (v := (0, (eF τ j38 2).1)) (r := 121) (hi_X12_isWell_2 hT) rfl rfl (fun _ => c42.1) ?_
                  refine v_putf (r := 121) hO (hi_X12_isWell_5 hT) rfl (fun hf44 => ?_)
                  refine v_load (v := (2, 121)) (hi_X12_isWell_8 hT) rfl rfl ?_
                  refine v_load (v := (2, 121)) (hi_X12_isWell_9 hT) rfl rfl ?_
                  refine v_getf (v := (0, (eF τ j38 2).1)) (r := 121) (hi_X12_isWell_10 hT) rfl rfl (fun _ => Eq.trans (zset_ne (fun c => absurd c.2 (by decide))) (c42.1)) ?_
                  refine v_if (hi_X12_isWell_13 hT) (fun hc45 => absurd (show (eF τ j38 2).1 = 0 from hc45) (by have := c42.2.1; omega)) (fun _ => ?_)
                  refine v_load (v := (2, 121)) (hi_X12_isWell_20 hT) rfl rfl ?_
                  refine v_getf (v := (0, (eF τ j38 2).2)) (r := 121) (hi_X12_isWell_21 hT) rfl rfl (fun _ => Eq.trans (zset_ne (fun c => absurd c.2 (by decide))) (c42.2.2)) ?_
                  refine v_putf (r := 121) hO (hi_X12_isWell_24 hT) rfl (fun hf46 => ?_)
                  refine v_load (v := (2, 121)) (hi_X12_isWell_27 hT) rfl rfl ?_
                  refine v_getf (v := (0, (eF τ j38 2).1)) (r := 121) (hi_X12_isWell_28 hT) rfl rfl (fun _ => Eq.trans (Eq.trans (zset_ne (fun c => absurd c.2 (by decide))) (zset_ne (fun c => absurd c.2 (by decide)))) (c42.1)) ?_
                  refine v_if (hi_X12_isWell_31 hT) (fun hc47 => absurd (show (eF τ j38 2).1 = 0 from hc47) (by have := c42.2.1; omega)) (fun _ => ?_)
                  refine v_load (v := (2, 121)) (hi_X12_isWell_34 hT) rfl rfl ?_
                  refine v_push (10) (hi_X12_isWell_35 hT) rfl ?_
                  refine v_call (w := 2) [some (2, 121), some (0, 10)] hO (hi_X12_isWell_37 hT) rfl rfl ?_
                  refine v_load (v := (2, 121)) (hi_X12_no_0 hT) rfl rfl ?_
                  refine v_load (v := (0, 10)) (hi_X12_no_1 hT) rfl rfl ?_
                  refine v_putf (r := 121) hO (hi_X12_no_2 hT) rfl (fun hf48 => ?_)
                  refine v_push (0) (hi_X12_no_5 hT) rfl ?_
                  refine v_ret (hi_X12_no_6 hT) (Or.inl rfl) ?_
                  show vP D T N 265 40 (zset (zset (zset g42 121 10 (0, (eF τ j38 2).1)) 121 11 (0, (eF τ j38 2).2)) 121 0 (0, 10)) [some (2, 121)] [(0, 0)] _
                  refine v_if (hi_X12_isWell_40 hT) (fun _ => ?_) (fun hc49 => absurd (show (0 : Int) = 0 from (by decide)) hc49)
                  refine v_push (0) (hi_X12_isWell_47 hT) rfl ?_
                  refine v_ret (hi_X12_isWell_48 hT) (Or.inl rfl) ?_
                  show vP D T N 268 216 (zset (zset (zset g42 121 10 (0, (eF τ j38 2).1)) 121 11 (0, (eF τ j38 2).2)) 121 0 (0, 10)) [some (2, 121), some (0, z), some (0, u)] [(0, 0)] _
                  refine v_if (hi_X12_land_216 hT) (fun _ => ?_) (fun hc50 => absurd (show (0 : Int) = 0 from (by decide)) hc50)
                  refine v_push (-1) (hi_X12_land_219 hT) rfl ?_
                  refine v_ret (hi_X12_land_220 hT) (Or.inl rfl) ?_
                  exact k6 hc2 hc3 hc4 g38 P38 j38 lf38 q38 hX38 hL38 hb38 g42 ft42 hc42 c42
            · show vP D T N 268 178 g39 [some (2, 121), some (0, z), some (0, u)] [] _
              refine vP_hv (fun hv39 => ?_)
              refine v_goto (hz_X12_land hT _ _ rfl) ?_
              refine v_load (v := (2, 121)) (hi_X12_land_199 hT) rfl rfl ?_
              refine v_load (v := (2, 121)) (hi_X12_land_200 hT) rfl rfl ?_
              refine v_push (59) (hi_X12_land_201 hT) rfl ?_
              refine v_call (w := 2) [some (2, 121), some (0, 59)] hO (hi_X12_land_203 hT) rfl rfl (rb_any_isSign hT hO (fun v51 => ?_))
              · show vP D T N 268 206 g39 [some (2, 121), some (0, z), some (0, u)] [(0, v51), (2, 121)] _
                refine v_call (w := 2) [some (2, 121), some (0, v51)] hO (hi_X12_land_206 hT) rfl rfl (rx_mustB hT hO v51 c39 ?_)
                · show vP D T N 268 209 g39 [some (2, 121), some (0, z), some (0, u)] [] _
                  refine v_goto (hi_X12_land_209 hT) ?_
                  refine v_load (v := (2, 121)) (hi_X12_land_139 hT) rfl rfl ?_
                  refine v_getf (v := (0, e39.1)) (r := 121) (hi_X12_land_140 hT) rfl rfl (fun _ => c39.1) ?_
                  refine v_if (hi_X12_land_143 hT) (fun hc52 => absurd (show e39.1 = 0 from hc52) (by have := c39.2.1; omega)) (fun _ => ?_)
                  refine v_load (v := (2, 121)) (hi_X12_land_212 hT) rfl rfl ?_
                  refine v_call (w := 1) [some (2, 121)] hO (hi_X12_land_213 hT) rfl rfl ?_
                  refine v_load (v := (2, 121)) (hi_X12_isWell_0 hT) rfl rfl ?_
                  refine v_load (v := (2, 121)) (hi_X12_isWell_1 hT) rfl rfl ?_
                  refine v_getf (v := (0, e39.1)) (r := 121) (hi_X12_isWell_2 hT) rfl rfl (fun _ => c39.1) ?_
                  refine v_putf (r := 121) hO (hi_X12_isWell_5 hT) rfl (fun hf53 => ?_)
                  refine v_load (v := (2, 121)) (hi_X12_isWell_8 hT) rfl rfl ?_
                  refine v_load (v := (2, 121)) (hi_X12_isWell_9 hT) rfl rfl ?_
                  refine v_getf (v := (0, e39.1)) (r := 121) (hi_X12_isWell_10 hT) rfl rfl (fun _ => Eq.trans (zset_ne (fun c => absurd c.2 (by decide))) (c39.1)) ?_
                  refine v_if (hi_X12_isWell_13 hT) (fun hc54 => absurd (show e39.1 = 0 from hc54) (by have := c39.2.1; omega)) (fun _ => ?_)
                  refine v_load (v := (2, 121)) (hi_X12_isWell_20 hT) rfl rfl ?_
                  refine v_getf (v := (0, e39.2)) (r := 121) (hi_X12_isWell_21 hT) rfl rfl (fun _ => Eq.trans (zset_ne (fun c => absurd c.2 (by decide))) (c39.2.2)) ?_
                  refine v_putf (r := 121) hO (hi_X12_isWell_24 hT) rfl (fun hf55 => ?_)
                  refine v_load (v := (2, 121)) (hi_X12_isWell_27 hT) rfl rfl ?_
                  refine v_getf (v := (0, e39.1)) (r := 121) (hi_X12_isWell_28 hT) rfl rfl (fun _ => Eq.trans (Eq.trans (zset_ne (fun c => absurd c.2 (by decide))) (zset_ne (fun c => absurd c.2 (by decide)))) (c39.1)) ?_
                  refine v_if (hi_X12_isWell_31 hT) (fun hc56 => absurd (show e39.1 = 0 from hc56) (by have := c39.2.1; omega)) (fun _ => ?_)
                  refine v_load (v := (2, 121)) (hi_X12_isWell_34 hT) rfl rfl ?_
                  refine v_push (10) (hi_X12_isWell_35 hT) rfl ?_
                  refine v_call (w := 2) [some (2, 121), some (0, 10)] hO (hi_X12_isWell_37 hT) rfl rfl ?_
                  refine v_load (v := (2, 121)) (hi_X12_no_0 hT) rfl rfl ?_
                  refine v_load (v := (0, 10)) (hi_X12_no_1 hT) rfl rfl ?_
                  refine v_putf (r := 121) hO (hi_X12_no_2 hT) rfl (fun hf57 => ?_)
                  refine v_push (0) (hi_X12_no_5 hT) rfl ?_
                  refine v_ret (hi_X12_no_6 hT) (Or.inl rfl) ?_
                  show vP D T N 265 40 (zset (zset (zset g39 121 10 (0, e39.1)) 121 11 (0, e39.2)) 121 0 (0, 10)) [some (2, 121)] [(0, 0)] _
                  refine v_if (hi_X12_isWell_40 hT) (fun _ => ?_) (fun hc58 => absurd (show (0 : Int) = 0 from (by decide)) hc58)
                  refine v_push (0) (hi_X12_isWell_47 hT) rfl ?_
                  refine v_ret (hi_X12_isWell_48 hT) (Or.inl rfl) ?_
                  show vP D T N 268 216 (zset (zset (zset g39 121 10 (0, e39.1)) 121 11 (0, e39.2)) 121 0 (0, 10)) [some (2, 121), some (0, z), some (0, u)] [(0, 0)] _
                  refine v_if (hi_X12_land_216 hT) (fun _ => ?_) (fun hc59 => absurd (show (0 : Int) = 0 from (by decide)) hc59)
                  refine v_push (-1) (hi_X12_land_219 hT) rfl ?_
                  refine v_ret (hi_X12_land_220 hT) (Or.inl rfl) ?_
                  exact k7 hc2 hc3 hc4 g39 e39 lf39 q39 c39 v51
      · have hc3 : (bW τ 2 i) ≠ 0 := hc3
        refine v_load (v := (2, 121)) (hz_X12_land hT _ _ rfl) rfl rfl ?_
        refine v_call (w := 3) [some (2, 121), none, none] hO (hz_X12_land hT _ _ rfl) rfl rfl (rRd_k (vP_hv (fun hv_ => rx_rise hT hO hv_ hX hL (show (0 ≤ P 0 0 ∧ P 0 0 ≤ 8) ∧ (0 ≤ P 0 1 ∧ P 0 1 ≤ 6) ∧ (0 ≤ P 0 2 ∧ P 0 2 ≤ 3) ∧ (0 ≤ P 0 3 ∧ P 0 3 ≤ 6) from by omega) hc3)) (fun g60 P60 j60 lf60 q60 hX60 hL60 hb60 => ?_) (fun g61 e61 lf61 q61 c61 => ?_))
        · show vP D T N 268 164 g60 [some (2, 121), some (0, z), some (0, u)] [] _
          have hb60 : (0 ≤ P60 0 0 ∧ P60 0 0 ≤ 8) ∧ (0 ≤ P60 0 1 ∧ P60 0 1 ≤ 6) ∧ (0 ≤ P60 0 2 ∧ P60 0 2 ≤ 3) ∧ (0 ≤ P60 0 3 ∧ P60 0 3 ≤ 6) := hb60
          refine vP_hv (fun hv60 => ?_)
          refine v_goto (hz_X12_land hT _ _ rfl) ?_
          refine v_load (v := (2, 121)) (hi_X12_land_199 hT) rfl rfl ?_
          refine v_load (v := (2, 121)) (hi_X12_land_200 hT) rfl rfl ?_
          refine v_push (59) (hi_X12_land_201 hT) rfl ?_
          refine v_call (w := 2) [some (2, 121), some (0, 59)] hO (hi_X12_land_203 hT) rfl rfl (rx_isSign hT hO 59 hX60 ?_)
          · show vP D T N 268 206 g60 [some (2, 121), some (0, z), some (0, u)] [(0, (bG τ 59 j60)), (2, 121)] _
            refine v_call (w := 2) [some (2, 121), some (0, (bG τ 59 j60))] hO (hi_X12_land_206 hT) rfl rfl (rx_must hT hO ((bG τ 59 j60)) hX60 (fun c => ⟨by have := (bG_y.mp c).1; omega, by have := (bG_y.mp c).1; omega⟩) (fun g63 ft63 hc62 hX63 => ?_) (fun g64 ft64 hc64 c64 => ?_))
            · show vP D T N 268 209 g63 [some (2, 121), some (0, z), some (0, u)] [] _
              refine vP_hv (fun hv63 => ?_)
              refine v_goto (hi_X12_land_209 hT) ?_
              exact k8 hc2 hc3 g60 P60 j60 lf60 q60 hX60 hL60 hb60 g63 ft63 hc62 hX63
            · show vP D T N 268 209 g64 [some (2, 121), some (0, z), some (0, u)] [] _
              refine vP_hv (fun hv64 => ?_)
              refine v_goto (hi_X12_land_209 hT) ?_
              refine v_load (v := (2, 121)) (hi_X12_land_139 hT) rfl rfl ?_
              refine v_getf (v := (0, (eF τ j60 2).1)) (r := 121) (hi_X12_land_140 hT) rfl rfl (fun _ => c64.1) ?_
              refine v_if (hi_X12_land_143 hT) (fun hc65 => absurd (show (eF τ j60 2).1 = 0 from hc65) (by have := c64.2.1; omega)) (fun _ => ?_)
              refine v_load (v := (2, 121)) (hi_X12_land_212 hT) rfl rfl ?_
              refine v_call (w := 1) [some (2, 121)] hO (hi_X12_land_213 hT) rfl rfl ?_
              refine v_load (v := (2, 121)) (hi_X12_isWell_0 hT) rfl rfl ?_
              refine v_load (v := (2, 121)) (hi_X12_isWell_1 hT) rfl rfl ?_
              refine v_getf (v := (0, (eF τ j60 2).1)) (r := 121) (hi_X12_isWell_2 hT) rfl rfl (fun _ => c64.1) ?_
              refine v_putf (r := 121) hO (hi_X12_isWell_5 hT) rfl (fun hf66 => ?_)
              refine v_load (v := (2, 121)) (hi_X12_isWell_8 hT) rfl rfl ?_
              refine v_load (v := (2, 121)) (hi_X12_isWell_9 hT) rfl rfl ?_
              refine v_getf (v := (0, (eF τ j60 2).1)) (r := 121) (hi_X12_isWell_10 hT) rfl rfl (fun _ => Eq.trans (zset_ne (fun c => absurd c.2 (by decide))) (c64.1)) ?_
              refine v_if (hi_X12_isWell_13 hT) (fun hc67 => absurd (show (eF τ j60 2).1 = 0 from hc67) (by have := c64.2.1; omega)) (fun _ => ?_)
              refine v_load (v := (2, 121)) (hi_X12_isWell_20 hT) rfl rfl ?_
              refine v_getf (v := (0, (eF τ j60 2).2)) (r := 121) (hi_X12_isWell_21 hT) rfl rfl (fun _ => Eq.trans (zset_ne (fun c => absurd c.2 (by decide))) (c64.2.2)) ?_
              refine v_putf (r := 121) hO (hi_X12_isWell_24 hT) rfl (fun hf68 => ?_)
              refine v_load (v := (2, 121)) (hi_X12_isWell_27 hT) rfl rfl ?_
              refine v_getf (v := (0, (eF τ j60 2).1)) (r := 121) (hi_X12_isWell_28 hT) rfl rfl (fun _ => Eq.trans (Eq.trans (zset_ne (fun c => absurd c.2 (by decide))) (zset_ne (fun c => absurd c.2 (by decide)))) (c64.1)) ?_
              refine v_if (hi_X12_isWell_31 hT) (fun hc69 => absurd (show (eF τ j60 2).1 = 0 from hc69) (by have := c64.2.1; omega)) (fun _ => ?_)
              refine v_load (v := (2, 121)) (hi_X12_isWell_34 hT) rfl rfl ?_
              refine v_push (10) (hi_X12_isWell_35 hT) rfl ?_
              refine v_call (w := 2) [some (2, 121), some (0, 10)] hO (hi_X12_isWell_37 hT) rfl rfl ?_
              refine v_load (v := (2, 121)) (hi_X12_no_0 hT) rfl rfl ?_
              refine v_load (v := (0, 10)) (hi_X12_no_1 hT) rfl rfl ?_
              refine v_putf (r := 121) hO (hi_X12_no_2 hT) rfl (fun hf70 => ?_)
              refine v_push (0) (hi_X12_no_5 hT) rfl ?_
              refine v_ret (hi_X12_no_6 hT) (Or.inl rfl) ?_
              show vP D T N 265 40 (zset (zset (zset g64 121 10 (0, (eF τ j60 2).1)) 121 11 (0, (eF τ j60 2).2)) 121 0 (0, 10)) [some (2, 121)] [(0, 0)] _
              refine v_if (hi_X12_isWell_40 hT) (fun _ => ?_) (fun hc71 => absurd (show (0 : Int) = 0 from (by decide)) hc71)
              refine v_push (0) (hi_X12_isWell_47 hT) rfl ?_
              refine v_ret (hi_X12_isWell_48 hT) (Or.inl rfl) ?_
              show vP D T N 268 216 (zset (zset (zset g64 121 10 (0, (eF τ j60 2).1)) 121 11 (0, (eF τ j60 2).2)) 121 0 (0, 10)) [some (2, 121), some (0, z), some (0, u)] [(0, 0)] _
              refine v_if (hi_X12_land_216 hT) (fun _ => ?_) (fun hc72 => absurd (show (0 : Int) = 0 from (by decide)) hc72)
              refine v_push (-1) (hi_X12_land_219 hT) rfl ?_
              refine v_ret (hi_X12_land_220 hT) (Or.inl rfl) ?_
              exact k9 hc2 hc3 g60 P60 j60 lf60 q60 hX60 hL60 hb60 g64 ft64 hc64 c64
        · show vP D T N 268 164 g61 [some (2, 121), some (0, z), some (0, u)] [] _
          refine vP_hv (fun hv61 => ?_)
          refine v_goto (hz_X12_land hT _ _ rfl) ?_
          refine v_load (v := (2, 121)) (hi_X12_land_199 hT) rfl rfl ?_
          refine v_load (v := (2, 121)) (hi_X12_land_200 hT) rfl rfl ?_
          refine v_push (59) (hi_X12_land_201 hT) rfl ?_
          refine v_call (w := 2) [some (2, 121), some (0, 59)] hO (hi_X12_land_203 hT) rfl rfl (rb_any_isSign hT hO (fun v73 => ?_))
          · show vP D T N 268 206 g61 [some (2, 121), some (0, z), some (0, u)] [(0, v73), (2, 121)] _
            refine v_call (w := 2) [some (2, 121), some (0, v73)] hO (hi_X12_land_206 hT) rfl rfl (rx_mustB hT hO v73 c61 ?_)
            · show vP D T N 268 209 g61 [some (2, 121), some (0, z), some (0, u)] [] _
              refine v_goto (hi_X12_land_209 hT) ?_
              refine v_load (v := (2, 121)) (hi_X12_land_139 hT) rfl rfl ?_
              refine v_getf (v := (0, e61.1)) (r := 121) (hi_X12_land_140 hT) rfl rfl (fun _ => c61.1) ?_
              refine v_if (hi_X12_land_143 hT) (fun hc74 => absurd (show e61.1 = 0 from hc74) (by have := c61.2.1; omega)) (fun _ => ?_)
              refine v_load (v := (2, 121)) (hi_X12_land_212 hT) rfl rfl ?_
              refine v_call (w := 1) [some (2, 121)] hO (hi_X12_land_213 hT) rfl rfl ?_
              refine v_load (v := (2, 121)) (hi_X12_isWell_0 hT) rfl rfl ?_
              refine v_load (v := (2, 121)) (hi_X12_isWell_1 hT) rfl rfl ?_
              refine v_getf (v := (0, e61.1)) (r := 121) (hi_X12_isWell_2 hT) rfl rfl (fun _ => c61.1) ?_
              refine v_putf (r := 121) hO (hi_X12_isWell_5 hT) rfl (fun hf75 => ?_)
              refine v_load (v := (2, 121)) (hi_X12_isWell_8 hT) rfl rfl ?_
              refine v_load (v := (2, 121)) (hi_X12_isWell_9 hT) rfl rfl ?_
              refine v_getf (v := (0, e61.1)) (r := 121) (hi_X12_isWell_10 hT) rfl rfl (fun _ => Eq.trans (zset_ne (fun c => absurd c.2 (by decide))) (c61.1)) ?_
              refine v_if (hi_X12_isWell_13 hT) (fun hc76 => absurd (show e61.1 = 0 from hc76) (by have := c61.2.1; omega)) (fun _ => ?_)
              refine v_load (v := (2, 121)) (hi_X12_isWell_20 hT) rfl rfl ?_
              refine v_getf (v := (0, e61.2)) (r := 121) (hi_X12_isWell_21 hT) rfl rfl (fun _ => Eq.trans (zset_ne (fun c => absurd c.2 (by decide))) (c61.2.2)) ?_
              refine v_putf (r := 121) hO (hi_X12_isWell_24 hT) rfl (fun hf77 => ?_)
              refine v_load (v := (2, 121)) (hi_X12_isWell_27 hT) rfl rfl ?_
              refine v_getf (v := (0, e61.1)) (r := 121) (hi_X12_isWell_28 hT) rfl rfl (fun _ => Eq.trans (Eq.trans (zset_ne (fun c => absurd c.2 (by decide))) (zset_ne (fun c => absurd c.2 (by decide)))) (c61.1)) ?_
              refine v_if (hi_X12_isWell_31 hT) (fun hc78 => absurd (show e61.1 = 0 from hc78) (by have := c61.2.1; omega)) (fun _ => ?_)
              refine v_load (v := (2, 121)) (hi_X12_isWell_34 hT) rfl rfl ?_
              refine v_push (10) (hi_X12_isWell_35 hT) rfl ?_
              refine v_call (w := 2) [some (2, 121), some (0, 10)] hO (hi_X12_isWell_37 hT) rfl rfl ?_
              refine v_load (v := (2, 121)) (hi_X12_no_0 hT) rfl rfl ?_
              refine v_load (v := (0, 10)) (hi_X12_no_1 hT) rfl rfl ?_
              refine v_putf (r := 121) hO (hi_X12_no_2 hT) rfl (fun hf79 => ?_)
              refine v_push (0) (hi_X12_no_5 hT) rfl ?_
              refine v_ret (hi_X12_no_6 hT) (Or.inl rfl) ?_
              show vP D T N 265 40 (zset (zset (zset g61 121 10 (0, e61.1)) 121 11 (0, e61.2)) 121 0 (0, 10)) [some (2, 121)] [(0, 0)] _
              refine v_if (hi_X12_isWell_40 hT) (fun _ => ?_) (fun hc80 => absurd (show (0 : Int) = 0 from (by decide)) hc80)
              refine v_push (0) (hi_X12_isWell_47 hT) rfl ?_
              refine v_ret (hi_X12_isWell_48 hT) (Or.inl rfl) ?_
              show vP D T N 268 216 (zset (zset (zset g61 121 10 (0, e61.1)) 121 11 (0, e61.2)) 121 0 (0, 10)) [some (2, 121), some (0, z), some (0, u)] [(0, 0)] _
              refine v_if (hi_X12_land_216 hT) (fun _ => ?_) (fun hc81 => absurd (show (0 : Int) = 0 from (by decide)) hc81)
              refine v_push (-1) (hi_X12_land_219 hT) rfl ?_
              refine v_ret (hi_X12_land_220 hT) (Or.inl rfl) ?_
              exact k10 hc2 hc3 g61 e61 lf61 q61 c61 v73
theorem qr_land212 {D : zD} {T : zT} (hT : hTab T) (hO : vOK T) {N : Nat} {h : zH} {Q : zR → Prop} {B : Nat → Int} {n m i : Nat} {τ P : PT} (z u : Int) (hv0 : zHv h) (hX : rX B n m τ i h) (hL : rL P h) (hb : (0 ≤ P 0 0 ∧ P 0 0 ≤ 8) ∧ (0 ≤ P 0 1 ∧ P 0 1 ≤ 6) ∧ (0 ≤ P 0 2 ∧ P 0 2 ≤ 3) ∧ (0 ≤ P 0 3 ∧ P 0 3 ≤ 6))
    (k0 : vP D T N 211 0 (zset (zset h 121 10 (0, 0)) 121 11 (0, -1)) [some (2, 121), some (0, 4), some (0, 0), none] [] (fun r1 => vP D T N 268 227 r1.1 [some (2, 121), some (0, z), some (0, u)] (zpush r1.2 []) Q)) :
    vP D T N 268 212 h [some (2, 121), some (0, z), some (0, u)] [] Q := by
  refine v_load (v := (2, 121)) (hi_X12_land_212 hT) rfl rfl ?_
  refine v_call (w := 1) [some (2, 121)] hO (hi_X12_land_213 hT) rfl rfl ?_
  refine v_load (v := (2, 121)) (hi_X12_isWell_0 hT) rfl rfl ?_
  refine v_load (v := (2, 121)) (hi_X12_isWell_1 hT) rfl rfl ?_
  refine v_getf (v := (0, 0)) (r := 121) (hi_X12_isWell_2 hT) rfl rfl (fun _ => hX.b) ?_
  refine v_putf (r := 121) hO (hi_X12_isWell_5 hT) rfl (fun hf1 => ?_)
  refine v_load (v := (2, 121)) (hi_X12_isWell_8 hT) rfl rfl ?_
  refine v_load (v := (2, 121)) (hi_X12_isWell_9 hT) rfl rfl ?_
  refine v_getf (v := (0, 0)) (r := 121) (hi_X12_isWell_10 hT) rfl rfl (fun _ => Eq.trans (zset_ne (fun c => absurd c.2 (by decide))) (hX.b)) ?_
  refine v_if (hi_X12_isWell_13 hT) (fun _ => ?_) (fun hc2 => absurd (show (0 : Int) = 0 from (by decide)) hc2)
  refine v_push (-1) (hz_X12_isWell hT _ _ rfl) rfl ?_
  refine v_goto (hz_X12_isWell hT _ _ rfl) ?_
  refine v_putf (r := 121) hO (hi_X12_isWell_24 hT) rfl (fun hf3 => ?_)
  refine v_load (v := (2, 121)) (hi_X12_isWell_27 hT) rfl rfl ?_
  refine v_getf (v := (0, 0)) (r := 121) (hi_X12_isWell_28 hT) rfl rfl (fun _ => Eq.trans (Eq.trans (zset_ne (fun c => absurd c.2 (by decide))) (zset_ne (fun c => absurd c.2 (by decide)))) (hX.b)) ?_
  refine v_if (hi_X12_isWell_31 hT) (fun _ => ?_) (fun hc4 => absurd (show (0 : Int) = 0 from (by decide)) hc4)
  refine v_push (1) (hz_X12_isWell hT _ _ rfl) rfl ?_
  refine v_goto (hz_X12_isWell hT _ _ rfl) ?_
  refine v_ret (hi_X12_isWell_48 hT) (Or.inl rfl) ?_
  show vP D T N 268 216 (zset (zset h 121 10 (0, 0)) 121 11 (0, -1)) [some (2, 121), some (0, z), some (0, u)] [(0, 1)] _
  refine v_if (hi_X12_land_216 hT) (fun hc5 => absurd (show (1 : Int) = 0 from hc5) (by decide)) (fun _ => ?_)
  refine v_load (v := (2, 121)) (hz_X12_land hT _ _ rfl) rfl rfl ?_
  refine v_push (4) (hz_X12_land hT _ _ rfl) rfl ?_
  refine v_push (0) (hz_X12_land hT _ _ rfl) rfl ?_
  refine v_call (w := 4) [some (2, 121), some (0, 4), some (0, 0), none] hO (hz_X12_land hT _ _ rfl) rfl rfl ?_
  exact k0 
theorem qr_land227 {D : zD} {T : zT} (hT : hTab T) (hO : vOK T) {N : Nat} {h : zH} {Q : zR → Prop} (z u : Int) (hv0 : zHv h)
    (k0 : Q (h, some (0, (h 126 3).2))) :
    vP D T N 268 227 h [some (2, 121), some (0, z), some (0, u)] [] Q := by
  refine v_load (v := (2, 121)) (hz_X12_land hT _ _ rfl) rfl rfl ?_
  refine v_getR (c := 126) (r := 121) (hz_X12_land hT _ _ rfl) rfl rfl rfl ?_
  refine v_push (3) (hz_X12_land hT _ _ rfl) rfl ?_
  refine v_ald (t := 0) (r := 126) (hz_X12_land hT _ _ rfl) rfl rfl rfl (fun ha1 hb2 => ?_)
  refine v_ret (hz_X12_land hT _ _ rfl) (Or.inl rfl) ?_
  exact k0 
theorem qr_copy0 {D : zD} {T : zT} (hT : hTab T) (hO : vOK T) {N : Nat} {h : zH} {Q : zR → Prop} (f t : Int) (hv0 : zHv h)
    (k0 : vP D T N 211 2 h [some (2, 121), some (0, f), some (0, t), some (0, 0)] [] Q) :
    vP D T N 211 0 h [some (2, 121), some (0, f), some (0, t), none] [] Q := by
  refine v_push (0) (hz_X12_copy hT _ _ rfl) rfl ?_
  refine v_store1 [some (2, 121), some (0, f), some (0, t), some (0, 0)] (hz_X12_copy hT _ _ rfl) ⟨rfl, Nat.ne_of_beq_eq_false rfl⟩ (Nat.le_of_ble_eq_true rfl) rfl ?_
  exact k0 
theorem qr_copy2 {D : zD} {T : zT} (hT : hTab T) (hO : vOK T) {N : Nat} {h : zH} {Q : zR → Prop} (f t x : Int) (hv0 : zHv h) (hf : 0 ≤ f ∧ f ≤ 4) (ht : 0 ≤ t ∧ t ≤ 4) (hx : 0 ≤ x ∧ x ≤ 550)
    (k0 : (x < 550) → (0 ≤ ((550 * f) + x)) → (((550 * f) + x) < 2750) → (0 ≤ ((550 * t) + x)) → (((550 * t) + x) < 2750) → vP D T N 211 2 (zset h 126 ((((550 * t) + x)).toNat) (0, (h 126 (((550 * f) + x)).toNat).2)) [some (2, 121), some (0, f), some (0, t), some (0, (x + 1))] [] Q)
    (k1 : (550 ≤ x) → vP D T N 211 41 h [some (2, 121), some (0, f), some (0, t), some (0, 0)] [] Q) :
    vP D T (N + 1) 211 2 h [some (2, 121), some (0, f), some (0, t), some (0, x)] [] Q := by
  refine v_loadS (v := (0, x)) (hz_X12_copy hT _ _ rfl) rfl rfl ?_
  refine v_push (550) (hz_X12_copy hT _ _ rfl) rfl ?_
  refine v_ic (hz_X12_copy hT _ _ rfl) (fun hc1 => ?_) (fun hc1 => ?_)
  · have hc1 : x < 550 := hc1
    refine v_load (v := (2, 121)) (hz_X12_copy hT _ _ rfl) rfl rfl ?_
    refine v_getR (c := 126) (r := 121) (hz_X12_copy hT _ _ rfl) rfl rfl rfl ?_
    refine v_push (550) (hz_X12_copy hT _ _ rfl) rfl ?_
    refine v_load (v := (0, t)) (hz_X12_copy hT _ _ rfl) rfl rfl ?_
    refine v_bin (w := (550 * t)) (hz_X12_copy hT _ _ rfl) (hq_mul (by omega) (by omega)) ?_
    refine v_load (v := (0, x)) (hz_X12_copy hT _ _ rfl) rfl rfl ?_
    refine v_bin (w := ((550 * t) + x)) (hz_X12_copy hT _ _ rfl) (hq_add (by omega) (by omega)) ?_
    refine v_load (v := (2, 121)) (hz_X12_copy hT _ _ rfl) rfl rfl ?_
    refine v_getR (c := 126) (r := 121) (hz_X12_copy hT _ _ rfl) rfl rfl rfl ?_
    refine v_push (550) (hz_X12_copy hT _ _ rfl) rfl ?_
    refine v_load (v := (0, f)) (hz_X12_copy hT _ _ rfl) rfl rfl ?_
    refine v_bin (w := (550 * f)) (hz_X12_copy hT _ _ rfl) (hq_mul (by omega) (by omega)) ?_
    refine v_load (v := (0, x)) (hz_X12_copy hT _ _ rfl) rfl rfl ?_
    refine v_bin (w := ((550 * f) + x)) (hz_X12_copy hT _ _ rfl) (hq_add (by omega) (by omega)) ?_
    refine v_ald (t := 0) (r := 126) (hz_X12_copy hT _ _ rfl) rfl rfl rfl (fun ha2 hb3 => ?_)
    refine v_ast (r := 126) (hz_X12_copy hT _ _ rfl) rfl rfl (fun ha4 hb5 hf6 => ?_)
    refine v_iinc (x := x) (u := 1) (w := (x + 1)) [some (2, 121), some (0, f), some (0, t), some (0, (x + 1))] (hz_X12_copy hT _ _ rfl) rfl rfl (Nat.le_of_ble_eq_true rfl) (vz_inc (by omega) (by omega)) rfl ?_
    refine v_goto (hz_X12_copy hT _ _ rfl) ?_
    exact k0 hc1 ha2 hb3 ha4 hb5
  · have hc1 : 550 ≤ x := Int.not_lt.mp hc1
    refine v_push (0) (hz_X12_copy hT _ _ rfl) rfl ?_
    refine v_store1 [some (2, 121), some (0, f), some (0, t), some (0, 0)] (hz_X12_copy hT _ _ rfl) ⟨rfl, Nat.ne_of_beq_eq_false rfl⟩ (Nat.le_of_ble_eq_true rfl) rfl ?_
    exact k1 hc1
theorem qr_copy41 {D : zD} {T : zT} (hT : hTab T) (hO : vOK T) {N : Nat} {h : zH} {Q : zR → Prop} (f t x : Int) (hv0 : zHv h) (hf : 0 ≤ f ∧ f ≤ 4) (ht : 0 ≤ t ∧ t ≤ 4) (hx : 0 ≤ x ∧ x ≤ 6)
    (k0 : (x < 6) → (0 ≤ ((6 * f) + x)) → (((6 * f) + x) < 30) → (0 ≤ ((6 * t) + x)) → (((6 * t) + x) < 30) → vP D T N 211 41 (zset h 128 ((((6 * t) + x)).toNat) (1, (h 128 (((6 * f) + x)).toNat).2)) [some (2, 121), some (0, f), some (0, t), some (0, (x + 1))] [] Q)
    (k1 : (6 ≤ x) → Q (h, none)) :
    vP D T (N + 1) 211 41 h [some (2, 121), some (0, f), some (0, t), some (0, x)] [] Q := by
  refine v_loadS (v := (0, x)) (hz_X12_copy hT _ _ rfl) rfl rfl ?_
  refine v_push (6) (hz_X12_copy hT _ _ rfl) rfl ?_
  refine v_ic (hz_X12_copy hT _ _ rfl) (fun hc1 => ?_) (fun hc1 => ?_)
  · have hc1 : x < 6 := hc1
    refine v_load (v := (2, 121)) (hz_X12_copy hT _ _ rfl) rfl rfl ?_
    refine v_getR (c := 128) (r := 121) (hz_X12_copy hT _ _ rfl) rfl rfl rfl ?_
    refine v_push (6) (hz_X12_copy hT _ _ rfl) rfl ?_
    refine v_load (v := (0, t)) (hz_X12_copy hT _ _ rfl) rfl rfl ?_
    refine v_bin (w := (6 * t)) (hz_X12_copy hT _ _ rfl) (hq_mul (by omega) (by omega)) ?_
    refine v_load (v := (0, x)) (hz_X12_copy hT _ _ rfl) rfl rfl ?_
    refine v_bin (w := ((6 * t) + x)) (hz_X12_copy hT _ _ rfl) (hq_add (by omega) (by omega)) ?_
    refine v_load (v := (2, 121)) (hz_X12_copy hT _ _ rfl) rfl rfl ?_
    refine v_getR (c := 128) (r := 121) (hz_X12_copy hT _ _ rfl) rfl rfl rfl ?_
    refine v_push (6) (hz_X12_copy hT _ _ rfl) rfl ?_
    refine v_load (v := (0, f)) (hz_X12_copy hT _ _ rfl) rfl rfl ?_
    refine v_bin (w := (6 * f)) (hz_X12_copy hT _ _ rfl) (hq_mul (by omega) (by omega)) ?_
    refine v_load (v := (0, x)) (hz_X12_copy hT _ _ rfl) rfl rfl ?_
    refine v_bin (w := ((6 * f) + x)) (hz_X12_copy hT _ _ rfl) (hq_add (by omega) (by omega)) ?_
    refine v_ald (t := 1) (r := 128) (hz_X12_copy hT _ _ rfl) rfl rfl rfl (fun ha2 hb3 => ?_)
    refine v_ast (r := 128) (hz_X12_copy hT _ _ rfl) rfl rfl (fun ha4 hb5 hf6 => ?_)
    refine v_iinc (x := x) (u := 1) (w := (x + 1)) [some (2, 121), some (0, f), some (0, t), some (0, (x + 1))] (hz_X12_copy hT _ _ rfl) rfl rfl (Nat.le_of_ble_eq_true rfl) (vz_inc (by omega) (by omega)) rfl ?_
    refine v_goto (hz_X12_copy hT _ _ rfl) ?_
    exact k0 hc1 ha2 hb3 ha4 hb5
  · have hc1 : 6 ≤ x := Int.not_lt.mp hc1
    refine v_ret0 (hz_X12_copy hT _ _ rfl) ?_
    exact k1 hc1
/-! the reference's copy(f, t) -/
def CpF (f t : Nat) (h g : zH) : Prop := (∀ j, j < 550 → (g 126 (550 * t + j)).2 = (h 126 (550 * f + j)).2) ∧ (∀ k, k < 6 → (g 128 (6 * t + k)).2 = (h 128 (6 * f + k)).2) ∧ (∀ a b, ¬ ((a = 126 ∧ 550 * t ≤ b ∧ b < 550 * t + 550) ∨ (a = 128 ∧ 6 * t ≤ b ∧ b < 6 * t + 6)) → g a b = h a b)
theorem rx_copy {D : zD} {T : zT} (hT : hTab T) (hO : vOK T) {N : Nat} {h : zH} {Q : zR → Prop} (f t : Nat) (hf : f ≤ 4) (ht : t ≤ 4) (hne : f ≠ t) (k : ∀ g, CpF f t h g → Q (g, none)) : vP D T N 211 0 h [some (2, 121), some (0, (f : Int)), some (0, (t : Int)), none] [] Q := by
  refine vP_hv (fun hv => qr_copy0 hT hO f t hv ?_)
  refine vP_loop (fun h' l => ∃ x : Nat, l = [some (2, 121), some (0, (f : Int)), some (0, (t : Int)), some (0, (x : Int))] ∧ x ≤ 550 ∧ (∀ j, j < x → (h' 126 (550 * t + j)).2 = (h 126 (550 * f + j)).2) ∧ (∀ a b, ¬ (a = 126 ∧ 550 * t ≤ b ∧ b < 550 * t + 550) → h' a b = h a b)) ?_ N _ _ ⟨0, rfl, by decide, fun j hj => absurd hj (by omega), fun _ _ _ => rfl⟩
  rintro N h' l ⟨x, rfl, hx, h1, h2⟩ ih
  refine vP_hv (fun hv => qr_copy2 hT hO f t x hv ⟨by omega, by omega⟩ ⟨by omega, by omega⟩ ⟨by omega, by omega⟩ ?_ ?_)
  · intro c _ _ _ _
    have e1 : (550 * (t : Int) + (x : Int)).toNat = 550 * t + x := by omega
    have e2 : (550 * (f : Int) + (x : Int)).toNat = 550 * f + x := by omega
    rw [e1, e2]
    refine ih _ _ ⟨x + 1, rfl, by omega, fun j hj => ?_, fun a b hn => ?_⟩
    · by_cases e : j = x
      · rw [e, zset_same, h2 126 (550 * f + x) (fun c => by omega)]
      · rw [zset_ne (fun c => e (by omega))]
        exact h1 j (by omega)
    · rw [zset_ne (fun c => hn (by omega))]
      exact h2 a b hn
  · intro c
    have e5 : x = 550 := by omega
    subst e5
    refine vP_loop (fun h'' l => ∃ y : Nat, l = [some (2, 121), some (0, (f : Int)), some (0, (t : Int)), some (0, (y : Int))] ∧ y ≤ 6 ∧ (∀ k, k < y → (h'' 128 (6 * t + k)).2 = (h' 128 (6 * f + k)).2) ∧ (∀ a b, ¬ (a = 128 ∧ 6 * t ≤ b ∧ b < 6 * t + 6) → h'' a b = h' a b)) ?_ N _ _ ⟨0, rfl, by decide, fun j hj => absurd hj (by omega), fun _ _ _ => rfl⟩
    rintro N h'' l ⟨y, rfl, hy, h3, h4⟩ ih2
    refine vP_hv (fun hv => qr_copy41 hT hO f t y hv ⟨by omega, by omega⟩ ⟨by omega, by omega⟩ ⟨by omega, by omega⟩ ?_ ?_)
    · intro c _ _ _ _
      have e1 : (6 * (t : Int) + (y : Int)).toNat = 6 * t + y := by omega
      have e2 : (6 * (f : Int) + (y : Int)).toNat = 6 * f + y := by omega
      rw [e1, e2]
      refine ih2 _ _ ⟨y + 1, rfl, by omega, fun j hj => ?_, fun a b hn => ?_⟩
      · by_cases e : j = y
        · rw [e, zset_same, h4 128 (6 * f + y) (fun c => by omega)]
        · rw [zset_ne (fun c => e (by omega))]
          exact h3 j (by omega)
      · rw [zset_ne (fun c => hn (by omega))]
        exact h4 a b hn
    · intro c
      have e6 : y = 6 := by omega
      subst e6
      refine k h'' ⟨fun j hj => ?_, fun j hj => ?_, fun a b hn => ?_⟩
      · rw [h4 _ _ (fun c => by omega)]; exact h1 j hj
      · rw [h3 j hj, h2 _ _ (fun c => by omega)]
      · rw [h4 a b (fun c => hn (by omega)), h2 a b (fun c => hn (by omega))]
/-! the reference's LAND in its block b -/
def rP (b : Nat) (P : PT) (h : zH) : Prop := (h 126 (550 * b) = (0, P 0 0) ∧ h 126 (550 * b + 1) = (0, P 0 1) ∧ h 126 (550 * b + 2) = (0, P 0 2) ∧ h 126 (550 * b + 3) = (0, P 0 3)) ∧ (∀ x y : Int, 0 ≤ x → x < P 0 0 → 0 ≤ y → y < 6 → h 126 (550 * b + (5 + (P 0 0 * y + x)).toNat) = (0, P 1 (pCl x y)) ∧ h 126 (550 * b + (53 + (P 0 0 * y + x)).toNat) = (0, P 2 (pCl x y))) ∧ (∀ k : Nat, (k : Int) < P 0 3 → h 128 (6 * b + k) = (1, P 4 k) ∧ h 126 (550 * b + (257 + k)) = (0, cc (P 0 0) (P 5 k)) ∧ h 126 (550 * b + (251 + k)) = (0, cc (P 0 0) (P 7 k)))
/-- what becomes of it, as it is at first -/
def rD (b : Nat) (P : PT) (h : zH) : Prop := (∀ k : Nat, (k : Int) < P 0 3 → h 126 (550 * b + (245 + k)) = (0, cc (P 0 0) (P 6 k)) ∧ h 126 (550 * b + (263 + k)) = (0, P 8 k)) ∧ (∀ j, rZ j → h 126 (550 * b + j) = (0, 0))
theorem rL.cp {P : PT} {h g : zH} (hv : zHv g) (hb : lB P) (f : CpF 4 0 h g) (hL : rL P h) : rP 0 P g ∧ rD 0 P g := by
  obtain ⟨⟨a0, a1, a2, a3, a4⟩, b1, b2, b3⟩ := hL
  obtain ⟨f1, f2, _⟩ := f
  have e : ∀ j v, j < 550 → h 126 (2200 + j) = (0, v) → g 126 (550 * 0 + j) = (0, v) := fun j v hj hh => by
    have := f1 j hj
    rw [show 550 * 4 + j = 2200 + j from by omega, hh] at this
    have ht : g 126 (550 * 0 + j) = (0, (g 126 (550 * 0 + j)).2) := hv.at (by
      unfold vCode
      show (match (if 550 * 0 + j < 2750 then some 0 else none) with
        | some c => c != 4 && vTag c == 0
        | none => false) = true
      rw [if_pos (by omega)]
      rfl)
    rw [ht, this]
  have e8 : ∀ j v, j < 6 → h 128 (24 + j) = (1, v) → g 128 (6 * 0 + j) = (1, v) := fun j v hj hh => by
    have := f2 j hj
    rw [show 6 * 4 + j = 24 + j from by omega, hh] at this
    have ht : g 128 (6 * 0 + j) = (1, (g 128 (6 * 0 + j)).2) := hv.at (by
      unfold vCode
      show (match (if 6 * 0 + j < 30 then some 1 else none) with
        | some c => c != 4 && vTag c == 1
        | none => false) = true
      rw [if_pos (by omega)]
      rfl)
    rw [ht, this]
  refine ⟨⟨⟨e 0 _ (by decide) a0, e 1 _ (by decide) a1, e 2 _ (by decide) a2, e 3 _ (by decide) a3⟩, fun x y x1 x2 y1 y2 => ?_, fun k hk => ?_⟩, fun k hk => ?_, fun j hj => ?_⟩
  · have cb := cell47 hb.1.2 x1 x2 y1 y2
    obtain ⟨c1, c2⟩ := b1 x y x1 x2 y1 y2
    refine ⟨e _ _ (by omega) ?_, e _ _ (by omega) ?_⟩
    · rw [show 2200 + (5 + (P 0 0 * y + x)).toNat = (2205 + (P 0 0 * y + x)).toNat from by omega]; exact c1
    · rw [show 2200 + (53 + (P 0 0 * y + x)).toNat = (2253 + (P 0 0 * y + x)).toNat from by omega]; exact c2
  · have h6 := hb.2.2.2.2
    obtain ⟨c1, c2, c3, c4, c5⟩ := b2 k hk
    exact ⟨e8 k _ (by omega) c1, e _ _ (by omega) (by rw [show 2200 + (257 + k) = 2457 + k from by omega]; exact c2), e _ _ (by omega) (by rw [show 2200 + (251 + k) = 2451 + k from by omega]; exact c4)⟩
  · have h6 := hb.2.2.2.2
    obtain ⟨c1, c2, c3, c4, c5⟩ := b2 k hk
    exact ⟨e _ _ (by omega) (by rw [show 2200 + (245 + k) = 2445 + k from by omega]; exact c3), e _ _ (by omega) (by rw [show 2200 + (263 + k) = 2463 + k from by omega]; exact c5)⟩
  · have hj' := hj
    unfold rZ at hj'
    exact e j _ (by omega) (b3 j hj)
/-! the reference's land(n) -/
def rG (s : Nat) (h0 h : zH) : Prop := ∀ a b, ¬ ((a = 121 ∧ (b ≤ 1 ∨ (8 ≤ b ∧ b ≤ 19) ∨ b = 24)) ∨ (a = 126 ∧ (b < s * 550 ∨ 2200 ≤ b)) ∨ (a = 128 ∧ (b < s * 6 ∨ 24 ≤ b))) → h a b = h0 a b
def rLr (τ : PT) (h0 : zH) (x : zR) : Prop := (∃ e, pLand τ = .inl e ∧ x.2 = some (0, -1) ∧ x.1 121 10 = (0, e.1) ∧ x.1 121 11 = (0, e.2) ∧ rG 0 h0 x.1) ∨ (∃ P, pLand τ = .inr P ∧ x.2 = some (0, P 0 3) ∧ x.1 121 10 = (0, 0) ∧ x.1 121 11 = (0, -1) ∧ rP 0 P x.1 ∧ rD 0 P x.1 ∧ lB P ∧ rG 1 h0 x.1)
theorem rLr_n {τ : PT} {h0 h g : zH} {e : Er} (he : pLand τ = .inl e) (f0 : rG 0 h0 h) (f : rF h g) : rLr τ h0 (zset (zset (zset g 121 10 (0, e.1)) 121 11 (0, e.2)) 121 0 (0, 10), some (0, -1)) := by
  have e10 : zset (zset (zset g 121 10 (0, e.1)) 121 11 (0, e.2)) 121 0 (0, 10) 121 10 = (0, e.1) := (zset_ne (by decide)).trans ((zset_ne (by decide)).trans zset_same)
  have e11 : zset (zset (zset g 121 10 (0, e.1)) 121 11 (0, e.2)) 121 0 (0, 10) 121 11 = (0, e.2) := (zset_ne (by decide)).trans zset_same
  refine Or.inl ⟨e, he, rfl, e10, e11, fun a b hn => ?_⟩
  show zset (zset (zset g 121 10 (0, e.1)) 121 11 (0, e.2)) 121 0 (0, 10) a b = h0 a b
  rw [zset_ne (fun c => hn (by omega)), zset_ne (fun c => hn (by omega)), zset_ne (fun c => hn (by omega)), f a b (fun c => hn (by omega))]
  exact f0 a b hn
section RLD
variable {D : zD} {T : zT} {N : Nat} {h h0 : zH} {B : Nat → Int} {n m i : Nat} {τ P : PT}
theorem rld_212 (hT : hTab T) (hO : vOK T) (z u : Int) (hX : rX B n m τ i h) (hL : rL P h) (hb : lB P) (he : pLand τ = .inr P) (f0 : rG 0 h0 h) : vP D T N 268 212 h [some (2, 121), some (0, z), some (0, u)] [] (rLr τ h0) := by
  refine vP_hv (fun hv => qr_land212 hT hO z u hv hX hL hb ?_)
  refine rx_copy hT hO 4 0 (by decide) (by decide) (by decide) (fun g f => vP_hv (fun hv' => qr_land227 hT hO z u hv' ?_))
  have hL2 : rL P (zset (zset h 121 10 (0, 0)) 121 11 (0, -1)) := hL.eq (fun a b c => (zset_ne (fun d => by omega)).trans (zset_ne (fun d => by omega)))
  obtain ⟨p1, p2⟩ := hL2.cp hv' hb f
  have f3 := f.2.2
  have e3 : (g 126 3).2 = P 0 3 := congrArg Prod.snd p1.1.2.2.2
  refine Or.inr ⟨P, he, ?_, ?_, ?_, p1, p2, hb, fun a b hn => ?_⟩
  · show some ((0, (g 126 3).2) : zV) = _
    rw [e3]
  · show g 121 10 = _
    rw [f3 121 10 (fun c => by omega), zset_ne (by decide), zset_same]
  · show g 121 11 = _
    rw [f3 121 11 (fun c => by omega), zset_same]
  · show g a b = h0 a b
    rw [f3 a b (fun c => hn (by omega)), zset_ne (fun c => hn (by omega)), zset_ne (fun c => hn (by omega))]
    exact f0 a b (fun c => hn (by omega))
theorem rG.t {s : Nat} {h' : zH} (g : rG s h0 h) (f : rF h h') : rG s h0 h' := fun a b hn => (f a b (fun c => hn (by omega))).trans (g a b hn)
theorem rF.qf {h' : zH} (f : qF h h') : rF h h' := fun a b hn => f a b (fun c => hn (by omega))
/-- a part, with its stop -/
theorem pP_y {a : PT × Nat} (h : pPart τ P i = .inr a) (c : bG τ 59 a.2 ≠ 0) : pS τ (pPart τ P i) = .inr (a.1, a.2 + 1) := by
  unfold pS
  rw [h, eb_r, pSg_y c, eb_r]
theorem pP_n {a : PT × Nat} (h : pPart τ P i = .inr a) (c : bG τ 59 a.2 = 0) : pS τ (pPart τ P i) = .inl (eF τ a.2 2) := by
  unfold pS
  rw [h, eb_r, pSg_n (fun f => f c), eb_l]
theorem pP_e {e : Er} (h : pPart τ P i = .inl e) : pS τ (pPart τ P i) = .inl e := by
  unfold pS
  rw [h, eb_l]
theorem rld_139 (hT : hTab T) (hO : vOK T) (z u : Int) {P0 : PT} {i0 : Nat} (hi0 : 0 < i0) (hX : rX B n m τ i0 h) (hL : rL P0 h) (hb : lB P0) (he0 : ∀ F, pParts τ 900 P0 i0 = F → pLand τ = F) (f0 : rG 0 h0 h) : vP D T N 268 139 h [some (2, 121), some (0, z), some (0, u)] [] (rLr τ h0) := by
  refine vP_loop (fun h' l => l = [some (2, 121), some (0, z), some (0, u)] ∧ ∃ (x : Nat) (P' : PT) (j : Nat), x ≤ 900 ∧ x < j ∧ rX B n m τ j h' ∧ rL P' h' ∧ rG 0 h0 h' ∧ lB P' ∧ pParts τ 900 P0 i0 = pParts τ (900 - x) P' j) ?_ N _ _ ⟨rfl, 0, P0, i0, by decide, hi0, hX, hL, f0, hb, rfl⟩
  rintro N h' l ⟨rfl, x, P', j, hx, hxj, hX', hL', hF', hb', he⟩ ih
  have him := hX'.2.1
  have hm9 := hX'.2.2.1
  have e9 : 900 - x = (899 - x) + 1 := by omega
  have stp : τ 0 j ≠ 0 → ∀ F, (eb (pS τ (pPart τ P' j)) fun a => pParts τ (899 - x) a.1 a.2) = F → pLand τ = F := fun c F hF => he0 _ (by
    rw [he, e9, ← hF]
    show (if τ 0 j = 0 then _ else eb (pS τ (pPart τ P' j)) fun a => pParts τ (899 - x) a.1 a.2) = _
    rw [if_neg c])
  have good : τ 0 j ≠ 0 → ∀ g g' P5 j5, rF h' g → qF g g' → pPart τ P' j = .inr (P5, j5) → bG τ 59 j5 ≠ 0 → rX B n m τ (j5 + 1) g' → rL P5 g → lB P5 → vP D T N 268 139 g' [some (2, 121), some (0, z), some (0, u)] [] (rLr τ h0) := fun c g g' P5 j5 f f' q c5 hX5 hL5 hb5 => by
    have hj := pPart_i q
    refine ih _ _ ⟨rfl, x + 1, P5, j5 + 1, by omega, by omega, hX5, hL5.qf f', (hF'.t f).t (rF.qf f'), hb5, ?_⟩
    rw [he, e9, show 900 - (x + 1) = 899 - x from by omega]
    show (if τ 0 j = 0 then _ else eb (pS τ (pPart τ P' j)) fun a => pParts τ (899 - x) a.1 a.2) = _
    rw [if_neg c, pP_y q c5, eb_r]
  have bad : τ 0 j ≠ 0 → ∀ g g' P5 j5, rF h' g → qF g g' → pPart τ P' j = .inr (P5, j5) → bG τ 59 j5 = 0 → rLr τ h0 (zset (zset (zset g' 121 10 (0, (eF τ j5 2).1)) 121 11 (0, (eF τ j5 2).2)) 121 0 (0, 10), some (0, -1)) := fun c g g' P5 j5 f f' q c5 => rLr_n (h := h') (stp c _ (by rw [pP_n q c5, eb_l])) hF' (f.trans (rF.qf f'))
  have bad2 : τ 0 j ≠ 0 → ∀ g e, rF h' g → pPart τ P' j = .inl e → rLr τ h0 (zset (zset (zset g 121 10 (0, e.1)) 121 11 (0, e.2)) 121 0 (0, 10), some (0, -1)) := fun c g e f q => rLr_n (h := h') (stp c _ (by rw [pP_e q, eb_l])) hF' f
  refine vP_hv (fun hv => qr_land139 hT hO z u hv hX' hL' hb' ?_ ?_ ?_ ?_ ?_ ?_ ?_ ?_ ?_ ?_ ?_)
  · intro c
    exact rld_212 hT hO z u hX' hL' hb' (he0 _ (by rw [he, e9]; exact if_pos c)) hF'
  · intro c c2 c4 c5 g f e _
    exact bad2 c g _ (rF.qf f) (by unfold pPart; rw [if_neg (fun d => d c2), if_neg (fun d => d c4), if_neg (fun d => d c5)])
  · intro c c2 c4 c5 g P5 j5 f q hX5 hL5 hb5 g' f' c6 hX6
    exact good c g g' P5 j5 f f' (by unfold pPart; rw [if_neg (fun d => d c2), if_neg (fun d => d c4), if_pos c5]; exact q) c6 hX6 hL5 hb5
  · intro c c2 c4 c5 g P5 j5 f q hX5 hL5 hb5 g' f' c6 e6
    exact bad c g g' P5 j5 f f' (by unfold pPart; rw [if_neg (fun d => d c2), if_neg (fun d => d c4), if_pos c5]; exact q) c6
  · intro c c2 c4 c5 g e f q _ _
    exact bad2 c g e f (by unfold pPart; rw [if_neg (fun d => d c2), if_neg (fun d => d c4), if_pos c5]; exact q)
  · intro c c2 c4 g P5 j5 f q hX5 hL5 hb5 g' f' c6 hX6
    exact good c g g' P5 j5 f f' (by unfold pPart; rw [if_neg (fun d => d c2), if_pos c4]; exact q) c6 hX6 hL5 hb5
  · intro c c2 c4 g P5 j5 f q hX5 hL5 hb5 g' f' c6 e6
    exact bad c g g' P5 j5 f f' (by unfold pPart; rw [if_neg (fun d => d c2), if_pos c4]; exact q) c6
  · intro c c2 c4 g e f q _ _
    exact bad2 c g e f (by unfold pPart; rw [if_neg (fun d => d c2), if_pos c4]; exact q)
  · intro c c2 g P5 j5 f q hX5 hL5 hb5 g' f' c6 hX6
    exact good c g g' P5 j5 f f' (by unfold pPart; rw [if_pos c2]; exact q) c6 hX6 hL5 hb5
  · intro c c2 g P5 j5 f q hX5 hL5 hb5 g' f' c6 e6
    exact bad c g g' P5 j5 f f' (by unfold pPart; rw [if_pos c2]; exact q) c6
  · intro c c2 g e f q _ _
    exact bad2 c g e f (by unfold pPart; rw [if_pos c2]; exact q)
theorem rld_96 (hT : hTab T) (hO : vOK T) (z u : Int) {P0 : PT} {i0 : Nat} (hi0 : 0 < i0) (hX : rX B n m τ i0 h) (hL : rL P0 h) (hb : lB P0) (hr0 : P0 0 1 = 0) (he0 : ∀ F, (eb (pRows τ 7 P0 i0) fun b => pParts τ 900 b.1 b.2) = F → pLand τ = F) (f0 : rG 0 h0 h) : vP D T N 268 96 h [some (2, 121), some (0, z), some (0, u)] [] (rLr τ h0) := by
  refine vP_loop (fun h' l => l = [some (2, 121), some (0, z), some (0, u)] ∧ ∃ (P' : PT) (j : Nat), 0 < j ∧ rX B n m τ j h' ∧ rL P' h' ∧ rG 0 h0 h' ∧ lB P' ∧ pRows τ 7 P0 i0 = pRows τ (7 - (P' 0 1).toNat) P' j) ?_ N _ _ ⟨rfl, P0, i0, hi0, hX, hL, f0, hb, by rw [hr0]; rfl⟩
  rintro N h' l ⟨rfl, P', j, hj, hX', hL', hF', hb', he⟩ ih
  have hb1 := hb'.2.1
  have e7 : 7 - (P' 0 1).toNat = (6 - (P' 0 1).toNat) + 1 := by omega
  refine vP_hv (fun hv => qr_land96 hT hO z u hv hX' hL' hb' ?_ ?_ ?_ ?_)
  · intro c c1 g f e
    refine rLr_n (h := h') (he0 _ ?_) hF' (rF.qf f)
    rw [he, e7]
    simp only [pRows, c, c1, ne_eq, not_true_eq_false, if_false, Int.lt_irrefl, eb_l]
  · intro c c1
    refine rld_139 hT hO z u hj hX' hL' hb' (fun F hF => he0 _ ?_) hF'
    rw [he, e7, ← hF]
    have c2 : 0 < P' 0 1 := by omega
    simp only [pRows, c, c2, ne_eq, not_true_eq_false, if_false, if_true, eb_r]
  · intro c g P5 j5 f q hX5 hL5 hb5
    have c6 : ¬ 6 ≤ P' 0 1 := fun d => by
      unfold pS pRow at q
      rw [if_pos d, eb_l] at q
      cases q
    have q2 : pS τ (pRowL τ P' (j + 1)) = .inr (P5, j5) := by
      rw [← q]
      unfold pRow
      rw [if_neg c6]
    have e2 : P5 0 1 = P' 0 1 + 1 := pRowL_r q2
    have ej : 0 < j5 := by
      obtain ⟨j', _, h4⟩ := pS_i q
      omega
    refine ih _ _ ⟨rfl, P5, j5, ej, hX5, hL5, hF'.t f, hb5, ?_⟩
    rw [he, e7, e2, show 7 - (P' 0 1 + 1).toNat = 6 - (P' 0 1).toNat from by omega]
    simp only [pRows, c, q, ne_eq, not_false_eq_true, if_true, eb_r]
  · intro c g e f q _
    refine rLr_n (h := h') (he0 _ ?_) hF' f
    rw [he, e7]
    simp only [pRows, c, q, ne_eq, not_false_eq_true, if_true, eb_l]
/-- block 4 as land() clears it -/
def rO (h : zH) : Prop := ∀ j, j < 550 → h 126 (2200 + j) = (0, if j = 2 then 1 else 0)
theorem rO.wide {w : Int} (w8 : w ≤ 8) (g : rO h) (hd : h 121 24 = (0, 0)) : rL (pset pO 0 0 w) (zset h 126 2200 (0, w)) := by
  have z : ∀ j, j < 550 → j ≠ 0 → zset h 126 2200 (0, w) 126 (2200 + j) = (0, if j = 2 then 1 else 0) := fun j hj h0 => by
    rw [zset_ne (fun c => by omega)]; exact g j hj
  have zz : ∀ j, j < 550 → j ≠ 0 → j ≠ 2 → zset h 126 2200 (0, w) 126 (2200 + j) = (0, 0) := fun j h1 h2 h3 => by
    rw [z j h1 h2, if_neg h3]
  refine ⟨⟨zset_same, zz 1 (by decide) (by decide) (by decide), z 2 (by decide) (by decide), zz 3 (by decide) (by decide) (by decide), (zset_ne (by decide)).trans hd⟩, fun x y x1 x2 y1 y2 => ?_, fun k hk => absurd hk (by show ¬ (k : Int) < 0; omega), fun j hj => ?_⟩
  · have x2 : x < w := x2
    have cb := cell47 w8 x1 x2 y1 y2
    show zset h 126 2200 (0, w) 126 (2205 + (w * y + x)).toNat = (0, 0) ∧ zset h 126 2200 (0, w) 126 (2253 + (w * y + x)).toNat = (0, 0)
    rw [show (2205 + (w * y + x)).toNat = 2200 + (5 + (w * y + x)).toNat from by omega, show (2253 + (w * y + x)).toNat = 2200 + (53 + (w * y + x)).toNat from by omega]
    exact ⟨zz _ (by omega) (by omega) (by omega), zz _ (by omega) (by omega) (by omega)⟩
  · unfold rZ at hj
    exact zz j (by omega) (by omega) (by omega)
theorem rx_first {Q : zR → Prop} (hT : hTab T) (hO : vOK T) (hx : TXr B n h) (h16 : h 121 16 = (0, 0)) (h12 : h 121 12 = (0, 0)) (hK : Tks B n m τ) (k : ∀ g, qF h g → rX B n m τ 0 g → Q (g, none)) : vP D T N 284 0 h [some (2, 121), none] [] Q := by
  refine vP_Q (fun r hr => ?_) (next_ok hT hO (p := 0) hx (Nat.zero_le _) h16)
  obtain ⟨g, v⟩ := r
  obtain ⟨r1, k', s', e', g1, g2, g3⟩ := hr
  have r1 : v = none := r1
  subst r1
  exact k g g3.q ⟨⟨⟨(g3 121 9 (by decide)).trans hx.1, hx.2.1, fun q hq => (g3 125 q (fun c => by omega)).trans (hx.2.2 q hq)⟩, (g3 121 12 (by decide)).trans h12, k', s', e', g1, g2⟩, Nat.zero_le _, hK⟩
end RLD
theorem qr_land0 {D : zD} {T : zT} (hT : hTab T) (hO : vOK T) {N : Nat} {h : zH} {Q : zR → Prop} {B : Nat → Int} {n m : Nat} {τ : PT} (hv0 : zHv h) (hK : Tks B n m τ) (hBB : BB B n) (hby : ∀ q, q < n → h 125 q = (0, B q))
    (k0 : ((n : Int) < 0) → Q (zset (zset (zset h 121 1 (0, 0)) 121 0 (0, 0)) 121 0 (0, 5), some (0, -1)))
    (k1 : (0 ≤ (n : Int)) → ((h 121 8).2 < (n : Int)) → Q (zset (zset (zset h 121 1 (0, 0)) 121 0 (0, 0)) 121 0 (0, 5), some (0, -1)))
    (k2 : (0 ≤ (n : Int)) → ((n : Int) ≤ (h 121 8).2) → (900 < (n : Int)) → Q (zset (zset (zset h 121 1 (0, 0)) 121 0 (0, 0)) 121 0 (0, 5), some (0, -1)))
    (k3 : (0 ≤ (n : Int)) → ((n : Int) ≤ (h 121 8).2) → ((n : Int) ≤ 900) → ∀ (g16 : zH), (qF (zset (zset (zset (zset (zset (zset h 121 1 (0, 0)) 121 0 (0, 0)) 121 9 (0, (n : Int))) 121 8 (0, 0)) 121 16 (0, 0)) 121 12 (0, 0)) g16) → (rX B n m τ 0 g16) → vP D T N 268 23 g16 [some (2, 121), some (0, (n : Int)), none] [] Q) :
    vP D T N 268 0 h [some (2, 121), some (0, (n : Int)), none] [] Q := by
  refine v_load (v := (2, 121)) (hi_X12_land_0 hT) rfl rfl ?_
  refine v_push (0) (hi_X12_land_1 hT) rfl ?_
  refine v_putf (r := 121) hO (hi_X12_land_2 hT) rfl (fun hf1 => ?_)
  refine v_load (v := (2, 121)) (hi_X12_land_5 hT) rfl rfl ?_
  refine v_push (0) (hi_X12_land_6 hT) rfl ?_
  refine v_putf (r := 121) hO (hi_X12_land_7 hT) rfl (fun hf2 => ?_)
  refine v_load (v := (2, 121)) (hi_X12_land_10 hT) rfl rfl ?_
  refine v_load (v := (0, (n : Int))) (hi_X12_land_11 hT) rfl rfl ?_
  refine v_push (900) (hi_X12_land_12 hT) rfl ?_
  refine v_call (w := 3) [some (2, 121), some (0, (n : Int)), some (0, 900)] hO (hi_X12_land_15 hT) rfl rfl ?_
  refine v_load (v := (0, (n : Int))) (hi_X12_opens_0 hT) rfl rfl ?_
  refine v_if (hi_X12_opens_1 hT) (fun hc3 => ?_) (fun hc3 => ?_)
  · have hc3 : (n : Int) < 0 := hc3
    refine v_load (v := (2, 121)) (hi_X12_opens_17 hT) rfl rfl ?_
    refine v_push (5) (hi_X12_opens_18 hT) rfl ?_
    refine v_call (w := 2) [some (2, 121), some (0, 5)] hO (hi_X12_opens_19 hT) rfl rfl ?_
    refine v_load (v := (2, 121)) (hi_X12_no_0 hT) rfl rfl ?_
    refine v_load (v := (0, 5)) (hi_X12_no_1 hT) rfl rfl ?_
    refine v_putf (r := 121) hO (hi_X12_no_2 hT) rfl (fun hf4 => ?_)
    refine v_push (0) (hi_X12_no_5 hT) rfl ?_
    refine v_ret (hi_X12_no_6 hT) (Or.inl rfl) ?_
    show vP D T N 288 22 (zset (zset (zset h 121 1 (0, 0)) 121 0 (0, 0)) 121 0 (0, 5)) [some (2, 121), some (0, (n : Int)), some (0, 900)] [(0, 0)] _
    refine v_ret (hi_X12_opens_22 hT) (Or.inl rfl) ?_
    show vP D T N 268 18 (zset (zset (zset h 121 1 (0, 0)) 121 0 (0, 0)) 121 0 (0, 5)) [some (2, 121), some (0, (n : Int)), none] [(0, 0)] _
    refine v_if (hi_X12_land_18 hT) (fun _ => ?_) (fun hc5 => absurd (show (0 : Int) = 0 from (by decide)) hc5)
    refine v_push (-1) (hi_X12_land_21 hT) rfl ?_
    refine v_ret (hi_X12_land_22 hT) (Or.inl rfl) ?_
    exact k0 hc3
  · have hc3 : 0 ≤ (n : Int) := Int.not_lt.mp hc3
    refine v_load (v := (0, (n : Int))) (hi_X12_opens_4 hT) rfl rfl ?_
    refine v_load (v := (2, 121)) (hi_X12_opens_5 hT) rfl rfl ?_
    refine v_getf (v := (0, (h 121 8).2)) (r := 121) (hi_X12_opens_6 hT) rfl rfl (fun hv_ => Eq.trans (Eq.trans (zset_ne (fun c => absurd c.2 (by decide))) (zset_ne (fun c => absurd c.2 (by decide)))) (hv0.at rfl)) ?_
    refine v_ic (hi_X12_opens_9 hT) (fun hc6 => ?_) (fun hc6 => ?_)
    · have hc6 : (h 121 8).2 < (n : Int) := hc6
      refine v_load (v := (2, 121)) (hi_X12_opens_17 hT) rfl rfl ?_
      refine v_push (5) (hi_X12_opens_18 hT) rfl ?_
      refine v_call (w := 2) [some (2, 121), some (0, 5)] hO (hi_X12_opens_19 hT) rfl rfl ?_
      refine v_load (v := (2, 121)) (hi_X12_no_0 hT) rfl rfl ?_
      refine v_load (v := (0, 5)) (hi_X12_no_1 hT) rfl rfl ?_
      refine v_putf (r := 121) hO (hi_X12_no_2 hT) rfl (fun hf7 => ?_)
      refine v_push (0) (hi_X12_no_5 hT) rfl ?_
      refine v_ret (hi_X12_no_6 hT) (Or.inl rfl) ?_
      show vP D T N 288 22 (zset (zset (zset h 121 1 (0, 0)) 121 0 (0, 0)) 121 0 (0, 5)) [some (2, 121), some (0, (n : Int)), some (0, 900)] [(0, 0)] _
      refine v_ret (hi_X12_opens_22 hT) (Or.inl rfl) ?_
      show vP D T N 268 18 (zset (zset (zset h 121 1 (0, 0)) 121 0 (0, 0)) 121 0 (0, 5)) [some (2, 121), some (0, (n : Int)), none] [(0, 0)] _
      refine v_if (hi_X12_land_18 hT) (fun _ => ?_) (fun hc8 => absurd (show (0 : Int) = 0 from (by decide)) hc8)
      refine v_push (-1) (hi_X12_land_21 hT) rfl ?_
      refine v_ret (hi_X12_land_22 hT) (Or.inl rfl) ?_
      exact k1 hc3 hc6
    · have hc6 : (n : Int) ≤ (h 121 8).2 := Int.not_lt.mp hc6
      refine v_load (v := (0, (n : Int))) (hi_X12_opens_12 hT) rfl rfl ?_
      refine v_load (v := (0, 900)) (hi_X12_opens_13 hT) rfl rfl ?_
      refine v_ic (hi_X12_opens_14 hT) (fun hc9 => ?_) (fun hc9 => ?_)
      · have hc9 : 900 < (n : Int) := hc9
        refine v_load (v := (2, 121)) (hi_X12_opens_17 hT) rfl rfl ?_
        refine v_push (5) (hi_X12_opens_18 hT) rfl ?_
        refine v_call (w := 2) [some (2, 121), some (0, 5)] hO (hi_X12_opens_19 hT) rfl rfl ?_
        refine v_load (v := (2, 121)) (hi_X12_no_0 hT) rfl rfl ?_
        refine v_load (v := (0, 5)) (hi_X12_no_1 hT) rfl rfl ?_
        refine v_putf (r := 121) hO (hi_X12_no_2 hT) rfl (fun hf10 => ?_)
        refine v_push (0) (hi_X12_no_5 hT) rfl ?_
        refine v_ret (hi_X12_no_6 hT) (Or.inl rfl) ?_
        show vP D T N 288 22 (zset (zset (zset h 121 1 (0, 0)) 121 0 (0, 0)) 121 0 (0, 5)) [some (2, 121), some (0, (n : Int)), some (0, 900)] [(0, 0)] _
        refine v_ret (hi_X12_opens_22 hT) (Or.inl rfl) ?_
        show vP D T N 268 18 (zset (zset (zset h 121 1 (0, 0)) 121 0 (0, 0)) 121 0 (0, 5)) [some (2, 121), some (0, (n : Int)), none] [(0, 0)] _
        refine v_if (hi_X12_land_18 hT) (fun _ => ?_) (fun hc11 => absurd (show (0 : Int) = 0 from (by decide)) hc11)
        refine v_push (-1) (hi_X12_land_21 hT) rfl ?_
        refine v_ret (hi_X12_land_22 hT) (Or.inl rfl) ?_
        exact k2 hc3 hc6 hc9
      · have hc9 : (n : Int) ≤ 900 := Int.not_lt.mp hc9
        refine v_load (v := (2, 121)) (hi_X12_opens_23 hT) rfl rfl ?_
        refine v_load (v := (0, (n : Int))) (hi_X12_opens_24 hT) rfl rfl ?_
        refine v_putf (r := 121) hO (hi_X12_opens_25 hT) rfl (fun hf12 => ?_)
        refine v_load (v := (2, 121)) (hi_X12_opens_28 hT) rfl rfl ?_
        refine v_push (0) (hi_X12_opens_29 hT) rfl ?_
        refine v_putf (r := 121) hO (hi_X12_opens_30 hT) rfl (fun hf13 => ?_)
        refine v_load (v := (2, 121)) (hi_X12_opens_33 hT) rfl rfl ?_
        refine v_push (0) (hi_X12_opens_34 hT) rfl ?_
        refine v_putf (r := 121) hO (hi_X12_opens_35 hT) rfl (fun hf14 => ?_)
        refine v_load (v := (2, 121)) (hi_X12_opens_38 hT) rfl rfl ?_
        refine v_push (0) (hi_X12_opens_39 hT) rfl ?_
        refine v_putf (r := 121) hO (hi_X12_opens_40 hT) rfl (fun hf15 => ?_)
        refine v_load (v := (2, 121)) (hi_X12_opens_43 hT) rfl rfl ?_
        refine v_call (w := 2) [some (2, 121), none] hO (hi_X12_opens_44 hT) rfl rfl (rx_first hT hO ⟨Eq.trans (Eq.trans (zset_ne (fun c => absurd c.2 (by decide))) (Eq.trans (zset_ne (fun c => absurd c.2 (by decide))) (zset_ne (fun c => absurd c.2 (by decide))))) zset_same, hBB, fun q hq => (Eq.trans (zset_ne (fun c => absurd c.1 (by decide))) (Eq.trans (zset_ne (fun c => absurd c.1 (by decide))) (Eq.trans (zset_ne (fun c => absurd c.1 (by decide))) (Eq.trans (zset_ne (fun c => absurd c.1 (by decide))) (Eq.trans (zset_ne (fun c => absurd c.1 (by decide))) (zset_ne (fun c => absurd c.1 (by decide)))))))).trans (hby q hq)⟩ (Eq.trans (zset_ne (fun c => absurd c.2 (by decide))) zset_same) (zset_same) hK (fun g16 ft16 hX16 => ?_))
        · show vP D T N 288 47 g16 [some (2, 121), some (0, (n : Int)), some (0, 900)] [] _
          refine vP_hv (fun hv16 => ?_)
          refine v_push (1) (hz_X12_opens hT _ _ rfl) rfl ?_
          refine v_ret (hz_X12_opens hT _ _ rfl) (Or.inl rfl) ?_
          show vP D T N 268 18 g16 [some (2, 121), some (0, (n : Int)), none] [(0, 1)] _
          refine v_if (hi_X12_land_18 hT) (fun hc17 => absurd (show (1 : Int) = 0 from hc17) (by decide)) (fun _ => ?_)
          exact k3 hc3 hc6 hc9 g16 ft16 hX16
theorem rx_land {D : zD} {T : zT} (hT : hTab T) (hO : vOK T) {N : Nat} {h : zH} {B : Nat → Int} {n m : Nat} {τ : PT} (hK : Tks B n m τ) (hBB : BB B n) (hby : ∀ q, q < n → h 125 q = (0, B q)) (ht : (n : Int) ≤ (h 121 8).2) : vP D T N 268 0 h [some (2, 121), some (0, (n : Int)), none] [] (rLr τ h) := by
  have hn9 := hBB.1
  refine vP_hv (fun hv => qr_land0 hT hO hv hK hBB hby ?_ ?_ ?_ ?_)
  · intros; omega
  · intros; omega
  · intros; omega
  · intro _ _ _ g f hX
    have f0 : rG 0 h g := fun a b hn => by
      rw [f a b (fun c => hn (by omega)), zset_ne (fun c => hn (by omega)), zset_ne (fun c => hn (by omega)), zset_ne (fun c => hn (by omega)), zset_ne (fun c => hn (by omega)), zset_ne (fun c => hn (by omega)), zset_ne (fun c => hn (by omega))]
    refine vP_hv (fun hv => qr_land23 hT hO n hv ?_)
    refine vP_loop (fun h' l => ∃ x : Nat, l = [some (2, 121), some (0, (n : Int)), some (0, (x : Int))] ∧ x ≤ 550 ∧ rX B n m τ 0 h' ∧ rG 0 h h' ∧ ∀ j, j < x → h' 126 (2200 + j) = (0, 0)) ?_ N _ _ ⟨0, rfl, by decide, hX, f0, fun j hj => absurd hj (by omega)⟩
    rintro N h' l ⟨x, rfl, hx, hX', f', hz⟩ ih
    have ex : (2200 + (x : Int)).toNat = 2200 + x := by omega
    refine vP_hv (fun hv => qr_land25 hT hO n x hv ⟨by omega, by omega⟩ ?_ ?_)
    · intro c _ _
      rw [ex]
      refine ih _ _ ⟨x + 1, rfl, by omega, hX'.z (by decide), fun a b hn => (zset_ne (fun c => hn (by omega))).trans (f' a b hn), fun j hj => ?_⟩
      by_cases e : j = x
      · rw [e, zset_same]
      · rw [zset_ne (fun c => e (by omega))]
        exact hz j (by omega)
    · intro c
      have e5 : x = 550 := by omega
      subst e5
      have hOO : rO (zset (zset h' 126 2202 (0, 1)) 121 24 (0, 0)) := fun j hj => by
        rw [zset_ne (fun c => absurd c.1 (by decide))]
        by_cases e : j = 2
        · rw [e, zset_same, if_pos rfl]
        · rw [zset_ne (fun c => e (by omega)), if_neg e]
          exact hz j hj
      have fO : rG 0 h (zset (zset h' 126 2202 (0, 1)) 121 24 (0, 0)) := fun a b hn => by
        rw [zset_ne (fun c => hn (by omega)), zset_ne (fun c => hn (by omega))]
        exact f' a b hn
      have o1 : ∀ g, qF (zset (zset h' 126 2202 (0, 1)) 121 24 (0, 0)) g → rO g ∧ g 121 24 = (0, 0) ∧ rG 0 h g := fun g f => ⟨fun j hj => (f _ _ (fun c => absurd c.1 (by decide))).trans (hOO j hj), (f 121 24 (fun c => by omega)).trans zset_same, fO.t (rF.qf f)⟩
      have hw : ∀ F, pWide τ pO 0 = F → pLand τ = eb F fun a => eb (pRows τ 7 a.1 a.2) fun b => pParts τ 900 b.1 b.2 := fun F hF => by
        unfold pLand
        rw [hF]
      refine vP_hv (fun hv => qr_land49 hT hO n (550 : Nat) hv hX' ?_ ?_ ?_ ?_)
      · intro g6 f6 c6 hX6 g9 x8 f9 q9 b1 b2 hX9 g15 f15 c15 hX15
        obtain ⟨o6, d6, g6'⟩ := o1 g6 f6
        have o9 : rO g9 := fun j hj => (f9 _ _ (fun c => absurd c.1 (by decide))).trans (o6 j hj)
        have hL := (o9.wide b2 ((f9 121 24 (fun c => by omega)).trans d6)).qf f15
        have g15' : rG 0 h g15 := by
          refine ((g6'.t (rF.qf f9)).t (h' := zset g9 126 2200 (0, x8)) (rF.rfl.z (by omega))).t (rF.qf f15)
        have hpw : pWide τ pO 0 = .inr (pset pO 0 0 x8, 0 + 1 + 1 + 1) := by
          simp only [pWide, pWord, pSg, c6, q9, c15, ne_eq, not_false_eq_true, if_true, eb_r]
        refine rld_96 hT hO n (550 : Nat) (i0 := 0 + 1 + 1 + 1) (by decide) hX15 hL ?_ rfl (fun F hF => ?_) g15'
        · show (0 ≤ x8 ∧ x8 ≤ 8) ∧ (0 ≤ pO 0 1 ∧ pO 0 1 ≤ 6) ∧ (0 ≤ pO 0 2 ∧ pO 0 2 ≤ 3) ∧ (0 ≤ pO 0 3 ∧ pO 0 3 ≤ 6)
          exact ⟨⟨by omega, by omega⟩, by decide⟩
        · rw [hw _ hpw, eb_r, hF]
      · intro g6 f6 c6 hX6 g9 x8 f9 q9 b1 b2 hX9 g16 f16 c16 e16
        obtain ⟨o6, d6, g6'⟩ := o1 g6 f6
        refine rLr_n (h := g6) ?_ g6' ((((rF.qf f9).z (by omega)).t f16))
        rw [hw (.inl (eF τ (0 + 1 + 1) 2)) (by simp only [pWide, pWord, pSg, c6, q9, c16, ne_eq, not_false_eq_true, not_true_eq_false, if_true, if_false, eb_r, eb_l]), eb_l]
      · intro g6 f6 c6 hX6 g10 e10 f10 q10 c10 _
        obtain ⟨o6, d6, g6'⟩ := o1 g6 f6
        refine rLr_n (h := g6) ?_ g6' ((rF.qf f10).z (by omega))
        rw [hw (.inl e10) (by simp only [pWide, pWord, c6, q10, ne_eq, not_false_eq_true, if_true, eb_r, eb_l]), eb_l]
      · intro g7 f7 c7 e7 _
        obtain ⟨o6, d6, g6'⟩ := o1 g7 f7
        refine rLr_n (h := g7) ?_ g6' (rF.rfl.z (by omega))
        rw [hw (.inl (eF τ 0 2)) (by simp only [pWide, pWord, c7, ne_eq, not_true_eq_false, if_false, eb_l]), eb_l]
