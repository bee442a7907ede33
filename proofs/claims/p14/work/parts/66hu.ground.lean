def crw (L : Int) : Int := if L = 0 then 2 else if L = 1 then 1 else if L = 2 then 4 else if L = 3 then 5 else 3
def gvw (L R w : Int) : Int := if w = 0 then L else if w = 1 then (if L = 3 then -1 else crw L + R) else if w = 2 then R else if w = 3 then crw L + R else -1
theorem zat2 (D : zD) {L : Int} (h0 : 0 ≤ L) (h1 : L < (zlen D 2 : Int)) : zat D 2 L.toNat = crw L := by
  have h1 : L < 5 := h1
  have : L = 0 ∨ L = 1 ∨ L = 2 ∨ L = 3 ∨ L = 4 := by omega
  rcases this with rfl | rfl | rfl | rfl | rfl <;> rfl
theorem zat2b (D : zD) (n : Nat) : 0 ≤ zat D 2 n ∧ zat D 2 n ≤ 5 := by
  match n with
  | 0 => exact (by decide : (0 : Int) ≤ 2 ∧ (2 : Int) ≤ 5)
  | 1 => exact (by decide : (0 : Int) ≤ 1 ∧ (1 : Int) ≤ 5)
  | 2 => exact (by decide : (0 : Int) ≤ 4 ∧ (4 : Int) ≤ 5)
  | 3 => exact (by decide : (0 : Int) ≤ 5 ∧ (5 : Int) ≤ 5)
  | 4 => exact (by decide : (0 : Int) ≤ 3 ∧ (3 : Int) ≤ 5)
  | n + 5 => exact ⟨Int.le_refl 0, (show (0 : Int) ≤ 5 from by decide)⟩
section GV
variable {L R w : Int}
theorem gvw0 (h : w = 0) : gvw L R w = L := if_pos h
theorem gvw1w (h0 : w ≠ 0) (h : w = 1) (hL : L = 3) : gvw L R w = -1 := (if_neg h0).trans ((if_pos h).trans (if_pos hL))
theorem gvw1 (h0 : w ≠ 0) (h : w = 1) (hL : L ≠ 3) : gvw L R w = crw L + R := (if_neg h0).trans ((if_pos h).trans (if_neg hL))
theorem gvw2 (h0 : w ≠ 0) (h1 : w ≠ 1) (h : w = 2) : gvw L R w = R := (if_neg h0).trans ((if_neg h1).trans (if_pos h))
theorem gvw3 (h0 : w ≠ 0) (h1 : w ≠ 1) (h2 : w ≠ 2) (h : w = 3) : gvw L R w = crw L + R := (if_neg h0).trans ((if_neg h1).trans ((if_neg h2).trans (if_pos h)))
theorem gvwx (h0 : w ≠ 0) (h1 : w ≠ 1) (h2 : w ≠ 2) (h : w ≠ 3) : gvw L R w = -1 := (if_neg h0).trans ((if_neg h1).trans ((if_neg h2).trans (if_neg h)))
theorem crw_0 (h : L = 0) : crw L = 2 := if_pos h
theorem crw_1 (h0 : L ≠ 0) (h : L = 1) : crw L = 1 := (if_neg h0).trans (if_pos h)
theorem crw_3 (h : L = 3) : crw L = 5 := by rw [h]; rfl
theorem crw_4 (h : L = 4) : crw L = 3 := by rw [h]; rfl
theorem crw_x (b0 : 0 ≤ L) (b4 : L ≤ 4) (h0 : L ≠ 0) (h1 : L ≠ 1) (h3 : L ≠ 3) (h4 : L ≠ 4) : crw L = 4 := by
  have : L = 2 := by omega
  rw [this]; rfl
end GV
theorem qc_grd0_24 {D : zD} {T : zT} (hT : hTab T) (hO : vOK T) {N : Nat} {h : zH} {Q : zR → Prop} {P : PT} (x y w : Int) (hv0 : zHv h) (e7 : h 0 7 = (2, 24)) (g0 : h 24 0 = (0, P 0 0)) (g1 : h 24 1 = (0, P 0 1)) (g2 : h 24 2 = (0, P 0 2)) (g3 : h 24 3 = (0, P 0 3)) (lb : (0 ≤ P 0 0 ∧ P 0 0 ≤ 8) ∧ (0 ≤ P 0 1 ∧ P 0 1 ≤ 6) ∧ (0 ≤ P 0 2 ∧ P 0 2 ≤ 3) ∧ (0 ≤ P 0 3 ∧ P 0 3 ≤ 6))
    (k0 : (x < 0) → Q (zset h 0 0 (0, 2), some (0, -1)))
    (k1 : (0 ≤ x) → (x < (P 0 0)) → (y < 0) → Q (zset h 0 0 (0, 2), some (0, -1)))
    (k2 : (0 ≤ x) → (x < (P 0 0)) → (0 ≤ y) → (y < (P 0 1)) → vP D T N 156 18 h [some (2, 0), some (0, x), some (0, y), some (0, w), none] [] Q)
    (k3 : (0 ≤ x) → (x < (P 0 0)) → (0 ≤ y) → ((P 0 1) ≤ y) → Q (zset h 0 0 (0, 2), some (0, -1)))
    (k4 : (0 ≤ x) → ((P 0 0) ≤ x) → Q (zset h 0 0 (0, 2), some (0, -1))) :
    vP D T N 156 0 h [some (2, 0), some (0, x), some (0, y), some (0, w), none] [] Q := by
  refine v_load (v := (2, 0)) (hT _ zt_X11_ground rfl _ _ rfl) rfl rfl ?_
  refine v_getf (v := (2, 24)) (r := 0) (hT _ zt_X11_ground rfl _ _ rfl) rfl rfl (fun _ => e7) ?_
  refine v_load (v := (0, x)) (hT _ zt_X11_ground rfl _ _ rfl) rfl rfl ?_
  refine v_load (v := (0, y)) (hT _ zt_X11_ground rfl _ _ rfl) rfl rfl ?_
  refine v_call (w := 3) [some (2, 24), some (0, x), some (0, y)] hO (hT _ zt_X11_ground rfl _ _ rfl) rfl rfl ?_
  refine v_load (v := (0, x)) (hT _ zt_X2_hasCell rfl _ _ rfl) rfl rfl ?_
  refine v_if (hT _ zt_X2_hasCell rfl _ _ rfl) (fun hc1 => ?_) (fun hc1 => ?_)
  · have hc1 : x < 0 := hc1
    refine v_push (0) (hT _ zt_X2_hasCell rfl _ _ rfl) rfl ?_
    refine v_ret (hT _ zt_X2_hasCell rfl _ _ rfl) (Or.inl rfl) ?_
    show vP D T N 156 9 h [some (2, 0), some (0, x), some (0, y), some (0, w), none] [(0, 0)] _
    refine v_if (hT _ zt_X11_ground rfl _ _ rfl) (fun _ => ?_) (fun hc2 => absurd (show (0 : Int) = 0 from (by omega)) hc2)
    refine v_load (v := (2, 0)) (hT _ zt_X11_ground rfl _ _ rfl) rfl rfl ?_
    refine v_push (2) (hT _ zt_X11_ground rfl _ _ rfl) rfl ?_
    refine v_call (w := 2) [some (2, 0), some (0, 2)] hO (hT _ zt_X11_ground rfl _ _ rfl) rfl rfl ?_
    refine v_load (v := (2, 0)) (hT _ zt_X11_refused rfl _ _ rfl) rfl rfl ?_
    refine v_load (v := (0, 2)) (hT _ zt_X11_refused rfl _ _ rfl) rfl rfl ?_
    refine v_putf (r := 0) hO (hT _ zt_X11_refused rfl _ _ rfl) rfl (fun hf3 => ?_)
    refine v_push (-1) (hT _ zt_X11_refused rfl _ _ rfl) rfl ?_
    refine v_ret (hT _ zt_X11_refused rfl _ _ rfl) (Or.inl rfl) ?_
    show vP D T N 156 17 (zset h 0 0 (0, 2)) [some (2, 0), some (0, x), some (0, y), some (0, w), none] [(0, -1)] _
    refine v_ret (hT _ zt_X11_ground rfl _ _ rfl) (Or.inl rfl) ?_
    exact k0 hc1
  · have hc1 : 0 ≤ x := Int.not_lt.mp hc1
    refine v_load (v := (0, x)) (hT _ zt_X2_hasCell rfl _ _ rfl) rfl rfl ?_
    refine v_load (v := (2, 24)) (hT _ zt_X2_hasCell rfl _ _ rfl) rfl rfl ?_
    refine v_getf (v := (0, (P 0 0))) (r := 24) (hT _ zt_X2_hasCell rfl _ _ rfl) rfl rfl (fun _ => g0) ?_
    refine v_ic (hT _ zt_X2_hasCell rfl _ _ rfl) (fun hc4 => ?_) (fun hc4 => ?_)
    · have hc4 : x < (P 0 0) := hc4
      refine v_load (v := (0, y)) (hT _ zt_X2_hasCell rfl _ _ rfl) rfl rfl ?_
      refine v_if (hT _ zt_X2_hasCell rfl _ _ rfl) (fun hc5 => ?_) (fun hc5 => ?_)
      · have hc5 : y < 0 := hc5
        refine v_push (0) (hT _ zt_X2_hasCell rfl _ _ rfl) rfl ?_
        refine v_ret (hT _ zt_X2_hasCell rfl _ _ rfl) (Or.inl rfl) ?_
        show vP D T N 156 9 h [some (2, 0), some (0, x), some (0, y), some (0, w), none] [(0, 0)] _
        refine v_if (hT _ zt_X11_ground rfl _ _ rfl) (fun _ => ?_) (fun hc6 => absurd (show (0 : Int) = 0 from (by omega)) hc6)
        refine v_load (v := (2, 0)) (hT _ zt_X11_ground rfl _ _ rfl) rfl rfl ?_
        refine v_push (2) (hT _ zt_X11_ground rfl _ _ rfl) rfl ?_
        refine v_call (w := 2) [some (2, 0), some (0, 2)] hO (hT _ zt_X11_ground rfl _ _ rfl) rfl rfl ?_
        refine v_load (v := (2, 0)) (hT _ zt_X11_refused rfl _ _ rfl) rfl rfl ?_
        refine v_load (v := (0, 2)) (hT _ zt_X11_refused rfl _ _ rfl) rfl rfl ?_
        refine v_putf (r := 0) hO (hT _ zt_X11_refused rfl _ _ rfl) rfl (fun hf7 => ?_)
        refine v_push (-1) (hT _ zt_X11_refused rfl _ _ rfl) rfl ?_
        refine v_ret (hT _ zt_X11_refused rfl _ _ rfl) (Or.inl rfl) ?_
        show vP D T N 156 17 (zset h 0 0 (0, 2)) [some (2, 0), some (0, x), some (0, y), some (0, w), none] [(0, -1)] _
        refine v_ret (hT _ zt_X11_ground rfl _ _ rfl) (Or.inl rfl) ?_
        exact k1 hc1 hc4 hc5
      · have hc5 : 0 ≤ y := Int.not_lt.mp hc5
        refine v_load (v := (0, y)) (hT _ zt_X2_hasCell rfl _ _ rfl) rfl rfl ?_
        refine v_load (v := (2, 24)) (hT _ zt_X2_hasCell rfl _ _ rfl) rfl rfl ?_
        refine v_getf (v := (0, (P 0 1))) (r := 24) (hT _ zt_X2_hasCell rfl _ _ rfl) rfl rfl (fun _ => g1) ?_
        refine v_ic (hT _ zt_X2_hasCell rfl _ _ rfl) (fun hc8 => ?_) (fun hc8 => ?_)
        · have hc8 : y < (P 0 1) := hc8
          refine v_push (1) (hT _ zt_X2_hasCell rfl _ _ rfl) rfl ?_
          refine v_goto (hT _ zt_X2_hasCell rfl _ _ rfl) ?_
          refine v_ret (hT _ zt_X2_hasCell rfl _ _ rfl) (Or.inl rfl) ?_
          show vP D T N 156 9 h [some (2, 0), some (0, x), some (0, y), some (0, w), none] [(0, 1)] _
          refine v_if (hT _ zt_X11_ground rfl _ _ rfl) (fun hc9 => absurd (show (1 : Int) = 0 from hc9) (by omega)) (fun _ => ?_)
          exact k2 hc1 hc4 hc5 hc8
        · have hc8 : (P 0 1) ≤ y := Int.not_lt.mp hc8
          refine v_push (0) (hT _ zt_X2_hasCell rfl _ _ rfl) rfl ?_
          refine v_ret (hT _ zt_X2_hasCell rfl _ _ rfl) (Or.inl rfl) ?_
          show vP D T N 156 9 h [some (2, 0), some (0, x), some (0, y), some (0, w), none] [(0, 0)] _
          refine v_if (hT _ zt_X11_ground rfl _ _ rfl) (fun _ => ?_) (fun hc10 => absurd (show (0 : Int) = 0 from (by omega)) hc10)
          refine v_load (v := (2, 0)) (hT _ zt_X11_ground rfl _ _ rfl) rfl rfl ?_
          refine v_push (2) (hT _ zt_X11_ground rfl _ _ rfl) rfl ?_
          refine v_call (w := 2) [some (2, 0), some (0, 2)] hO (hT _ zt_X11_ground rfl _ _ rfl) rfl rfl ?_
          refine v_load (v := (2, 0)) (hT _ zt_X11_refused rfl _ _ rfl) rfl rfl ?_
          refine v_load (v := (0, 2)) (hT _ zt_X11_refused rfl _ _ rfl) rfl rfl ?_
          refine v_putf (r := 0) hO (hT _ zt_X11_refused rfl _ _ rfl) rfl (fun hf11 => ?_)
          refine v_push (-1) (hT _ zt_X11_refused rfl _ _ rfl) rfl ?_
          refine v_ret (hT _ zt_X11_refused rfl _ _ rfl) (Or.inl rfl) ?_
          show vP D T N 156 17 (zset h 0 0 (0, 2)) [some (2, 0), some (0, x), some (0, y), some (0, w), none] [(0, -1)] _
          refine v_ret (hT _ zt_X11_ground rfl _ _ rfl) (Or.inl rfl) ?_
          exact k3 hc1 hc4 hc5 hc8
    · have hc4 : (P 0 0) ≤ x := Int.not_lt.mp hc4
      refine v_push (0) (hT _ zt_X2_hasCell rfl _ _ rfl) rfl ?_
      refine v_ret (hT _ zt_X2_hasCell rfl _ _ rfl) (Or.inl rfl) ?_
      show vP D T N 156 9 h [some (2, 0), some (0, x), some (0, y), some (0, w), none] [(0, 0)] _
      refine v_if (hT _ zt_X11_ground rfl _ _ rfl) (fun _ => ?_) (fun hc12 => absurd (show (0 : Int) = 0 from (by omega)) hc12)
      refine v_load (v := (2, 0)) (hT _ zt_X11_ground rfl _ _ rfl) rfl rfl ?_
      refine v_push (2) (hT _ zt_X11_ground rfl _ _ rfl) rfl ?_
      refine v_call (w := 2) [some (2, 0), some (0, 2)] hO (hT _ zt_X11_ground rfl _ _ rfl) rfl rfl ?_
      refine v_load (v := (2, 0)) (hT _ zt_X11_refused rfl _ _ rfl) rfl rfl ?_
      refine v_load (v := (0, 2)) (hT _ zt_X11_refused rfl _ _ rfl) rfl rfl ?_
      refine v_putf (r := 0) hO (hT _ zt_X11_refused rfl _ _ rfl) rfl (fun hf13 => ?_)
      refine v_push (-1) (hT _ zt_X11_refused rfl _ _ rfl) rfl ?_
      refine v_ret (hT _ zt_X11_refused rfl _ _ rfl) (Or.inl rfl) ?_
      show vP D T N 156 17 (zset h 0 0 (0, 2)) [some (2, 0), some (0, x), some (0, y), some (0, w), none] [(0, -1)] _
      refine v_ret (hT _ zt_X11_ground rfl _ _ rfl) (Or.inl rfl) ?_
      exact k4 hc1 hc4
theorem qc_grd1_24 {D : zD} {T : zT} (hT : hTab T) (hO : vOK T) {N : Nat} {h : zH} {Q : zR → Prop} (x y w : Int) (hv0 : zHv h) (e7 : h 0 7 = (2, 24)) (bx : 0 ≤ x ∧ x ≤ 7) (by_ : 0 ≤ y ∧ y ≤ 5) (bz : 0 ≤ zat D 2 ((h 25 (((y * 8) + x)).toNat).2).toNat ∧ zat D 2 ((h 25 (((y * 8) + x)).toNat).2).toNat ≤ 5) (br : 0 ≤ (h 26 (((y * 8) + x)).toNat).2 ∧ (h 26 (((y * 8) + x)).toNat).2 ≤ 9)
    (k0 : (w = 0) → (0 ≤ ((y * 8) + x)) → (((y * 8) + x) < 48) → Q (zset h 0 0 (0, 0), some (0, (h 25 (((y * 8) + x)).toNat).2)))
    (k1 : (w ≠ 0) → (w = 1) → (0 ≤ ((y * 8) + x)) → (((y * 8) + x) < 48) → ((h 25 (((y * 8) + x)).toNat).2 = 3) → Q (zset h 0 0 (0, 8), some (0, -1)))
    (k2 : (w ≠ 0) → (w = 1) → (0 ≤ ((y * 8) + x)) → (((y * 8) + x) < 48) → ((h 25 (((y * 8) + x)).toNat).2 ≠ 3) → (0 ≤ (h 25 (((y * 8) + x)).toNat).2) → ((h 25 (((y * 8) + x)).toNat).2 < (zlen D 2 : Int)) → Q (zset h 0 0 (0, 0), some (0, ((zat D 2 ((h 25 (((y * 8) + x)).toNat).2).toNat) + (h 26 (((y * 8) + x)).toNat).2))))
    (k3 : (w ≠ 0) → (w ≠ 1) → (w = 2) → (0 ≤ ((y * 8) + x)) → (((y * 8) + x) < 48) → Q (zset h 0 0 (0, 0), some (0, (h 26 (((y * 8) + x)).toNat).2)))
    (k4 : (w ≠ 0) → (w ≠ 1) → (w ≠ 2) → (w = 3) → (0 ≤ ((y * 8) + x)) → (((y * 8) + x) < 48) → (0 ≤ (h 25 (((y * 8) + x)).toNat).2) → ((h 25 (((y * 8) + x)).toNat).2 < (zlen D 2 : Int)) → Q (zset h 0 0 (0, 0), some (0, ((zat D 2 ((h 25 (((y * 8) + x)).toNat).2).toNat) + (h 26 (((y * 8) + x)).toNat).2))))
    (k5 : (w ≠ 0) → (w ≠ 1) → (w ≠ 2) → (w ≠ 3) → Q (zset h 0 0 (0, 5), some (0, -1))) :
    vP D T N 156 18 h [some (2, 0), some (0, x), some (0, y), some (0, w), none] [] Q := by
  refine v_load (v := (0, x)) (hT _ zt_X11_ground rfl _ _ rfl) rfl rfl ?_
  refine v_load (v := (0, y)) (hT _ zt_X11_ground rfl _ _ rfl) rfl rfl ?_
  refine v_call (w := 2) [some (0, x), some (0, y)] hO (hT _ zt_X11_ground rfl _ _ rfl) rfl rfl ?_
  refine v_load (v := (0, y)) (hT _ zt_X2_cellAt rfl _ _ rfl) rfl rfl ?_
  refine v_push (8) (hT _ zt_X2_cellAt rfl _ _ rfl) rfl ?_
  refine v_bin (w := (y * 8)) (hT _ zt_X2_cellAt rfl _ _ rfl) (hq_mul (by omega) (by omega)) ?_
  refine v_load (v := (0, x)) (hT _ zt_X2_cellAt rfl _ _ rfl) rfl rfl ?_
  refine v_bin (w := ((y * 8) + x)) (hT _ zt_X2_cellAt rfl _ _ rfl) (hq_add (by omega) (by omega)) ?_
  refine v_ret (hT _ zt_X2_cellAt rfl _ _ rfl) (Or.inl rfl) ?_
  show vP D T N 156 23 h [some (2, 0), some (0, x), some (0, y), some (0, w), none] [(0, ((y * 8) + x))] _
  refine v_store1 [some (2, 0), some (0, x), some (0, y), some (0, w), some (0, ((y * 8) + x))] (hT _ zt_X11_ground rfl _ _ rfl) ⟨rfl, Nat.ne_of_beq_eq_false rfl⟩ (Nat.le_of_ble_eq_true rfl) rfl ?_
  refine v_load (v := (0, w)) (hT _ zt_X11_ground rfl _ _ rfl) rfl rfl ?_
  refine v_sw (hT _ zt_X11_ground rfl _ _ rfl) ?_
  refine ⟨fun hc1 => ?_, fun hc1 => ?_⟩
  · have hc1 : w = 0 := hc1
    refine v_load (v := (2, 0)) (hT _ zt_X11_ground rfl _ _ rfl) rfl rfl ?_
    refine v_load (v := (2, 0)) (hT _ zt_X11_ground rfl _ _ rfl) rfl rfl ?_
    refine v_getf (v := (2, 24)) (r := 0) (hT _ zt_X11_ground rfl _ _ rfl) rfl rfl (fun _ => e7) ?_
    refine v_getR (c := 25) (r := 24) (hT _ zt_X11_ground rfl _ _ rfl) rfl rfl rfl ?_
    refine v_load (v := (0, ((y * 8) + x))) (hT _ zt_X11_ground rfl _ _ rfl) rfl rfl ?_
    refine v_ald (t := 0) (r := 25) (hT _ zt_X11_ground rfl _ _ rfl) rfl rfl rfl (fun ha2 hb3 => ?_)
    refine v_call (w := 2) [some (2, 0), some (0, (h 25 (((y * 8) + x)).toNat).2)] hO (hT _ zt_X11_ground rfl _ _ rfl) rfl rfl ?_
    refine v_load (v := (2, 0)) (hT _ zt_X11_answer rfl _ _ rfl) rfl rfl ?_
    refine v_push (0) (hT _ zt_X11_answer rfl _ _ rfl) rfl ?_
    refine v_putf (r := 0) hO (hT _ zt_X11_answer rfl _ _ rfl) rfl (fun hf4 => ?_)
    refine v_load (v := (0, (h 25 (((y * 8) + x)).toNat).2)) (hT _ zt_X11_answer rfl _ _ rfl) rfl rfl ?_
    refine v_ret (hT _ zt_X11_answer rfl _ _ rfl) (Or.inl rfl) ?_
    show vP D T N 156 70 (zset h 0 0 (0, 0)) [some (2, 0), some (0, x), some (0, y), some (0, w), some (0, ((y * 8) + x))] [(0, (h 25 (((y * 8) + x)).toNat).2)] _
    refine v_ret (hT _ zt_X11_ground rfl _ _ rfl) (Or.inl rfl) ?_
    exact k0 hc1 ha2 hb3
  refine ⟨fun hc5 => ?_, fun hc5 => ?_⟩
  · have hc5 : w = 1 := hc5
    refine v_load (v := (2, 0)) (hT _ zt_X11_ground rfl _ _ rfl) rfl rfl ?_
    refine v_getf (v := (2, 24)) (r := 0) (hT _ zt_X11_ground rfl _ _ rfl) rfl rfl (fun _ => e7) ?_
    refine v_load (v := (0, ((y * 8) + x))) (hT _ zt_X11_ground rfl _ _ rfl) rfl rfl ?_
    refine v_call (w := 2) [some (2, 24), some (0, ((y * 8) + x))] hO (hT _ zt_X11_ground rfl _ _ rfl) rfl rfl ?_
    refine v_load (v := (2, 24)) (hT _ zt_X2_isWater rfl _ _ rfl) rfl rfl ?_
    refine v_getR (c := 25) (r := 24) (hT _ zt_X2_isWater rfl _ _ rfl) rfl rfl rfl ?_
    refine v_load (v := (0, ((y * 8) + x))) (hT _ zt_X2_isWater rfl _ _ rfl) rfl rfl ?_
    refine v_ald (t := 0) (r := 25) (hT _ zt_X2_isWater rfl _ _ rfl) rfl rfl rfl (fun ha6 hb7 => ?_)
    refine v_push (3) (hT _ zt_X2_isWater rfl _ _ rfl) rfl ?_
    refine v_ic (hT _ zt_X2_isWater rfl _ _ rfl) (fun hc8 => ?_) (fun hc8 => ?_)
    · have hc8 : (h 25 (((y * 8) + x)).toNat).2 = 3 := hc8
      refine v_push (1) (hT _ zt_X2_isWater rfl _ _ rfl) rfl ?_
      refine v_goto (hT _ zt_X2_isWater rfl _ _ rfl) ?_
      refine v_ret (hT _ zt_X2_isWater rfl _ _ rfl) (Or.inl rfl) ?_
      show vP D T N 156 80 h [some (2, 0), some (0, x), some (0, y), some (0, w), some (0, ((y * 8) + x))] [(0, 1)] _
      refine v_if (hT _ zt_X11_ground rfl _ _ rfl) (fun hc9 => absurd (show (1 : Int) = 0 from hc9) (by omega)) (fun _ => ?_)
      refine v_load (v := (2, 0)) (hT _ zt_X11_ground rfl _ _ rfl) rfl rfl ?_
      refine v_push (8) (hT _ zt_X11_ground rfl _ _ rfl) rfl ?_
      refine v_call (w := 2) [some (2, 0), some (0, 8)] hO (hT _ zt_X11_ground rfl _ _ rfl) rfl rfl ?_
      refine v_load (v := (2, 0)) (hT _ zt_X11_refused rfl _ _ rfl) rfl rfl ?_
      refine v_load (v := (0, 8)) (hT _ zt_X11_refused rfl _ _ rfl) rfl rfl ?_
      refine v_putf (r := 0) hO (hT _ zt_X11_refused rfl _ _ rfl) rfl (fun hf10 => ?_)
      refine v_push (-1) (hT _ zt_X11_refused rfl _ _ rfl) rfl ?_
      refine v_ret (hT _ zt_X11_refused rfl _ _ rfl) (Or.inl rfl) ?_
      show vP D T N 156 89 (zset h 0 0 (0, 8)) [some (2, 0), some (0, x), some (0, y), some (0, w), some (0, ((y * 8) + x))] [(0, -1)] _
      refine v_goto (hT _ zt_X11_ground rfl _ _ rfl) ?_
      refine v_ret (hT _ zt_X11_ground rfl _ _ rfl) (Or.inl rfl) ?_
      exact k1 hc1 hc5 ha6 hb7 hc8
    · have hc8 : (h 25 (((y * 8) + x)).toNat).2 ≠ 3 := hc8
      refine v_push (0) (hT _ zt_X2_isWater rfl _ _ rfl) rfl ?_
      refine v_ret (hT _ zt_X2_isWater rfl _ _ rfl) (Or.inl rfl) ?_
      show vP D T N 156 80 h [some (2, 0), some (0, x), some (0, y), some (0, w), some (0, ((y * 8) + x))] [(0, 0)] _
      refine v_if (hT _ zt_X11_ground rfl _ _ rfl) (fun _ => ?_) (fun hc11 => absurd (show (0 : Int) = 0 from (by omega)) hc11)
      refine v_load (v := (2, 0)) (hT _ zt_X11_ground rfl _ _ rfl) rfl rfl ?_
      refine v_load (v := (2, 0)) (hT _ zt_X11_ground rfl _ _ rfl) rfl rfl ?_
      refine v_getf (v := (2, 24)) (r := 0) (hT _ zt_X11_ground rfl _ _ rfl) rfl rfl (fun _ => e7) ?_
      refine v_load (v := (0, ((y * 8) + x))) (hT _ zt_X11_ground rfl _ _ rfl) rfl rfl ?_
      refine v_call (w := 2) [some (2, 24), some (0, ((y * 8) + x))] hO (hT _ zt_X11_ground rfl _ _ rfl) rfl rfl ?_
      refine v_load (v := (2, 24)) (hT _ zt_X2_groundCost rfl _ _ rfl) rfl rfl ?_
      refine v_getR (c := 25) (r := 24) (hT _ zt_X2_groundCost rfl _ _ rfl) rfl rfl rfl ?_
      refine v_load (v := (0, ((y * 8) + x))) (hT _ zt_X2_groundCost rfl _ _ rfl) rfl rfl ?_
      refine v_ald (t := 0) (r := 25) (hT _ zt_X2_groundCost rfl _ _ rfl) rfl rfl rfl (fun ha12 hb13 => ?_)
      refine v_push (3) (hT _ zt_X2_groundCost rfl _ _ rfl) rfl ?_
      refine v_ic (hT _ zt_X2_groundCost rfl _ _ rfl) (fun hc14 => absurd (show (h 25 (((y * 8) + x)).toNat).2 = 3 from hc14) hc8) (fun _ => ?_)
      refine v_push (2) (hT _ zt_X2_groundCost rfl _ _ rfl) rfl ?_
      refine v_load (v := (2, 24)) (hT _ zt_X2_groundCost rfl _ _ rfl) rfl rfl ?_
      refine v_getR (c := 25) (r := 24) (hT _ zt_X2_groundCost rfl _ _ rfl) rfl rfl rfl ?_
      refine v_load (v := (0, ((y * 8) + x))) (hT _ zt_X2_groundCost rfl _ _ rfl) rfl rfl ?_
      refine v_ald (t := 0) (r := 25) (hT _ zt_X2_groundCost rfl _ _ rfl) rfl rfl rfl (fun ha15 hb16 => ?_)
      refine v_aldS (j := 2) (hT _ zt_X2_groundCost rfl _ _ rfl) rfl (fun ha17 hb18 => ?_)
      refine v_load (v := (2, 24)) (hT _ zt_X2_groundCost rfl _ _ rfl) rfl rfl ?_
      refine v_getR (c := 26) (r := 24) (hT _ zt_X2_groundCost rfl _ _ rfl) rfl rfl rfl ?_
      refine v_load (v := (0, ((y * 8) + x))) (hT _ zt_X2_groundCost rfl _ _ rfl) rfl rfl ?_
      refine v_ald (t := 0) (r := 26) (hT _ zt_X2_groundCost rfl _ _ rfl) rfl rfl rfl (fun ha19 hb20 => ?_)
      refine v_bin (w := ((zat D 2 ((h 25 (((y * 8) + x)).toNat).2).toNat) + (h 26 (((y * 8) + x)).toNat).2)) (hT _ zt_X2_groundCost rfl _ _ rfl) (hq_add (by omega) (by omega)) ?_
      refine v_ret (hT _ zt_X2_groundCost rfl _ _ rfl) (Or.inl rfl) ?_
      show vP D T N 156 102 h [some (2, 0), some (0, x), some (0, y), some (0, w), some (0, ((y * 8) + x))] [(0, ((zat D 2 ((h 25 (((y * 8) + x)).toNat).2).toNat) + (h 26 (((y * 8) + x)).toNat).2)), (2, 0)] _
      refine v_call (w := 2) [some (2, 0), some (0, ((zat D 2 ((h 25 (((y * 8) + x)).toNat).2).toNat) + (h 26 (((y * 8) + x)).toNat).2))] hO (hT _ zt_X11_ground rfl _ _ rfl) rfl rfl ?_
      refine v_load (v := (2, 0)) (hT _ zt_X11_answer rfl _ _ rfl) rfl rfl ?_
      refine v_push (0) (hT _ zt_X11_answer rfl _ _ rfl) rfl ?_
      refine v_putf (r := 0) hO (hT _ zt_X11_answer rfl _ _ rfl) rfl (fun hf21 => ?_)
      refine v_load (v := (0, ((zat D 2 ((h 25 (((y * 8) + x)).toNat).2).toNat) + (h 26 (((y * 8) + x)).toNat).2))) (hT _ zt_X11_answer rfl _ _ rfl) rfl rfl ?_
      refine v_ret (hT _ zt_X11_answer rfl _ _ rfl) (Or.inl rfl) ?_
      show vP D T N 156 105 (zset h 0 0 (0, 0)) [some (2, 0), some (0, x), some (0, y), some (0, w), some (0, ((y * 8) + x))] [(0, ((zat D 2 ((h 25 (((y * 8) + x)).toNat).2).toNat) + (h 26 (((y * 8) + x)).toNat).2))] _
      refine v_ret (hT _ zt_X11_ground rfl _ _ rfl) (Or.inl rfl) ?_
      exact k2 hc1 hc5 ha6 hb7 hc8 ha17 hb18
  refine ⟨fun hc22 => ?_, fun hc22 => ?_⟩
  · have hc22 : w = 2 := hc22
    refine v_load (v := (2, 0)) (hT _ zt_X11_ground rfl _ _ rfl) rfl rfl ?_
    refine v_load (v := (2, 0)) (hT _ zt_X11_ground rfl _ _ rfl) rfl rfl ?_
    refine v_getf (v := (2, 24)) (r := 0) (hT _ zt_X11_ground rfl _ _ rfl) rfl rfl (fun _ => e7) ?_
    refine v_getR (c := 26) (r := 24) (hT _ zt_X11_ground rfl _ _ rfl) rfl rfl rfl ?_
    refine v_load (v := (0, ((y * 8) + x))) (hT _ zt_X11_ground rfl _ _ rfl) rfl rfl ?_
    refine v_ald (t := 0) (r := 26) (hT _ zt_X11_ground rfl _ _ rfl) rfl rfl rfl (fun ha23 hb24 => ?_)
    refine v_call (w := 2) [some (2, 0), some (0, (h 26 (((y * 8) + x)).toNat).2)] hO (hT _ zt_X11_ground rfl _ _ rfl) rfl rfl ?_
    refine v_load (v := (2, 0)) (hT _ zt_X11_answer rfl _ _ rfl) rfl rfl ?_
    refine v_push (0) (hT _ zt_X11_answer rfl _ _ rfl) rfl ?_
    refine v_putf (r := 0) hO (hT _ zt_X11_answer rfl _ _ rfl) rfl (fun hf25 => ?_)
    refine v_load (v := (0, (h 26 (((y * 8) + x)).toNat).2)) (hT _ zt_X11_answer rfl _ _ rfl) rfl rfl ?_
    refine v_ret (hT _ zt_X11_answer rfl _ _ rfl) (Or.inl rfl) ?_
    show vP D T N 156 120 (zset h 0 0 (0, 0)) [some (2, 0), some (0, x), some (0, y), some (0, w), some (0, ((y * 8) + x))] [(0, (h 26 (((y * 8) + x)).toNat).2)] _
    refine v_ret (hT _ zt_X11_ground rfl _ _ rfl) (Or.inl rfl) ?_
    exact k3 hc1 hc5 hc22 ha23 hb24
  refine ⟨fun hc26 => ?_, fun hc26 => ?_⟩
  · have hc26 : w = 3 := hc26
    refine v_load (v := (2, 0)) (hT _ zt_X11_ground rfl _ _ rfl) rfl rfl ?_
    refine v_load (v := (2, 0)) (hT _ zt_X11_ground rfl _ _ rfl) rfl rfl ?_
    refine v_getf (v := (2, 24)) (r := 0) (hT _ zt_X11_ground rfl _ _ rfl) rfl rfl (fun _ => e7) ?_
    refine v_load (v := (0, ((y * 8) + x))) (hT _ zt_X11_ground rfl _ _ rfl) rfl rfl ?_
    refine v_call (w := 2) [some (2, 24), some (0, ((y * 8) + x))] hO (hT _ zt_X11_ground rfl _ _ rfl) rfl rfl ?_
    refine v_push (2) (hT _ zt_X2_crumbsOf rfl _ _ rfl) rfl ?_
    refine v_load (v := (2, 24)) (hT _ zt_X2_crumbsOf rfl _ _ rfl) rfl rfl ?_
    refine v_getR (c := 25) (r := 24) (hT _ zt_X2_crumbsOf rfl _ _ rfl) rfl rfl rfl ?_
    refine v_load (v := (0, ((y * 8) + x))) (hT _ zt_X2_crumbsOf rfl _ _ rfl) rfl rfl ?_
    refine v_ald (t := 0) (r := 25) (hT _ zt_X2_crumbsOf rfl _ _ rfl) rfl rfl rfl (fun ha27 hb28 => ?_)
    refine v_aldS (j := 2) (hT _ zt_X2_crumbsOf rfl _ _ rfl) rfl (fun ha29 hb30 => ?_)
    refine v_load (v := (2, 24)) (hT _ zt_X2_crumbsOf rfl _ _ rfl) rfl rfl ?_
    refine v_getR (c := 26) (r := 24) (hT _ zt_X2_crumbsOf rfl _ _ rfl) rfl rfl rfl ?_
    refine v_load (v := (0, ((y * 8) + x))) (hT _ zt_X2_crumbsOf rfl _ _ rfl) rfl rfl ?_
    refine v_ald (t := 0) (r := 26) (hT _ zt_X2_crumbsOf rfl _ _ rfl) rfl rfl rfl (fun ha31 hb32 => ?_)
    refine v_bin (w := ((zat D 2 ((h 25 (((y * 8) + x)).toNat).2).toNat) + (h 26 (((y * 8) + x)).toNat).2)) (hT _ zt_X2_crumbsOf rfl _ _ rfl) (hq_add (by omega) (by omega)) ?_
    refine v_ret (hT _ zt_X2_crumbsOf rfl _ _ rfl) (Or.inl rfl) ?_
    show vP D T N 156 131 h [some (2, 0), some (0, x), some (0, y), some (0, w), some (0, ((y * 8) + x))] [(0, ((zat D 2 ((h 25 (((y * 8) + x)).toNat).2).toNat) + (h 26 (((y * 8) + x)).toNat).2)), (2, 0)] _
    refine v_call (w := 2) [some (2, 0), some (0, ((zat D 2 ((h 25 (((y * 8) + x)).toNat).2).toNat) + (h 26 (((y * 8) + x)).toNat).2))] hO (hT _ zt_X11_ground rfl _ _ rfl) rfl rfl ?_
    refine v_load (v := (2, 0)) (hT _ zt_X11_answer rfl _ _ rfl) rfl rfl ?_
    refine v_push (0) (hT _ zt_X11_answer rfl _ _ rfl) rfl ?_
    refine v_putf (r := 0) hO (hT _ zt_X11_answer rfl _ _ rfl) rfl (fun hf33 => ?_)
    refine v_load (v := (0, ((zat D 2 ((h 25 (((y * 8) + x)).toNat).2).toNat) + (h 26 (((y * 8) + x)).toNat).2))) (hT _ zt_X11_answer rfl _ _ rfl) rfl rfl ?_
    refine v_ret (hT _ zt_X11_answer rfl _ _ rfl) (Or.inl rfl) ?_
    show vP D T N 156 134 (zset h 0 0 (0, 0)) [some (2, 0), some (0, x), some (0, y), some (0, w), some (0, ((y * 8) + x))] [(0, ((zat D 2 ((h 25 (((y * 8) + x)).toNat).2).toNat) + (h 26 (((y * 8) + x)).toNat).2))] _
    refine v_ret (hT _ zt_X11_ground rfl _ _ rfl) (Or.inl rfl) ?_
    exact k4 hc1 hc5 hc22 hc26 ha27 hb28 ha29 hb30
  show vP _ _ _ _ _ _ _ _ _
  refine v_load (v := (2, 0)) (hT _ zt_X11_ground rfl _ _ rfl) rfl rfl ?_
  refine v_push (5) (hT _ zt_X11_ground rfl _ _ rfl) rfl ?_
  refine v_call (w := 2) [some (2, 0), some (0, 5)] hO (hT _ zt_X11_ground rfl _ _ rfl) rfl rfl ?_
  refine v_load (v := (2, 0)) (hT _ zt_X11_refused rfl _ _ rfl) rfl rfl ?_
  refine v_load (v := (0, 5)) (hT _ zt_X11_refused rfl _ _ rfl) rfl rfl ?_
  refine v_putf (r := 0) hO (hT _ zt_X11_refused rfl _ _ rfl) rfl (fun hf34 => ?_)
  refine v_push (-1) (hT _ zt_X11_refused rfl _ _ rfl) rfl ?_
  refine v_ret (hT _ zt_X11_refused rfl _ _ rfl) (Or.inl rfl) ?_
  show vP D T N 156 140 (zset h 0 0 (0, 5)) [some (2, 0), some (0, x), some (0, y), some (0, w), some (0, ((y * 8) + x))] [(0, -1)] _
  refine v_ret (hT _ zt_X11_ground rfl _ _ rfl) (Or.inl rfl) ?_
  exact k5 hc1 hc5 hc22 hc26
theorem qc_grd0_39 {D : zD} {T : zT} (hT : hTab T) (hO : vOK T) {N : Nat} {h : zH} {Q : zR → Prop} {P : PT} (x y w : Int) (hv0 : zHv h) (e7 : h 0 7 = (2, 39)) (g0 : h 39 0 = (0, P 0 0)) (g1 : h 39 1 = (0, P 0 1)) (g2 : h 39 2 = (0, P 0 2)) (g3 : h 39 3 = (0, P 0 3)) (lb : (0 ≤ P 0 0 ∧ P 0 0 ≤ 8) ∧ (0 ≤ P 0 1 ∧ P 0 1 ≤ 6) ∧ (0 ≤ P 0 2 ∧ P 0 2 ≤ 3) ∧ (0 ≤ P 0 3 ∧ P 0 3 ≤ 6))
    (k0 : (x < 0) → Q (zset h 0 0 (0, 2), some (0, -1)))
    (k1 : (0 ≤ x) → (x < (P 0 0)) → (y < 0) → Q (zset h 0 0 (0, 2), some (0, -1)))
    (k2 : (0 ≤ x) → (x < (P 0 0)) → (0 ≤ y) → (y < (P 0 1)) → vP D T N 156 18 h [some (2, 0), some (0, x), some (0, y), some (0, w), none] [] Q)
    (k3 : (0 ≤ x) → (x < (P 0 0)) → (0 ≤ y) → ((P 0 1) ≤ y) → Q (zset h 0 0 (0, 2), some (0, -1)))
    (k4 : (0 ≤ x) → ((P 0 0) ≤ x) → Q (zset h 0 0 (0, 2), some (0, -1))) :
    vP D T N 156 0 h [some (2, 0), some (0, x), some (0, y), some (0, w), none] [] Q := by
  refine v_load (v := (2, 0)) (hT _ zt_X11_ground rfl _ _ rfl) rfl rfl ?_
  refine v_getf (v := (2, 39)) (r := 0) (hT _ zt_X11_ground rfl _ _ rfl) rfl rfl (fun _ => e7) ?_
  refine v_load (v := (0, x)) (hT _ zt_X11_ground rfl _ _ rfl) rfl rfl ?_
  refine v_load (v := (0, y)) (hT _ zt_X11_ground rfl _ _ rfl) rfl rfl ?_
  refine v_call (w := 3) [some (2, 39), some (0, x), some (0, y)] hO (hT _ zt_X11_ground rfl _ _ rfl) rfl rfl ?_
  refine v_load (v := (0, x)) (hT _ zt_X2_hasCell rfl _ _ rfl) rfl rfl ?_
  refine v_if (hT _ zt_X2_hasCell rfl _ _ rfl) (fun hc1 => ?_) (fun hc1 => ?_)
  · have hc1 : x < 0 := hc1
    refine v_push (0) (hT _ zt_X2_hasCell rfl _ _ rfl) rfl ?_
    refine v_ret (hT _ zt_X2_hasCell rfl _ _ rfl) (Or.inl rfl) ?_
    show vP D T N 156 9 h [some (2, 0), some (0, x), some (0, y), some (0, w), none] [(0, 0)] _
    refine v_if (hT _ zt_X11_ground rfl _ _ rfl) (fun _ => ?_) (fun hc2 => absurd (show (0 : Int) = 0 from (by omega)) hc2)
    refine v_load (v := (2, 0)) (hT _ zt_X11_ground rfl _ _ rfl) rfl rfl ?_
    refine v_push (2) (hT _ zt_X11_ground rfl _ _ rfl) rfl ?_
    refine v_call (w := 2) [some (2, 0), some (0, 2)] hO (hT _ zt_X11_ground rfl _ _ rfl) rfl rfl ?_
    refine v_load (v := (2, 0)) (hT _ zt_X11_refused rfl _ _ rfl) rfl rfl ?_
    refine v_load (v := (0, 2)) (hT _ zt_X11_refused rfl _ _ rfl) rfl rfl ?_
    refine v_putf (r := 0) hO (hT _ zt_X11_refused rfl _ _ rfl) rfl (fun hf3 => ?_)
    refine v_push (-1) (hT _ zt_X11_refused rfl _ _ rfl) rfl ?_
    refine v_ret (hT _ zt_X11_refused rfl _ _ rfl) (Or.inl rfl) ?_
    show vP D T N 156 17 (zset h 0 0 (0, 2)) [some (2, 0), some (0, x), some (0, y), some (0, w), none] [(0, -1)] _
    refine v_ret (hT _ zt_X11_ground rfl _ _ rfl) (Or.inl rfl) ?_
    exact k0 hc1
  · have hc1 : 0 ≤ x := Int.not_lt.mp hc1
    refine v_load (v := (0, x)) (hT _ zt_X2_hasCell rfl _ _ rfl) rfl rfl ?_
    refine v_load (v := (2, 39)) (hT _ zt_X2_hasCell rfl _ _ rfl) rfl rfl ?_
    refine v_getf (v := (0, (P 0 0))) (r := 39) (hT _ zt_X2_hasCell rfl _ _ rfl) rfl rfl (fun _ => g0) ?_
    refine v_ic (hT _ zt_X2_hasCell rfl _ _ rfl) (fun hc4 => ?_) (fun hc4 => ?_)
    · have hc4 : x < (P 0 0) := hc4
      refine v_load (v := (0, y)) (hT _ zt_X2_hasCell rfl _ _ rfl) rfl rfl ?_
      refine v_if (hT _ zt_X2_hasCell rfl _ _ rfl) (fun hc5 => ?_) (fun hc5 => ?_)
      · have hc5 : y < 0 := hc5
        refine v_push (0) (hT _ zt_X2_hasCell rfl _ _ rfl) rfl ?_
        refine v_ret (hT _ zt_X2_hasCell rfl _ _ rfl) (Or.inl rfl) ?_
        show vP D T N 156 9 h [some (2, 0), some (0, x), some (0, y), some (0, w), none] [(0, 0)] _
        refine v_if (hT _ zt_X11_ground rfl _ _ rfl) (fun _ => ?_) (fun hc6 => absurd (show (0 : Int) = 0 from (by omega)) hc6)
        refine v_load (v := (2, 0)) (hT _ zt_X11_ground rfl _ _ rfl) rfl rfl ?_
        refine v_push (2) (hT _ zt_X11_ground rfl _ _ rfl) rfl ?_
        refine v_call (w := 2) [some (2, 0), some (0, 2)] hO (hT _ zt_X11_ground rfl _ _ rfl) rfl rfl ?_
        refine v_load (v := (2, 0)) (hT _ zt_X11_refused rfl _ _ rfl) rfl rfl ?_
        refine v_load (v := (0, 2)) (hT _ zt_X11_refused rfl _ _ rfl) rfl rfl ?_
        refine v_putf (r := 0) hO (hT _ zt_X11_refused rfl _ _ rfl) rfl (fun hf7 => ?_)
        refine v_push (-1) (hT _ zt_X11_refused rfl _ _ rfl) rfl ?_
        refine v_ret (hT _ zt_X11_refused rfl _ _ rfl) (Or.inl rfl) ?_
        show vP D T N 156 17 (zset h 0 0 (0, 2)) [some (2, 0), some (0, x), some (0, y), some (0, w), none] [(0, -1)] _
        refine v_ret (hT _ zt_X11_ground rfl _ _ rfl) (Or.inl rfl) ?_
        exact k1 hc1 hc4 hc5
      · have hc5 : 0 ≤ y := Int.not_lt.mp hc5
        refine v_load (v := (0, y)) (hT _ zt_X2_hasCell rfl _ _ rfl) rfl rfl ?_
        refine v_load (v := (2, 39)) (hT _ zt_X2_hasCell rfl _ _ rfl) rfl rfl ?_
        refine v_getf (v := (0, (P 0 1))) (r := 39) (hT _ zt_X2_hasCell rfl _ _ rfl) rfl rfl (fun _ => g1) ?_
        refine v_ic (hT _ zt_X2_hasCell rfl _ _ rfl) (fun hc8 => ?_) (fun hc8 => ?_)
        · have hc8 : y < (P 0 1) := hc8
          refine v_push (1) (hT _ zt_X2_hasCell rfl _ _ rfl) rfl ?_
          refine v_goto (hT _ zt_X2_hasCell rfl _ _ rfl) ?_
          refine v_ret (hT _ zt_X2_hasCell rfl _ _ rfl) (Or.inl rfl) ?_
          show vP D T N 156 9 h [some (2, 0), some (0, x), some (0, y), some (0, w), none] [(0, 1)] _
          refine v_if (hT _ zt_X11_ground rfl _ _ rfl) (fun hc9 => absurd (show (1 : Int) = 0 from hc9) (by omega)) (fun _ => ?_)
          exact k2 hc1 hc4 hc5 hc8
        · have hc8 : (P 0 1) ≤ y := Int.not_lt.mp hc8
          refine v_push (0) (hT _ zt_X2_hasCell rfl _ _ rfl) rfl ?_
          refine v_ret (hT _ zt_X2_hasCell rfl _ _ rfl) (Or.inl rfl) ?_
          show vP D T N 156 9 h [some (2, 0), some (0, x), some (0, y), some (0, w), none] [(0, 0)] _
          refine v_if (hT _ zt_X11_ground rfl _ _ rfl) (fun _ => ?_) (fun hc10 => absurd (show (0 : Int) = 0 from (by omega)) hc10)
          refine v_load (v := (2, 0)) (hT _ zt_X11_ground rfl _ _ rfl) rfl rfl ?_
          refine v_push (2) (hT _ zt_X11_ground rfl _ _ rfl) rfl ?_
          refine v_call (w := 2) [some (2, 0), some (0, 2)] hO (hT _ zt_X11_ground rfl _ _ rfl) rfl rfl ?_
          refine v_load (v := (2, 0)) (hT _ zt_X11_refused rfl _ _ rfl) rfl rfl ?_
          refine v_load (v := (0, 2)) (hT _ zt_X11_refused rfl _ _ rfl) rfl rfl ?_
          refine v_putf (r := 0) hO (hT _ zt_X11_refused rfl _ _ rfl) rfl (fun hf11 => ?_)
          refine v_push (-1) (hT _ zt_X11_refused rfl _ _ rfl) rfl ?_
          refine v_ret (hT _ zt_X11_refused rfl _ _ rfl) (Or.inl rfl) ?_
          show vP D T N 156 17 (zset h 0 0 (0, 2)) [some (2, 0), some (0, x), some (0, y), some (0, w), none] [(0, -1)] _
          refine v_ret (hT _ zt_X11_ground rfl _ _ rfl) (Or.inl rfl) ?_
          exact k3 hc1 hc4 hc5 hc8
    · have hc4 : (P 0 0) ≤ x := Int.not_lt.mp hc4
      refine v_push (0) (hT _ zt_X2_hasCell rfl _ _ rfl) rfl ?_
      refine v_ret (hT _ zt_X2_hasCell rfl _ _ rfl) (Or.inl rfl) ?_
      show vP D T N 156 9 h [some (2, 0), some (0, x), some (0, y), some (0, w), none] [(0, 0)] _
      refine v_if (hT _ zt_X11_ground rfl _ _ rfl) (fun _ => ?_) (fun hc12 => absurd (show (0 : Int) = 0 from (by omega)) hc12)
      refine v_load (v := (2, 0)) (hT _ zt_X11_ground rfl _ _ rfl) rfl rfl ?_
      refine v_push (2) (hT _ zt_X11_ground rfl _ _ rfl) rfl ?_
      refine v_call (w := 2) [some (2, 0), some (0, 2)] hO (hT _ zt_X11_ground rfl _ _ rfl) rfl rfl ?_
      refine v_load (v := (2, 0)) (hT _ zt_X11_refused rfl _ _ rfl) rfl rfl ?_
      refine v_load (v := (0, 2)) (hT _ zt_X11_refused rfl _ _ rfl) rfl rfl ?_
      refine v_putf (r := 0) hO (hT _ zt_X11_refused rfl _ _ rfl) rfl (fun hf13 => ?_)
      refine v_push (-1) (hT _ zt_X11_refused rfl _ _ rfl) rfl ?_
      refine v_ret (hT _ zt_X11_refused rfl _ _ rfl) (Or.inl rfl) ?_
      show vP D T N 156 17 (zset h 0 0 (0, 2)) [some (2, 0), some (0, x), some (0, y), some (0, w), none] [(0, -1)] _
      refine v_ret (hT _ zt_X11_ground rfl _ _ rfl) (Or.inl rfl) ?_
      exact k4 hc1 hc4
theorem qc_grd1_39 {D : zD} {T : zT} (hT : hTab T) (hO : vOK T) {N : Nat} {h : zH} {Q : zR → Prop} (x y w : Int) (hv0 : zHv h) (e7 : h 0 7 = (2, 39)) (bx : 0 ≤ x ∧ x ≤ 7) (by_ : 0 ≤ y ∧ y ≤ 5) (bz : 0 ≤ zat D 2 ((h 40 (((y * 8) + x)).toNat).2).toNat ∧ zat D 2 ((h 40 (((y * 8) + x)).toNat).2).toNat ≤ 5) (br : 0 ≤ (h 41 (((y * 8) + x)).toNat).2 ∧ (h 41 (((y * 8) + x)).toNat).2 ≤ 9)
    (k0 : (w = 0) → (0 ≤ ((y * 8) + x)) → (((y * 8) + x) < 48) → Q (zset h 0 0 (0, 0), some (0, (h 40 (((y * 8) + x)).toNat).2)))
    (k1 : (w ≠ 0) → (w = 1) → (0 ≤ ((y * 8) + x)) → (((y * 8) + x) < 48) → ((h 40 (((y * 8) + x)).toNat).2 = 3) → Q (zset h 0 0 (0, 8), some (0, -1)))
    (k2 : (w ≠ 0) → (w = 1) → (0 ≤ ((y * 8) + x)) → (((y * 8) + x) < 48) → ((h 40 (((y * 8) + x)).toNat).2 ≠ 3) → (0 ≤ (h 40 (((y * 8) + x)).toNat).2) → ((h 40 (((y * 8) + x)).toNat).2 < (zlen D 2 : Int)) → Q (zset h 0 0 (0, 0), some (0, ((zat D 2 ((h 40 (((y * 8) + x)).toNat).2).toNat) + (h 41 (((y * 8) + x)).toNat).2))))
    (k3 : (w ≠ 0) → (w ≠ 1) → (w = 2) → (0 ≤ ((y * 8) + x)) → (((y * 8) + x) < 48) → Q (zset h 0 0 (0, 0), some (0, (h 41 (((y * 8) + x)).toNat).2)))
    (k4 : (w ≠ 0) → (w ≠ 1) → (w ≠ 2) → (w = 3) → (0 ≤ ((y * 8) + x)) → (((y * 8) + x) < 48) → (0 ≤ (h 40 (((y * 8) + x)).toNat).2) → ((h 40 (((y * 8) + x)).toNat).2 < (zlen D 2 : Int)) → Q (zset h 0 0 (0, 0), some (0, ((zat D 2 ((h 40 (((y * 8) + x)).toNat).2).toNat) + (h 41 (((y * 8) + x)).toNat).2))))
    (k5 : (w ≠ 0) → (w ≠ 1) → (w ≠ 2) → (w ≠ 3) → Q (zset h 0 0 (0, 5), some (0, -1))) :
    vP D T N 156 18 h [some (2, 0), some (0, x), some (0, y), some (0, w), none] [] Q := by
  refine v_load (v := (0, x)) (hT _ zt_X11_ground rfl _ _ rfl) rfl rfl ?_
  refine v_load (v := (0, y)) (hT _ zt_X11_ground rfl _ _ rfl) rfl rfl ?_
  refine v_call (w := 2) [some (0, x), some (0, y)] hO (hT _ zt_X11_ground rfl _ _ rfl) rfl rfl ?_
  refine v_load (v := (0, y)) (hT _ zt_X2_cellAt rfl _ _ rfl) rfl rfl ?_
  refine v_push (8) (hT _ zt_X2_cellAt rfl _ _ rfl) rfl ?_
  refine v_bin (w := (y * 8)) (hT _ zt_X2_cellAt rfl _ _ rfl) (hq_mul (by omega) (by omega)) ?_
  refine v_load (v := (0, x)) (hT _ zt_X2_cellAt rfl _ _ rfl) rfl rfl ?_
  refine v_bin (w := ((y * 8) + x)) (hT _ zt_X2_cellAt rfl _ _ rfl) (hq_add (by omega) (by omega)) ?_
  refine v_ret (hT _ zt_X2_cellAt rfl _ _ rfl) (Or.inl rfl) ?_
  show vP D T N 156 23 h [some (2, 0), some (0, x), some (0, y), some (0, w), none] [(0, ((y * 8) + x))] _
  refine v_store1 [some (2, 0), some (0, x), some (0, y), some (0, w), some (0, ((y * 8) + x))] (hT _ zt_X11_ground rfl _ _ rfl) ⟨rfl, Nat.ne_of_beq_eq_false rfl⟩ (Nat.le_of_ble_eq_true rfl) rfl ?_
  refine v_load (v := (0, w)) (hT _ zt_X11_ground rfl _ _ rfl) rfl rfl ?_
  refine v_sw (hT _ zt_X11_ground rfl _ _ rfl) ?_
  refine ⟨fun hc1 => ?_, fun hc1 => ?_⟩
  · have hc1 : w = 0 := hc1
    refine v_load (v := (2, 0)) (hT _ zt_X11_ground rfl _ _ rfl) rfl rfl ?_
    refine v_load (v := (2, 0)) (hT _ zt_X11_ground rfl _ _ rfl) rfl rfl ?_
    refine v_getf (v := (2, 39)) (r := 0) (hT _ zt_X11_ground rfl _ _ rfl) rfl rfl (fun _ => e7) ?_
    refine v_getR (c := 40) (r := 39) (hT _ zt_X11_ground rfl _ _ rfl) rfl rfl rfl ?_
    refine v_load (v := (0, ((y * 8) + x))) (hT _ zt_X11_ground rfl _ _ rfl) rfl rfl ?_
    refine v_ald (t := 0) (r := 40) (hT _ zt_X11_ground rfl _ _ rfl) rfl rfl rfl (fun ha2 hb3 => ?_)
    refine v_call (w := 2) [some (2, 0), some (0, (h 40 (((y * 8) + x)).toNat).2)] hO (hT _ zt_X11_ground rfl _ _ rfl) rfl rfl ?_
    refine v_load (v := (2, 0)) (hT _ zt_X11_answer rfl _ _ rfl) rfl rfl ?_
    refine v_push (0) (hT _ zt_X11_answer rfl _ _ rfl) rfl ?_
    refine v_putf (r := 0) hO (hT _ zt_X11_answer rfl _ _ rfl) rfl (fun hf4 => ?_)
    refine v_load (v := (0, (h 40 (((y * 8) + x)).toNat).2)) (hT _ zt_X11_answer rfl _ _ rfl) rfl rfl ?_
    refine v_ret (hT _ zt_X11_answer rfl _ _ rfl) (Or.inl rfl) ?_
    show vP D T N 156 70 (zset h 0 0 (0, 0)) [some (2, 0), some (0, x), some (0, y), some (0, w), some (0, ((y * 8) + x))] [(0, (h 40 (((y * 8) + x)).toNat).2)] _
    refine v_ret (hT _ zt_X11_ground rfl _ _ rfl) (Or.inl rfl) ?_
    exact k0 hc1 ha2 hb3
  refine ⟨fun hc5 => ?_, fun hc5 => ?_⟩
  · have hc5 : w = 1 := hc5
    refine v_load (v := (2, 0)) (hT _ zt_X11_ground rfl _ _ rfl) rfl rfl ?_
    refine v_getf (v := (2, 39)) (r := 0) (hT _ zt_X11_ground rfl _ _ rfl) rfl rfl (fun _ => e7) ?_
    refine v_load (v := (0, ((y * 8) + x))) (hT _ zt_X11_ground rfl _ _ rfl) rfl rfl ?_
    refine v_call (w := 2) [some (2, 39), some (0, ((y * 8) + x))] hO (hT _ zt_X11_ground rfl _ _ rfl) rfl rfl ?_
    refine v_load (v := (2, 39)) (hT _ zt_X2_isWater rfl _ _ rfl) rfl rfl ?_
    refine v_getR (c := 40) (r := 39) (hT _ zt_X2_isWater rfl _ _ rfl) rfl rfl rfl ?_
    refine v_load (v := (0, ((y * 8) + x))) (hT _ zt_X2_isWater rfl _ _ rfl) rfl rfl ?_
    refine v_ald (t := 0) (r := 40) (hT _ zt_X2_isWater rfl _ _ rfl) rfl rfl rfl (fun ha6 hb7 => ?_)
    refine v_push (3) (hT _ zt_X2_isWater rfl _ _ rfl) rfl ?_
    refine v_ic (hT _ zt_X2_isWater rfl _ _ rfl) (fun hc8 => ?_) (fun hc8 => ?_)
    · have hc8 : (h 40 (((y * 8) + x)).toNat).2 = 3 := hc8
      refine v_push (1) (hT _ zt_X2_isWater rfl _ _ rfl) rfl ?_
      refine v_goto (hT _ zt_X2_isWater rfl _ _ rfl) ?_
      refine v_ret (hT _ zt_X2_isWater rfl _ _ rfl) (Or.inl rfl) ?_
      show vP D T N 156 80 h [some (2, 0), some (0, x), some (0, y), some (0, w), some (0, ((y * 8) + x))] [(0, 1)] _
      refine v_if (hT _ zt_X11_ground rfl _ _ rfl) (fun hc9 => absurd (show (1 : Int) = 0 from hc9) (by omega)) (fun _ => ?_)
      refine v_load (v := (2, 0)) (hT _ zt_X11_ground rfl _ _ rfl) rfl rfl ?_
      refine v_push (8) (hT _ zt_X11_ground rfl _ _ rfl) rfl ?_
      refine v_call (w := 2) [some (2, 0), some (0, 8)] hO (hT _ zt_X11_ground rfl _ _ rfl) rfl rfl ?_
      refine v_load (v := (2, 0)) (hT _ zt_X11_refused rfl _ _ rfl) rfl rfl ?_
      refine v_load (v := (0, 8)) (hT _ zt_X11_refused rfl _ _ rfl) rfl rfl ?_
      refine v_putf (r := 0) hO (hT _ zt_X11_refused rfl _ _ rfl) rfl (fun hf10 => ?_)
      refine v_push (-1) (hT _ zt_X11_refused rfl _ _ rfl) rfl ?_
      refine v_ret (hT _ zt_X11_refused rfl _ _ rfl) (Or.inl rfl) ?_
      show vP D T N 156 89 (zset h 0 0 (0, 8)) [some (2, 0), some (0, x), some (0, y), some (0, w), some (0, ((y * 8) + x))] [(0, -1)] _
      refine v_goto (hT _ zt_X11_ground rfl _ _ rfl) ?_
      refine v_ret (hT _ zt_X11_ground rfl _ _ rfl) (Or.inl rfl) ?_
      exact k1 hc1 hc5 ha6 hb7 hc8
    · have hc8 : (h 40 (((y * 8) + x)).toNat).2 ≠ 3 := hc8
      refine v_push (0) (hT _ zt_X2_isWater rfl _ _ rfl) rfl ?_
      refine v_ret (hT _ zt_X2_isWater rfl _ _ rfl) (Or.inl rfl) ?_
      show vP D T N 156 80 h [some (2, 0), some (0, x), some (0, y), some (0, w), some (0, ((y * 8) + x))] [(0, 0)] _
      refine v_if (hT _ zt_X11_ground rfl _ _ rfl) (fun _ => ?_) (fun hc11 => absurd (show (0 : Int) = 0 from (by omega)) hc11)
      refine v_load (v := (2, 0)) (hT _ zt_X11_ground rfl _ _ rfl) rfl rfl ?_
      refine v_load (v := (2, 0)) (hT _ zt_X11_ground rfl _ _ rfl) rfl rfl ?_
      refine v_getf (v := (2, 39)) (r := 0) (hT _ zt_X11_ground rfl _ _ rfl) rfl rfl (fun _ => e7) ?_
      refine v_load (v := (0, ((y * 8) + x))) (hT _ zt_X11_ground rfl _ _ rfl) rfl rfl ?_
      refine v_call (w := 2) [some (2, 39), some (0, ((y * 8) + x))] hO (hT _ zt_X11_ground rfl _ _ rfl) rfl rfl ?_
      refine v_load (v := (2, 39)) (hT _ zt_X2_groundCost rfl _ _ rfl) rfl rfl ?_
      refine v_getR (c := 40) (r := 39) (hT _ zt_X2_groundCost rfl _ _ rfl) rfl rfl rfl ?_
      refine v_load (v := (0, ((y * 8) + x))) (hT _ zt_X2_groundCost rfl _ _ rfl) rfl rfl ?_
      refine v_ald (t := 0) (r := 40) (hT _ zt_X2_groundCost rfl _ _ rfl) rfl rfl rfl (fun ha12 hb13 => ?_)
      refine v_push (3) (hT _ zt_X2_groundCost rfl _ _ rfl) rfl ?_
      refine v_ic (hT _ zt_X2_groundCost rfl _ _ rfl) (fun hc14 => absurd (show (h 40 (((y * 8) + x)).toNat).2 = 3 from hc14) hc8) (fun _ => ?_)
      refine v_push (2) (hT _ zt_X2_groundCost rfl _ _ rfl) rfl ?_
      refine v_load (v := (2, 39)) (hT _ zt_X2_groundCost rfl _ _ rfl) rfl rfl ?_
      refine v_getR (c := 40) (r := 39) (hT _ zt_X2_groundCost rfl _ _ rfl) rfl rfl rfl ?_
      refine v_load (v := (0, ((y * 8) + x))) (hT _ zt_X2_groundCost rfl _ _ rfl) rfl rfl ?_
      refine v_ald (t := 0) (r := 40) (hT _ zt_X2_groundCost rfl _ _ rfl) rfl rfl rfl (fun ha15 hb16 => ?_)
      refine v_aldS (j := 2) (hT _ zt_X2_groundCost rfl _ _ rfl) rfl (fun ha17 hb18 => ?_)
      refine v_load (v := (2, 39)) (hT _ zt_X2_groundCost rfl _ _ rfl) rfl rfl ?_
      refine v_getR (c := 41) (r := 39) (hT _ zt_X2_groundCost rfl _ _ rfl) rfl rfl rfl ?_
      refine v_load (v := (0, ((y * 8) + x))) (hT _ zt_X2_groundCost rfl _ _ rfl) rfl rfl ?_
      refine v_ald (t := 0) (r := 41) (hT _ zt_X2_groundCost rfl _ _ rfl) rfl rfl rfl (fun ha19 hb20 => ?_)
      refine v_bin (w := ((zat D 2 ((h 40 (((y * 8) + x)).toNat).2).toNat) + (h 41 (((y * 8) + x)).toNat).2)) (hT _ zt_X2_groundCost rfl _ _ rfl) (hq_add (by omega) (by omega)) ?_
      refine v_ret (hT _ zt_X2_groundCost rfl _ _ rfl) (Or.inl rfl) ?_
      show vP D T N 156 102 h [some (2, 0), some (0, x), some (0, y), some (0, w), some (0, ((y * 8) + x))] [(0, ((zat D 2 ((h 40 (((y * 8) + x)).toNat).2).toNat) + (h 41 (((y * 8) + x)).toNat).2)), (2, 0)] _
      refine v_call (w := 2) [some (2, 0), some (0, ((zat D 2 ((h 40 (((y * 8) + x)).toNat).2).toNat) + (h 41 (((y * 8) + x)).toNat).2))] hO (hT _ zt_X11_ground rfl _ _ rfl) rfl rfl ?_
      refine v_load (v := (2, 0)) (hT _ zt_X11_answer rfl _ _ rfl) rfl rfl ?_
      refine v_push (0) (hT _ zt_X11_answer rfl _ _ rfl) rfl ?_
      refine v_putf (r := 0) hO (hT _ zt_X11_answer rfl _ _ rfl) rfl (fun hf21 => ?_)
      refine v_load (v := (0, ((zat D 2 ((h 40 (((y * 8) + x)).toNat).2).toNat) + (h 41 (((y * 8) + x)).toNat).2))) (hT _ zt_X11_answer rfl _ _ rfl) rfl rfl ?_
      refine v_ret (hT _ zt_X11_answer rfl _ _ rfl) (Or.inl rfl) ?_
      show vP D T N 156 105 (zset h 0 0 (0, 0)) [some (2, 0), some (0, x), some (0, y), some (0, w), some (0, ((y * 8) + x))] [(0, ((zat D 2 ((h 40 (((y * 8) + x)).toNat).2).toNat) + (h 41 (((y * 8) + x)).toNat).2))] _
      refine v_ret (hT _ zt_X11_ground rfl _ _ rfl) (Or.inl rfl) ?_
      exact k2 hc1 hc5 ha6 hb7 hc8 ha17 hb18
  refine ⟨fun hc22 => ?_, fun hc22 => ?_⟩
  · have hc22 : w = 2 := hc22
    refine v_load (v := (2, 0)) (hT _ zt_X11_ground rfl _ _ rfl) rfl rfl ?_
    refine v_load (v := (2, 0)) (hT _ zt_X11_ground rfl _ _ rfl) rfl rfl ?_
    refine v_getf (v := (2, 39)) (r := 0) (hT _ zt_X11_ground rfl _ _ rfl) rfl rfl (fun _ => e7) ?_
    refine v_getR (c := 41) (r := 39) (hT _ zt_X11_ground rfl _ _ rfl) rfl rfl rfl ?_
    refine v_load (v := (0, ((y * 8) + x))) (hT _ zt_X11_ground rfl _ _ rfl) rfl rfl ?_
    refine v_ald (t := 0) (r := 41) (hT _ zt_X11_ground rfl _ _ rfl) rfl rfl rfl (fun ha23 hb24 => ?_)
    refine v_call (w := 2) [some (2, 0), some (0, (h 41 (((y * 8) + x)).toNat).2)] hO (hT _ zt_X11_ground rfl _ _ rfl) rfl rfl ?_
    refine v_load (v := (2, 0)) (hT _ zt_X11_answer rfl _ _ rfl) rfl rfl ?_
    refine v_push (0) (hT _ zt_X11_answer rfl _ _ rfl) rfl ?_
    refine v_putf (r := 0) hO (hT _ zt_X11_answer rfl _ _ rfl) rfl (fun hf25 => ?_)
    refine v_load (v := (0, (h 41 (((y * 8) + x)).toNat).2)) (hT _ zt_X11_answer rfl _ _ rfl) rfl rfl ?_
    refine v_ret (hT _ zt_X11_answer rfl _ _ rfl) (Or.inl rfl) ?_
    show vP D T N 156 120 (zset h 0 0 (0, 0)) [some (2, 0), some (0, x), some (0, y), some (0, w), some (0, ((y * 8) + x))] [(0, (h 41 (((y * 8) + x)).toNat).2)] _
    refine v_ret (hT _ zt_X11_ground rfl _ _ rfl) (Or.inl rfl) ?_
    exact k3 hc1 hc5 hc22 ha23 hb24
  refine ⟨fun hc26 => ?_, fun hc26 => ?_⟩
  · have hc26 : w = 3 := hc26
    refine v_load (v := (2, 0)) (hT _ zt_X11_ground rfl _ _ rfl) rfl rfl ?_
    refine v_load (v := (2, 0)) (hT _ zt_X11_ground rfl _ _ rfl) rfl rfl ?_
    refine v_getf (v := (2, 39)) (r := 0) (hT _ zt_X11_ground rfl _ _ rfl) rfl rfl (fun _ => e7) ?_
    refine v_load (v := (0, ((y * 8) + x))) (hT _ zt_X11_ground rfl _ _ rfl) rfl rfl ?_
    refine v_call (w := 2) [some (2, 39), some (0, ((y * 8) + x))] hO (hT _ zt_X11_ground rfl _ _ rfl) rfl rfl ?_
    refine v_push (2) (hT _ zt_X2_crumbsOf rfl _ _ rfl) rfl ?_
    refine v_load (v := (2, 39)) (hT _ zt_X2_crumbsOf rfl _ _ rfl) rfl rfl ?_
    refine v_getR (c := 40) (r := 39) (hT _ zt_X2_crumbsOf rfl _ _ rfl) rfl rfl rfl ?_
    refine v_load (v := (0, ((y * 8) + x))) (hT _ zt_X2_crumbsOf rfl _ _ rfl) rfl rfl ?_
    refine v_ald (t := 0) (r := 40) (hT _ zt_X2_crumbsOf rfl _ _ rfl) rfl rfl rfl (fun ha27 hb28 => ?_)
    refine v_aldS (j := 2) (hT _ zt_X2_crumbsOf rfl _ _ rfl) rfl (fun ha29 hb30 => ?_)
    refine v_load (v := (2, 39)) (hT _ zt_X2_crumbsOf rfl _ _ rfl) rfl rfl ?_
    refine v_getR (c := 41) (r := 39) (hT _ zt_X2_crumbsOf rfl _ _ rfl) rfl rfl rfl ?_
    refine v_load (v := (0, ((y * 8) + x))) (hT _ zt_X2_crumbsOf rfl _ _ rfl) rfl rfl ?_
    refine v_ald (t := 0) (r := 41) (hT _ zt_X2_crumbsOf rfl _ _ rfl) rfl rfl rfl (fun ha31 hb32 => ?_)
    refine v_bin (w := ((zat D 2 ((h 40 (((y * 8) + x)).toNat).2).toNat) + (h 41 (((y * 8) + x)).toNat).2)) (hT _ zt_X2_crumbsOf rfl _ _ rfl) (hq_add (by omega) (by omega)) ?_
    refine v_ret (hT _ zt_X2_crumbsOf rfl _ _ rfl) (Or.inl rfl) ?_
    show vP D T N 156 131 h [some (2, 0), some (0, x), some (0, y), some (0, w), some (0, ((y * 8) + x))] [(0, ((zat D 2 ((h 40 (((y * 8) + x)).toNat).2).toNat) + (h 41 (((y * 8) + x)).toNat).2)), (2, 0)] _
    refine v_call (w := 2) [some (2, 0), some (0, ((zat D 2 ((h 40 (((y * 8) + x)).toNat).2).toNat) + (h 41 (((y * 8) + x)).toNat).2))] hO (hT _ zt_X11_ground rfl _ _ rfl) rfl rfl ?_
    refine v_load (v := (2, 0)) (hT _ zt_X11_answer rfl _ _ rfl) rfl rfl ?_
    refine v_push (0) (hT _ zt_X11_answer rfl _ _ rfl) rfl ?_
    refine v_putf (r := 0) hO (hT _ zt_X11_answer rfl _ _ rfl) rfl (fun hf33 => ?_)
    refine v_load (v := (0, ((zat D 2 ((h 40 (((y * 8) + x)).toNat).2).toNat) + (h 41 (((y * 8) + x)).toNat).2))) (hT _ zt_X11_answer rfl _ _ rfl) rfl rfl ?_
    refine v_ret (hT _ zt_X11_answer rfl _ _ rfl) (Or.inl rfl) ?_
    show vP D T N 156 134 (zset h 0 0 (0, 0)) [some (2, 0), some (0, x), some (0, y), some (0, w), some (0, ((y * 8) + x))] [(0, ((zat D 2 ((h 40 (((y * 8) + x)).toNat).2).toNat) + (h 41 (((y * 8) + x)).toNat).2))] _
    refine v_ret (hT _ zt_X11_ground rfl _ _ rfl) (Or.inl rfl) ?_
    exact k4 hc1 hc5 hc22 hc26 ha27 hb28 ha29 hb30
  show vP _ _ _ _ _ _ _ _ _
  refine v_load (v := (2, 0)) (hT _ zt_X11_ground rfl _ _ rfl) rfl rfl ?_
  refine v_push (5) (hT _ zt_X11_ground rfl _ _ rfl) rfl ?_
  refine v_call (w := 2) [some (2, 0), some (0, 5)] hO (hT _ zt_X11_ground rfl _ _ rfl) rfl rfl ?_
  refine v_load (v := (2, 0)) (hT _ zt_X11_refused rfl _ _ rfl) rfl rfl ?_
  refine v_load (v := (0, 5)) (hT _ zt_X11_refused rfl _ _ rfl) rfl rfl ?_
  refine v_putf (r := 0) hO (hT _ zt_X11_refused rfl _ _ rfl) rfl (fun hf34 => ?_)
  refine v_push (-1) (hT _ zt_X11_refused rfl _ _ rfl) rfl ?_
  refine v_ret (hT _ zt_X11_refused rfl _ _ rfl) (Or.inl rfl) ?_
  show vP D T N 156 140 (zset h 0 0 (0, 5)) [some (2, 0), some (0, x), some (0, y), some (0, w), some (0, ((y * 8) + x))] [(0, -1)] _
  refine v_ret (hT _ zt_X11_ground rfl _ _ rfl) (Or.inl rfl) ?_
  exact k5 hc1 hc5 hc22 hc26
theorem qr_grd0 {D : zD} {T : zT} (hT : hTab T) (hO : vOK T) {N : Nat} {h : zH} {Q : zR → Prop} {P : PT} (x y w : Int) (hv0 : zHv h) (g0 : h 126 0 = (0, P 0 0)) (g1 : h 126 1 = (0, P 0 1)) (g2 : h 126 2 = (0, P 0 2)) (g3 : h 126 3 = (0, P 0 3)) (lb : (0 ≤ P 0 0 ∧ P 0 0 ≤ 8) ∧ (0 ≤ P 0 1 ∧ P 0 1 ≤ 6) ∧ (0 ≤ P 0 2 ∧ P 0 2 ≤ 3) ∧ (0 ≤ P 0 3 ∧ P 0 3 ≤ 6))
    (k0 : (x < 0) → Q (zset (zset (zset h 121 1 (0, 0)) 121 0 (0, 0)) 121 0 (0, 2), some (0, -1)))
    (k1 : (0 ≤ x) → (((P 0 0) - 1) < x) → Q (zset (zset (zset h 121 1 (0, 0)) 121 0 (0, 0)) 121 0 (0, 2), some (0, -1)))
    (k2 : (0 ≤ x) → (x ≤ ((P 0 0) - 1)) → (y < 0) → Q (zset (zset (zset h 121 1 (0, 0)) 121 0 (0, 0)) 121 0 (0, 2), some (0, -1)))
    (k3 : (0 ≤ x) → (x ≤ ((P 0 0) - 1)) → (0 ≤ y) → (((P 0 1) - 1) < y) → Q (zset (zset (zset h 121 1 (0, 0)) 121 0 (0, 0)) 121 0 (0, 2), some (0, -1)))
    (k4 : (0 ≤ x) → (x ≤ ((P 0 0) - 1)) → (0 ≤ y) → (y ≤ ((P 0 1) - 1)) → vP D T N 233 25 (zset (zset h 121 1 (0, 0)) 121 0 (0, 0)) [some (2, 121), some (0, x), some (0, y), some (0, w), none] [] Q) :
    vP D T N 233 0 h [some (2, 121), some (0, x), some (0, y), some (0, w), none] [] Q := by
  refine v_load (v := (2, 121)) (hT _ zt_X12_ground rfl _ _ rfl) rfl rfl ?_
  refine v_push (0) (hT _ zt_X12_ground rfl _ _ rfl) rfl ?_
  refine v_putf (r := 121) hO (hT _ zt_X12_ground rfl _ _ rfl) rfl (fun hf1 => ?_)
  refine v_load (v := (2, 121)) (hT _ zt_X12_ground rfl _ _ rfl) rfl rfl ?_
  refine v_push (0) (hT _ zt_X12_ground rfl _ _ rfl) rfl ?_
  refine v_putf (r := 121) hO (hT _ zt_X12_ground rfl _ _ rfl) rfl (fun hf2 => ?_)
  refine v_load (v := (2, 121)) (hT _ zt_X12_ground rfl _ _ rfl) rfl rfl ?_
  refine v_load (v := (0, x)) (hT _ zt_X12_ground rfl _ _ rfl) rfl rfl ?_
  refine v_load (v := (0, y)) (hT _ zt_X12_ground rfl _ _ rfl) rfl rfl ?_
  refine v_call (w := 3) [some (2, 121), some (0, x), some (0, y)] hO (hT _ zt_X12_ground rfl _ _ rfl) rfl rfl ?_
  refine v_load (v := (0, x)) (hT _ zt_X12_isCell rfl _ _ rfl) rfl rfl ?_
  refine v_i2l (hT _ zt_X12_isCell rfl _ _ rfl) ?_
  refine v_push (0) (hT _ zt_X12_isCell rfl _ _ rfl) rfl ?_
  refine v_load (v := (2, 121)) (hT _ zt_X12_isCell rfl _ _ rfl) rfl rfl ?_
  refine v_getR (c := 126) (r := 121) (hT _ zt_X12_isCell rfl _ _ rfl) rfl rfl rfl ?_
  refine v_push (0) (hT _ zt_X12_isCell rfl _ _ rfl) rfl ?_
  refine v_aldV (v := (0, (P 0 0))) (r := 126) (hT _ zt_X12_isCell rfl _ _ rfl) rfl rfl (fun _ _ _ => (Eq.trans (Eq.trans (zset_ne (fun c => absurd c.1 (by decide))) (zset_ne (fun c => absurd c.1 (by decide)))) (g0))) (fun ha3 hb4 => ?_)
  refine v_push (1) (hT _ zt_X12_isCell rfl _ _ rfl) rfl ?_
  refine v_bin (w := ((P 0 0) - 1)) (hT _ zt_X12_isCell rfl _ _ rfl) (hq_sub (by omega) (by omega)) ?_
  refine v_i2l (hT _ zt_X12_isCell rfl _ _ rfl) ?_
  refine v_call (w := 6) [some (1, x), none, some (1, 0), none, some (1, ((P 0 0) - 1)), none] hO (hT _ zt_X12_isCell rfl _ _ rfl) rfl rfl ?_
  refine v_load (v := (1, x)) (hT _ zt_X12_isIn rfl _ _ rfl) rfl rfl ?_
  refine v_load (v := (1, 0)) (hT _ zt_X12_isIn rfl _ _ rfl) rfl rfl ?_
  refine v_lif (hT _ zt_X12_isIn rfl _ _ rfl) (hT _ zt_X12_isIn rfl _ _ rfl) (fun hc5 => ?_) (fun hc5 => ?_)
  · have hc5 : x < 0 := hc5
    refine v_push (0) (hT _ zt_X12_isIn rfl _ _ rfl) rfl ?_
    refine v_ret (hT _ zt_X12_isIn rfl _ _ rfl) (Or.inl rfl) ?_
    show vP D T N 244 15 (zset (zset h 121 1 (0, 0)) 121 0 (0, 0)) [some (2, 121), some (0, x), some (0, y)] [(0, 0)] _
    refine v_if (hT _ zt_X12_isCell rfl _ _ rfl) (fun _ => ?_) (fun hc6 => absurd (show (0 : Int) = 0 from (by omega)) hc6)
    refine v_push (0) (hT _ zt_X12_isCell rfl _ _ rfl) rfl ?_
    refine v_ret (hT _ zt_X12_isCell rfl _ _ rfl) (Or.inl rfl) ?_
    show vP D T N 233 16 (zset (zset h 121 1 (0, 0)) 121 0 (0, 0)) [some (2, 121), some (0, x), some (0, y), some (0, w), none] [(0, 0)] _
    refine v_if (hT _ zt_X12_ground rfl _ _ rfl) (fun _ => ?_) (fun hc7 => absurd (show (0 : Int) = 0 from (by omega)) hc7)
    refine v_load (v := (2, 121)) (hT _ zt_X12_ground rfl _ _ rfl) rfl rfl ?_
    refine v_push (2) (hT _ zt_X12_ground rfl _ _ rfl) rfl ?_
    refine v_call (w := 2) [some (2, 121), some (0, 2)] hO (hT _ zt_X12_ground rfl _ _ rfl) rfl rfl ?_
    refine v_load (v := (2, 121)) (hT _ zt_X12_refuse rfl _ _ rfl) rfl rfl ?_
    refine v_load (v := (0, 2)) (hT _ zt_X12_refuse rfl _ _ rfl) rfl rfl ?_
    refine v_putf (r := 121) hO (hT _ zt_X12_refuse rfl _ _ rfl) rfl (fun hf8 => ?_)
    refine v_push (-1) (hT _ zt_X12_refuse rfl _ _ rfl) rfl ?_
    refine v_ret (hT _ zt_X12_refuse rfl _ _ rfl) (Or.inl rfl) ?_
    show vP D T N 233 24 (zset (zset (zset h 121 1 (0, 0)) 121 0 (0, 0)) 121 0 (0, 2)) [some (2, 121), some (0, x), some (0, y), some (0, w), none] [(0, -1)] _
    refine v_ret (hT _ zt_X12_ground rfl _ _ rfl) (Or.inl rfl) ?_
    exact k0 hc5
  · have hc5 : 0 ≤ x := Int.not_lt.mp hc5
    refine v_load (v := (1, x)) (hT _ zt_X12_isIn rfl _ _ rfl) rfl rfl ?_
    refine v_load (v := (1, ((P 0 0) - 1))) (hT _ zt_X12_isIn rfl _ _ rfl) rfl rfl ?_
    refine v_lif (hT _ zt_X12_isIn rfl _ _ rfl) (hT _ zt_X12_isIn rfl _ _ rfl) (fun hc9 => ?_) (fun hc9 => ?_)
    · have hc9 : ((P 0 0) - 1) < x := hc9
      refine v_push (0) (hT _ zt_X12_isIn rfl _ _ rfl) rfl ?_
      refine v_ret (hT _ zt_X12_isIn rfl _ _ rfl) (Or.inl rfl) ?_
      show vP D T N 244 15 (zset (zset h 121 1 (0, 0)) 121 0 (0, 0)) [some (2, 121), some (0, x), some (0, y)] [(0, 0)] _
      refine v_if (hT _ zt_X12_isCell rfl _ _ rfl) (fun _ => ?_) (fun hc10 => absurd (show (0 : Int) = 0 from (by omega)) hc10)
      refine v_push (0) (hT _ zt_X12_isCell rfl _ _ rfl) rfl ?_
      refine v_ret (hT _ zt_X12_isCell rfl _ _ rfl) (Or.inl rfl) ?_
      show vP D T N 233 16 (zset (zset h 121 1 (0, 0)) 121 0 (0, 0)) [some (2, 121), some (0, x), some (0, y), some (0, w), none] [(0, 0)] _
      refine v_if (hT _ zt_X12_ground rfl _ _ rfl) (fun _ => ?_) (fun hc11 => absurd (show (0 : Int) = 0 from (by omega)) hc11)
      refine v_load (v := (2, 121)) (hT _ zt_X12_ground rfl _ _ rfl) rfl rfl ?_
      refine v_push (2) (hT _ zt_X12_ground rfl _ _ rfl) rfl ?_
      refine v_call (w := 2) [some (2, 121), some (0, 2)] hO (hT _ zt_X12_ground rfl _ _ rfl) rfl rfl ?_
      refine v_load (v := (2, 121)) (hT _ zt_X12_refuse rfl _ _ rfl) rfl rfl ?_
      refine v_load (v := (0, 2)) (hT _ zt_X12_refuse rfl _ _ rfl) rfl rfl ?_
      refine v_putf (r := 121) hO (hT _ zt_X12_refuse rfl _ _ rfl) rfl (fun hf12 => ?_)
      refine v_push (-1) (hT _ zt_X12_refuse rfl _ _ rfl) rfl ?_
      refine v_ret (hT _ zt_X12_refuse rfl _ _ rfl) (Or.inl rfl) ?_
      show vP D T N 233 24 (zset (zset (zset h 121 1 (0, 0)) 121 0 (0, 0)) 121 0 (0, 2)) [some (2, 121), some (0, x), some (0, y), some (0, w), none] [(0, -1)] _
      refine v_ret (hT _ zt_X12_ground rfl _ _ rfl) (Or.inl rfl) ?_
      exact k1 hc5 hc9
    · have hc9 : x ≤ ((P 0 0) - 1) := Int.not_lt.mp hc9
      refine v_push (1) (hT _ zt_X12_isIn rfl _ _ rfl) rfl ?_
      refine v_goto (hT _ zt_X12_isIn rfl _ _ rfl) ?_
      refine v_ret (hT _ zt_X12_isIn rfl _ _ rfl) (Or.inl rfl) ?_
      show vP D T N 244 15 (zset (zset h 121 1 (0, 0)) 121 0 (0, 0)) [some (2, 121), some (0, x), some (0, y)] [(0, 1)] _
      refine v_if (hT _ zt_X12_isCell rfl _ _ rfl) (fun hc13 => absurd (show (1 : Int) = 0 from hc13) (by omega)) (fun _ => ?_)
      refine v_load (v := (0, y)) (hT _ zt_X12_isCell rfl _ _ rfl) rfl rfl ?_
      refine v_i2l (hT _ zt_X12_isCell rfl _ _ rfl) ?_
      refine v_push (0) (hT _ zt_X12_isCell rfl _ _ rfl) rfl ?_
      refine v_load (v := (2, 121)) (hT _ zt_X12_isCell rfl _ _ rfl) rfl rfl ?_
      refine v_getR (c := 126) (r := 121) (hT _ zt_X12_isCell rfl _ _ rfl) rfl rfl rfl ?_
      refine v_push (1) (hT _ zt_X12_isCell rfl _ _ rfl) rfl ?_
      refine v_aldV (v := (0, (P 0 1))) (r := 126) (hT _ zt_X12_isCell rfl _ _ rfl) rfl rfl (fun _ _ _ => (Eq.trans (Eq.trans (zset_ne (fun c => absurd c.1 (by decide))) (zset_ne (fun c => absurd c.1 (by decide)))) (g1))) (fun ha14 hb15 => ?_)
      refine v_push (1) (hT _ zt_X12_isCell rfl _ _ rfl) rfl ?_
      refine v_bin (w := ((P 0 1) - 1)) (hT _ zt_X12_isCell rfl _ _ rfl) (hq_sub (by omega) (by omega)) ?_
      refine v_i2l (hT _ zt_X12_isCell rfl _ _ rfl) ?_
      refine v_call (w := 6) [some (1, y), none, some (1, 0), none, some (1, ((P 0 1) - 1)), none] hO (hT _ zt_X12_isCell rfl _ _ rfl) rfl rfl ?_
      refine v_load (v := (1, y)) (hT _ zt_X12_isIn rfl _ _ rfl) rfl rfl ?_
      refine v_load (v := (1, 0)) (hT _ zt_X12_isIn rfl _ _ rfl) rfl rfl ?_
      refine v_lif (hT _ zt_X12_isIn rfl _ _ rfl) (hT _ zt_X12_isIn rfl _ _ rfl) (fun hc16 => ?_) (fun hc16 => ?_)
      · have hc16 : y < 0 := hc16
        refine v_push (0) (hT _ zt_X12_isIn rfl _ _ rfl) rfl ?_
        refine v_ret (hT _ zt_X12_isIn rfl _ _ rfl) (Or.inl rfl) ?_
        show vP D T N 244 33 (zset (zset h 121 1 (0, 0)) 121 0 (0, 0)) [some (2, 121), some (0, x), some (0, y)] [(0, 0)] _
        refine v_if (hT _ zt_X12_isCell rfl _ _ rfl) (fun _ => ?_) (fun hc17 => absurd (show (0 : Int) = 0 from (by omega)) hc17)
        refine v_push (0) (hT _ zt_X12_isCell rfl _ _ rfl) rfl ?_
        refine v_ret (hT _ zt_X12_isCell rfl _ _ rfl) (Or.inl rfl) ?_
        show vP D T N 233 16 (zset (zset h 121 1 (0, 0)) 121 0 (0, 0)) [some (2, 121), some (0, x), some (0, y), some (0, w), none] [(0, 0)] _
        refine v_if (hT _ zt_X12_ground rfl _ _ rfl) (fun _ => ?_) (fun hc18 => absurd (show (0 : Int) = 0 from (by omega)) hc18)
        refine v_load (v := (2, 121)) (hT _ zt_X12_ground rfl _ _ rfl) rfl rfl ?_
        refine v_push (2) (hT _ zt_X12_ground rfl _ _ rfl) rfl ?_
        refine v_call (w := 2) [some (2, 121), some (0, 2)] hO (hT _ zt_X12_ground rfl _ _ rfl) rfl rfl ?_
        refine v_load (v := (2, 121)) (hT _ zt_X12_refuse rfl _ _ rfl) rfl rfl ?_
        refine v_load (v := (0, 2)) (hT _ zt_X12_refuse rfl _ _ rfl) rfl rfl ?_
        refine v_putf (r := 121) hO (hT _ zt_X12_refuse rfl _ _ rfl) rfl (fun hf19 => ?_)
        refine v_push (-1) (hT _ zt_X12_refuse rfl _ _ rfl) rfl ?_
        refine v_ret (hT _ zt_X12_refuse rfl _ _ rfl) (Or.inl rfl) ?_
        show vP D T N 233 24 (zset (zset (zset h 121 1 (0, 0)) 121 0 (0, 0)) 121 0 (0, 2)) [some (2, 121), some (0, x), some (0, y), some (0, w), none] [(0, -1)] _
        refine v_ret (hT _ zt_X12_ground rfl _ _ rfl) (Or.inl rfl) ?_
        exact k2 hc5 hc9 hc16
      · have hc16 : 0 ≤ y := Int.not_lt.mp hc16
        refine v_load (v := (1, y)) (hT _ zt_X12_isIn rfl _ _ rfl) rfl rfl ?_
        refine v_load (v := (1, ((P 0 1) - 1))) (hT _ zt_X12_isIn rfl _ _ rfl) rfl rfl ?_
        refine v_lif (hT _ zt_X12_isIn rfl _ _ rfl) (hT _ zt_X12_isIn rfl _ _ rfl) (fun hc20 => ?_) (fun hc20 => ?_)
        · have hc20 : ((P 0 1) - 1) < y := hc20
          refine v_push (0) (hT _ zt_X12_isIn rfl _ _ rfl) rfl ?_
          refine v_ret (hT _ zt_X12_isIn rfl _ _ rfl) (Or.inl rfl) ?_
          show vP D T N 244 33 (zset (zset h 121 1 (0, 0)) 121 0 (0, 0)) [some (2, 121), some (0, x), some (0, y)] [(0, 0)] _
          refine v_if (hT _ zt_X12_isCell rfl _ _ rfl) (fun _ => ?_) (fun hc21 => absurd (show (0 : Int) = 0 from (by omega)) hc21)
          refine v_push (0) (hT _ zt_X12_isCell rfl _ _ rfl) rfl ?_
          refine v_ret (hT _ zt_X12_isCell rfl _ _ rfl) (Or.inl rfl) ?_
          show vP D T N 233 16 (zset (zset h 121 1 (0, 0)) 121 0 (0, 0)) [some (2, 121), some (0, x), some (0, y), some (0, w), none] [(0, 0)] _
          refine v_if (hT _ zt_X12_ground rfl _ _ rfl) (fun _ => ?_) (fun hc22 => absurd (show (0 : Int) = 0 from (by omega)) hc22)
          refine v_load (v := (2, 121)) (hT _ zt_X12_ground rfl _ _ rfl) rfl rfl ?_
          refine v_push (2) (hT _ zt_X12_ground rfl _ _ rfl) rfl ?_
          refine v_call (w := 2) [some (2, 121), some (0, 2)] hO (hT _ zt_X12_ground rfl _ _ rfl) rfl rfl ?_
          refine v_load (v := (2, 121)) (hT _ zt_X12_refuse rfl _ _ rfl) rfl rfl ?_
          refine v_load (v := (0, 2)) (hT _ zt_X12_refuse rfl _ _ rfl) rfl rfl ?_
          refine v_putf (r := 121) hO (hT _ zt_X12_refuse rfl _ _ rfl) rfl (fun hf23 => ?_)
          refine v_push (-1) (hT _ zt_X12_refuse rfl _ _ rfl) rfl ?_
          refine v_ret (hT _ zt_X12_refuse rfl _ _ rfl) (Or.inl rfl) ?_
          show vP D T N 233 24 (zset (zset (zset h 121 1 (0, 0)) 121 0 (0, 0)) 121 0 (0, 2)) [some (2, 121), some (0, x), some (0, y), some (0, w), none] [(0, -1)] _
          refine v_ret (hT _ zt_X12_ground rfl _ _ rfl) (Or.inl rfl) ?_
          exact k3 hc5 hc9 hc16 hc20
        · have hc20 : y ≤ ((P 0 1) - 1) := Int.not_lt.mp hc20
          refine v_push (1) (hT _ zt_X12_isIn rfl _ _ rfl) rfl ?_
          refine v_goto (hT _ zt_X12_isIn rfl _ _ rfl) ?_
          refine v_ret (hT _ zt_X12_isIn rfl _ _ rfl) (Or.inl rfl) ?_
          show vP D T N 244 33 (zset (zset h 121 1 (0, 0)) 121 0 (0, 0)) [some (2, 121), some (0, x), some (0, y)] [(0, 1)] _
          refine v_if (hT _ zt_X12_isCell rfl _ _ rfl) (fun hc24 => absurd (show (1 : Int) = 0 from hc24) (by omega)) (fun _ => ?_)
          refine v_push (1) (hT _ zt_X12_isCell rfl _ _ rfl) rfl ?_
          refine v_goto (hT _ zt_X12_isCell rfl _ _ rfl) ?_
          refine v_ret (hT _ zt_X12_isCell rfl _ _ rfl) (Or.inl rfl) ?_
          show vP D T N 233 16 (zset (zset h 121 1 (0, 0)) 121 0 (0, 0)) [some (2, 121), some (0, x), some (0, y), some (0, w), none] [(0, 1)] _
          refine v_if (hT _ zt_X12_ground rfl _ _ rfl) (fun hc25 => absurd (show (1 : Int) = 0 from hc25) (by omega)) (fun _ => ?_)
          exact k4 hc5 hc9 hc16 hc20
theorem qr_grd1 {D : zD} {T : zT} (hT : hTab T) (hO : vOK T) {N : Nat} {h : zH} {Q : zR → Prop} (P00 x y w : Int) (hv0 : zHv h) (g0 : h 126 0 = (0, P00)) (bx : 0 ≤ x ∧ x ≤ 7) (hm : 0 ≤ P00 * y ∧ P00 * y ≤ 40) (br : 0 ≤ (h 126 ((53 + ((P00 * y) + x))).toNat).2 ∧ (h 126 ((53 + ((P00 * y) + x))).toNat).2 ≤ 9)
    (k0 : (w = 0) → (0 ≤ (5 + ((P00 * y) + x))) → ((5 + ((P00 * y) + x)) < 2750) → Q (h, some (0, (h 126 ((5 + ((P00 * y) + x))).toNat).2)))
    (k1 : (w ≠ 0) → (w = 1) → (0 ≤ (5 + ((P00 * y) + x))) → ((5 + ((P00 * y) + x)) < 2750) → ((h 126 ((5 + ((P00 * y) + x))).toNat).2 = 3) → Q (zset h 121 0 (0, 8), some (0, -1)))
    (k2 : (w ≠ 0) → (w = 1) → (0 ≤ (5 + ((P00 * y) + x))) → ((5 + ((P00 * y) + x)) < 2750) → ((h 126 ((5 + ((P00 * y) + x))).toNat).2 ≠ 3) → ((h 126 ((5 + ((P00 * y) + x))).toNat).2 = 0) → (0 ≤ (53 + ((P00 * y) + x))) → ((53 + ((P00 * y) + x)) < 2750) → Q (h, some (0, (2 + (h 126 ((53 + ((P00 * y) + x))).toNat).2))))
    (k3 : (w ≠ 0) → (w = 1) → (0 ≤ (5 + ((P00 * y) + x))) → ((5 + ((P00 * y) + x)) < 2750) → ((h 126 ((5 + ((P00 * y) + x))).toNat).2 ≠ 3) → ((h 126 ((5 + ((P00 * y) + x))).toNat).2 ≠ 0) → ((h 126 ((5 + ((P00 * y) + x))).toNat).2 = 1) → (0 ≤ (53 + ((P00 * y) + x))) → ((53 + ((P00 * y) + x)) < 2750) → Q (h, some (0, (1 + (h 126 ((53 + ((P00 * y) + x))).toNat).2))))
    (k4 : (w ≠ 0) → (w = 1) → (0 ≤ (5 + ((P00 * y) + x))) → ((5 + ((P00 * y) + x)) < 2750) → ((h 126 ((5 + ((P00 * y) + x))).toNat).2 ≠ 3) → ((h 126 ((5 + ((P00 * y) + x))).toNat).2 ≠ 0) → ((h 126 ((5 + ((P00 * y) + x))).toNat).2 ≠ 1) → ((h 126 ((5 + ((P00 * y) + x))).toNat).2 = 4) → (0 ≤ (53 + ((P00 * y) + x))) → ((53 + ((P00 * y) + x)) < 2750) → Q (h, some (0, (3 + (h 126 ((53 + ((P00 * y) + x))).toNat).2))))
    (k5 : (w ≠ 0) → (w = 1) → (0 ≤ (5 + ((P00 * y) + x))) → ((5 + ((P00 * y) + x)) < 2750) → ((h 126 ((5 + ((P00 * y) + x))).toNat).2 ≠ 3) → ((h 126 ((5 + ((P00 * y) + x))).toNat).2 ≠ 0) → ((h 126 ((5 + ((P00 * y) + x))).toNat).2 ≠ 1) → ((h 126 ((5 + ((P00 * y) + x))).toNat).2 ≠ 4) → (0 ≤ (53 + ((P00 * y) + x))) → ((53 + ((P00 * y) + x)) < 2750) → Q (h, some (0, (4 + (h 126 ((53 + ((P00 * y) + x))).toNat).2))))
    (k6 : (w ≠ 0) → (w ≠ 1) → (w = 2) → (0 ≤ (53 + ((P00 * y) + x))) → ((53 + ((P00 * y) + x)) < 2750) → Q (h, some (0, (h 126 ((53 + ((P00 * y) + x))).toNat).2)))
    (k7 : (w ≠ 0) → (w ≠ 1) → (w ≠ 2) → (w = 3) → (0 ≤ (5 + ((P00 * y) + x))) → ((5 + ((P00 * y) + x)) < 2750) → ((h 126 ((5 + ((P00 * y) + x))).toNat).2 = 0) → (0 ≤ (53 + ((P00 * y) + x))) → ((53 + ((P00 * y) + x)) < 2750) → Q (h, some (0, (2 + (h 126 ((53 + ((P00 * y) + x))).toNat).2))))
    (k8 : (w ≠ 0) → (w ≠ 1) → (w ≠ 2) → (w = 3) → (0 ≤ (5 + ((P00 * y) + x))) → ((5 + ((P00 * y) + x)) < 2750) → ((h 126 ((5 + ((P00 * y) + x))).toNat).2 ≠ 0) → ((h 126 ((5 + ((P00 * y) + x))).toNat).2 = 1) → (0 ≤ (53 + ((P00 * y) + x))) → ((53 + ((P00 * y) + x)) < 2750) → Q (h, some (0, (1 + (h 126 ((53 + ((P00 * y) + x))).toNat).2))))
    (k9 : (w ≠ 0) → (w ≠ 1) → (w ≠ 2) → (w = 3) → (0 ≤ (5 + ((P00 * y) + x))) → ((5 + ((P00 * y) + x)) < 2750) → ((h 126 ((5 + ((P00 * y) + x))).toNat).2 ≠ 0) → ((h 126 ((5 + ((P00 * y) + x))).toNat).2 ≠ 1) → ((h 126 ((5 + ((P00 * y) + x))).toNat).2 = 3) → (0 ≤ (53 + ((P00 * y) + x))) → ((53 + ((P00 * y) + x)) < 2750) → Q (h, some (0, (5 + (h 126 ((53 + ((P00 * y) + x))).toNat).2))))
    (k10 : (w ≠ 0) → (w ≠ 1) → (w ≠ 2) → (w = 3) → (0 ≤ (5 + ((P00 * y) + x))) → ((5 + ((P00 * y) + x)) < 2750) → ((h 126 ((5 + ((P00 * y) + x))).toNat).2 ≠ 0) → ((h 126 ((5 + ((P00 * y) + x))).toNat).2 ≠ 1) → ((h 126 ((5 + ((P00 * y) + x))).toNat).2 ≠ 3) → ((h 126 ((5 + ((P00 * y) + x))).toNat).2 = 4) → (0 ≤ (53 + ((P00 * y) + x))) → ((53 + ((P00 * y) + x)) < 2750) → Q (h, some (0, (3 + (h 126 ((53 + ((P00 * y) + x))).toNat).2))))
    (k11 : (w ≠ 0) → (w ≠ 1) → (w ≠ 2) → (w = 3) → (0 ≤ (5 + ((P00 * y) + x))) → ((5 + ((P00 * y) + x)) < 2750) → ((h 126 ((5 + ((P00 * y) + x))).toNat).2 ≠ 0) → ((h 126 ((5 + ((P00 * y) + x))).toNat).2 ≠ 1) → ((h 126 ((5 + ((P00 * y) + x))).toNat).2 ≠ 3) → ((h 126 ((5 + ((P00 * y) + x))).toNat).2 ≠ 4) → (0 ≤ (53 + ((P00 * y) + x))) → ((53 + ((P00 * y) + x)) < 2750) → Q (h, some (0, (4 + (h 126 ((53 + ((P00 * y) + x))).toNat).2))))
    (k12 : (w ≠ 0) → (w ≠ 1) → (w ≠ 2) → (w ≠ 3) → Q (zset h 121 0 (0, 5), some (0, -1))) :
    vP D T N 233 25 h [some (2, 121), some (0, x), some (0, y), some (0, w), none] [] Q := by
  refine v_load (v := (2, 121)) (hT _ zt_X12_ground rfl _ _ rfl) rfl rfl ?_
  refine v_load (v := (0, x)) (hT _ zt_X12_ground rfl _ _ rfl) rfl rfl ?_
  refine v_load (v := (0, y)) (hT _ zt_X12_ground rfl _ _ rfl) rfl rfl ?_
  refine v_call (w := 3) [some (2, 121), some (0, x), some (0, y)] hO (hT _ zt_X12_ground rfl _ _ rfl) rfl rfl ?_
  refine v_load (v := (2, 121)) (hT _ zt_X12_at2 rfl _ _ rfl) rfl rfl ?_
  refine v_getR (c := 126) (r := 121) (hT _ zt_X12_at2 rfl _ _ rfl) rfl rfl rfl ?_
  refine v_push (0) (hT _ zt_X12_at2 rfl _ _ rfl) rfl ?_
  refine v_aldV (v := (0, P00)) (r := 126) (hT _ zt_X12_at2 rfl _ _ rfl) rfl rfl (fun _ _ _ => g0) (fun ha1 hb2 => ?_)
  refine v_load (v := (0, y)) (hT _ zt_X12_at2 rfl _ _ rfl) rfl rfl ?_
  refine v_bin (w := (P00 * y)) (hT _ zt_X12_at2 rfl _ _ rfl) (hq_mul (by omega) (by omega)) ?_
  refine v_load (v := (0, x)) (hT _ zt_X12_at2 rfl _ _ rfl) rfl rfl ?_
  refine v_bin (w := ((P00 * y) + x)) (hT _ zt_X12_at2 rfl _ _ rfl) (hq_add (by omega) (by omega)) ?_
  refine v_ret (hT _ zt_X12_at2 rfl _ _ rfl) (Or.inl rfl) ?_
  show vP D T N 233 31 h [some (2, 121), some (0, x), some (0, y), some (0, w), none] [(0, ((P00 * y) + x))] _
  refine v_store1 [some (2, 121), some (0, x), some (0, y), some (0, w), some (0, ((P00 * y) + x))] (hT _ zt_X12_ground rfl _ _ rfl) ⟨rfl, Nat.ne_of_beq_eq_false rfl⟩ (Nat.le_of_ble_eq_true rfl) rfl ?_
  refine v_load (v := (0, w)) (hT _ zt_X12_ground rfl _ _ rfl) rfl rfl ?_
  refine v_sw (hT _ zt_X12_ground rfl _ _ rfl) ?_
  refine ⟨fun hc3 => ?_, fun hc3 => ?_⟩
  · have hc3 : w = 0 := hc3
    refine v_load (v := (2, 121)) (hT _ zt_X12_ground rfl _ _ rfl) rfl rfl ?_
    refine v_getR (c := 126) (r := 121) (hT _ zt_X12_ground rfl _ _ rfl) rfl rfl rfl ?_
    refine v_push (5) (hT _ zt_X12_ground rfl _ _ rfl) rfl ?_
    refine v_load (v := (0, ((P00 * y) + x))) (hT _ zt_X12_ground rfl _ _ rfl) rfl rfl ?_
    refine v_bin (w := (5 + ((P00 * y) + x))) (hT _ zt_X12_ground rfl _ _ rfl) (hq_add (by omega) (by omega)) ?_
    refine v_ald (t := 0) (r := 126) (hT _ zt_X12_ground rfl _ _ rfl) rfl rfl rfl (fun ha4 hb5 => ?_)
    refine v_ret (hT _ zt_X12_ground rfl _ _ rfl) (Or.inl rfl) ?_
    exact k0 hc3 ha4 hb5
  refine ⟨fun hc6 => ?_, fun hc6 => ?_⟩
  · have hc6 : w = 1 := hc6
    refine v_load (v := (2, 121)) (hT _ zt_X12_ground rfl _ _ rfl) rfl rfl ?_
    refine v_getR (c := 126) (r := 121) (hT _ zt_X12_ground rfl _ _ rfl) rfl rfl rfl ?_
    refine v_push (5) (hT _ zt_X12_ground rfl _ _ rfl) rfl ?_
    refine v_load (v := (0, ((P00 * y) + x))) (hT _ zt_X12_ground rfl _ _ rfl) rfl rfl ?_
    refine v_bin (w := (5 + ((P00 * y) + x))) (hT _ zt_X12_ground rfl _ _ rfl) (hq_add (by omega) (by omega)) ?_
    refine v_ald (t := 0) (r := 126) (hT _ zt_X12_ground rfl _ _ rfl) rfl rfl rfl (fun ha7 hb8 => ?_)
    refine v_push (3) (hT _ zt_X12_ground rfl _ _ rfl) rfl ?_
    refine v_ic (hT _ zt_X12_ground rfl _ _ rfl) (fun hc9 => ?_) (fun hc9 => ?_)
    · have hc9 : (h 126 ((5 + ((P00 * y) + x))).toNat).2 = 3 := hc9
      refine v_load (v := (2, 121)) (hT _ zt_X12_ground rfl _ _ rfl) rfl rfl ?_
      refine v_push (8) (hT _ zt_X12_ground rfl _ _ rfl) rfl ?_
      refine v_call (w := 2) [some (2, 121), some (0, 8)] hO (hT _ zt_X12_ground rfl _ _ rfl) rfl rfl ?_
      refine v_load (v := (2, 121)) (hT _ zt_X12_refuse rfl _ _ rfl) rfl rfl ?_
      refine v_load (v := (0, 8)) (hT _ zt_X12_refuse rfl _ _ rfl) rfl rfl ?_
      refine v_putf (r := 121) hO (hT _ zt_X12_refuse rfl _ _ rfl) rfl (fun hf10 => ?_)
      refine v_push (-1) (hT _ zt_X12_refuse rfl _ _ rfl) rfl ?_
      refine v_ret (hT _ zt_X12_refuse rfl _ _ rfl) (Or.inl rfl) ?_
      show vP D T N 233 93 (zset h 121 0 (0, 8)) [some (2, 121), some (0, x), some (0, y), some (0, w), some (0, ((P00 * y) + x))] [(0, -1)] _
      refine v_goto (hT _ zt_X12_ground rfl _ _ rfl) ?_
      refine v_ret (hT _ zt_X12_ground rfl _ _ rfl) (Or.inl rfl) ?_
      exact k1 hc3 hc6 ha7 hb8 hc9
    · have hc9 : (h 126 ((5 + ((P00 * y) + x))).toNat).2 ≠ 3 := hc9
      refine v_load (v := (2, 121)) (hT _ zt_X12_ground rfl _ _ rfl) rfl rfl ?_
      refine v_load (v := (0, ((P00 * y) + x))) (hT _ zt_X12_ground rfl _ _ rfl) rfl rfl ?_
      refine v_call (w := 2) [some (2, 121), some (0, ((P00 * y) + x))] hO (hT _ zt_X12_ground rfl _ _ rfl) rfl rfl ?_
      refine v_load (v := (2, 121)) (hT _ zt_X12_crumbsOf rfl _ _ rfl) rfl rfl ?_
      refine v_getR (c := 126) (r := 121) (hT _ zt_X12_crumbsOf rfl _ _ rfl) rfl rfl rfl ?_
      refine v_push (5) (hT _ zt_X12_crumbsOf rfl _ _ rfl) rfl ?_
      refine v_load (v := (0, ((P00 * y) + x))) (hT _ zt_X12_crumbsOf rfl _ _ rfl) rfl rfl ?_
      refine v_bin (w := (5 + ((P00 * y) + x))) (hT _ zt_X12_crumbsOf rfl _ _ rfl) (hq_add (by omega) (by omega)) ?_
      refine v_ald (t := 0) (r := 126) (hT _ zt_X12_crumbsOf rfl _ _ rfl) rfl rfl rfl (fun ha11 hb12 => ?_)
      refine v_call (w := 1) [some (0, (h 126 ((5 + ((P00 * y) + x))).toNat).2)] hO (hT _ zt_X12_crumbsOf rfl _ _ rfl) rfl rfl ?_
      refine v_load (v := (0, (h 126 ((5 + ((P00 * y) + x))).toNat).2)) (hT _ zt_X12_letterCost rfl _ _ rfl) rfl rfl ?_
      refine v_if (hT _ zt_X12_letterCost rfl _ _ rfl) (fun hc13 => ?_) (fun hc13 => ?_)
      · have hc13 : (h 126 ((5 + ((P00 * y) + x))).toNat).2 = 0 := hc13
        refine v_push (2) (hT _ zt_X12_letterCost rfl _ _ rfl) rfl ?_
        refine v_goto (hT _ zt_X12_letterCost rfl _ _ rfl) ?_
        refine v_ret (hT _ zt_X12_letterCost rfl _ _ rfl) (Or.inl rfl) ?_
        show vP D T N 215 11 h [some (2, 121), some (0, ((P00 * y) + x))] [(0, 2)] _
        refine v_load (v := (2, 121)) (hT _ zt_X12_crumbsOf rfl _ _ rfl) rfl rfl ?_
        refine v_getR (c := 126) (r := 121) (hT _ zt_X12_crumbsOf rfl _ _ rfl) rfl rfl rfl ?_
        refine v_push (53) (hT _ zt_X12_crumbsOf rfl _ _ rfl) rfl ?_
        refine v_load (v := (0, ((P00 * y) + x))) (hT _ zt_X12_crumbsOf rfl _ _ rfl) rfl rfl ?_
        refine v_bin (w := (53 + ((P00 * y) + x))) (hT _ zt_X12_crumbsOf rfl _ _ rfl) (hq_add (by omega) (by omega)) ?_
        refine v_ald (t := 0) (r := 126) (hT _ zt_X12_crumbsOf rfl _ _ rfl) rfl rfl rfl (fun ha14 hb15 => ?_)
        refine v_bin (w := (2 + (h 126 ((53 + ((P00 * y) + x))).toNat).2)) (hT _ zt_X12_crumbsOf rfl _ _ rfl) (hq_add (by omega) (by omega)) ?_
        refine v_ret (hT _ zt_X12_crumbsOf rfl _ _ rfl) (Or.inl rfl) ?_
        show vP D T N 233 102 h [some (2, 121), some (0, x), some (0, y), some (0, w), some (0, ((P00 * y) + x))] [(0, (2 + (h 126 ((53 + ((P00 * y) + x))).toNat).2))] _
        refine v_ret (hT _ zt_X12_ground rfl _ _ rfl) (Or.inl rfl) ?_
        exact k2 hc3 hc6 ha7 hb8 hc9 hc13 ha14 hb15
      · have hc13 : (h 126 ((5 + ((P00 * y) + x))).toNat).2 ≠ 0 := hc13
        refine v_load (v := (0, (h 126 ((5 + ((P00 * y) + x))).toNat).2)) (hT _ zt_X12_letterCost rfl _ _ rfl) rfl rfl ?_
        refine v_push (1) (hT _ zt_X12_letterCost rfl _ _ rfl) rfl ?_
        refine v_ic (hT _ zt_X12_letterCost rfl _ _ rfl) (fun hc16 => ?_) (fun hc16 => ?_)
        · have hc16 : (h 126 ((5 + ((P00 * y) + x))).toNat).2 = 1 := hc16
          refine v_push (1) (hT _ zt_X12_letterCost rfl _ _ rfl) rfl ?_
          refine v_goto (hT _ zt_X12_letterCost rfl _ _ rfl) ?_
          refine v_ret (hT _ zt_X12_letterCost rfl _ _ rfl) (Or.inl rfl) ?_
          show vP D T N 215 11 h [some (2, 121), some (0, ((P00 * y) + x))] [(0, 1)] _
          refine v_load (v := (2, 121)) (hT _ zt_X12_crumbsOf rfl _ _ rfl) rfl rfl ?_
          refine v_getR (c := 126) (r := 121) (hT _ zt_X12_crumbsOf rfl _ _ rfl) rfl rfl rfl ?_
          refine v_push (53) (hT _ zt_X12_crumbsOf rfl _ _ rfl) rfl ?_
          refine v_load (v := (0, ((P00 * y) + x))) (hT _ zt_X12_crumbsOf rfl _ _ rfl) rfl rfl ?_
          refine v_bin (w := (53 + ((P00 * y) + x))) (hT _ zt_X12_crumbsOf rfl _ _ rfl) (hq_add (by omega) (by omega)) ?_
          refine v_ald (t := 0) (r := 126) (hT _ zt_X12_crumbsOf rfl _ _ rfl) rfl rfl rfl (fun ha17 hb18 => ?_)
          refine v_bin (w := (1 + (h 126 ((53 + ((P00 * y) + x))).toNat).2)) (hT _ zt_X12_crumbsOf rfl _ _ rfl) (hq_add (by omega) (by omega)) ?_
          refine v_ret (hT _ zt_X12_crumbsOf rfl _ _ rfl) (Or.inl rfl) ?_
          show vP D T N 233 102 h [some (2, 121), some (0, x), some (0, y), some (0, w), some (0, ((P00 * y) + x))] [(0, (1 + (h 126 ((53 + ((P00 * y) + x))).toNat).2))] _
          refine v_ret (hT _ zt_X12_ground rfl _ _ rfl) (Or.inl rfl) ?_
          exact k3 hc3 hc6 ha7 hb8 hc9 hc13 hc16 ha17 hb18
        · have hc16 : (h 126 ((5 + ((P00 * y) + x))).toNat).2 ≠ 1 := hc16
          refine v_load (v := (0, (h 126 ((5 + ((P00 * y) + x))).toNat).2)) (hT _ zt_X12_letterCost rfl _ _ rfl) rfl rfl ?_
          refine v_push (3) (hT _ zt_X12_letterCost rfl _ _ rfl) rfl ?_
          refine v_ic (hT _ zt_X12_letterCost rfl _ _ rfl) (fun hc19 => absurd (show (h 126 ((5 + ((P00 * y) + x))).toNat).2 = 3 from hc19) hc9) (fun _ => ?_)
          refine v_load (v := (0, (h 126 ((5 + ((P00 * y) + x))).toNat).2)) (hT _ zt_X12_letterCost rfl _ _ rfl) rfl rfl ?_
          refine v_push (4) (hT _ zt_X12_letterCost rfl _ _ rfl) rfl ?_
          refine v_ic (hT _ zt_X12_letterCost rfl _ _ rfl) (fun hc20 => ?_) (fun hc20 => ?_)
          · have hc20 : (h 126 ((5 + ((P00 * y) + x))).toNat).2 = 4 := hc20
            refine v_push (3) (hT _ zt_X12_letterCost rfl _ _ rfl) rfl ?_
            refine v_goto (hT _ zt_X12_letterCost rfl _ _ rfl) ?_
            refine v_ret (hT _ zt_X12_letterCost rfl _ _ rfl) (Or.inl rfl) ?_
            show vP D T N 215 11 h [some (2, 121), some (0, ((P00 * y) + x))] [(0, 3)] _
            refine v_load (v := (2, 121)) (hT _ zt_X12_crumbsOf rfl _ _ rfl) rfl rfl ?_
            refine v_getR (c := 126) (r := 121) (hT _ zt_X12_crumbsOf rfl _ _ rfl) rfl rfl rfl ?_
            refine v_push (53) (hT _ zt_X12_crumbsOf rfl _ _ rfl) rfl ?_
            refine v_load (v := (0, ((P00 * y) + x))) (hT _ zt_X12_crumbsOf rfl _ _ rfl) rfl rfl ?_
            refine v_bin (w := (53 + ((P00 * y) + x))) (hT _ zt_X12_crumbsOf rfl _ _ rfl) (hq_add (by omega) (by omega)) ?_
            refine v_ald (t := 0) (r := 126) (hT _ zt_X12_crumbsOf rfl _ _ rfl) rfl rfl rfl (fun ha21 hb22 => ?_)
            refine v_bin (w := (3 + (h 126 ((53 + ((P00 * y) + x))).toNat).2)) (hT _ zt_X12_crumbsOf rfl _ _ rfl) (hq_add (by omega) (by omega)) ?_
            refine v_ret (hT _ zt_X12_crumbsOf rfl _ _ rfl) (Or.inl rfl) ?_
            show vP D T N 233 102 h [some (2, 121), some (0, x), some (0, y), some (0, w), some (0, ((P00 * y) + x))] [(0, (3 + (h 126 ((53 + ((P00 * y) + x))).toNat).2))] _
            refine v_ret (hT _ zt_X12_ground rfl _ _ rfl) (Or.inl rfl) ?_
            exact k4 hc3 hc6 ha7 hb8 hc9 hc13 hc16 hc20 ha21 hb22
          · have hc20 : (h 126 ((5 + ((P00 * y) + x))).toNat).2 ≠ 4 := hc20
            refine v_push (4) (hT _ zt_X12_letterCost rfl _ _ rfl) rfl ?_
            refine v_ret (hT _ zt_X12_letterCost rfl _ _ rfl) (Or.inl rfl) ?_
            show vP D T N 215 11 h [some (2, 121), some (0, ((P00 * y) + x))] [(0, 4)] _
            refine v_load (v := (2, 121)) (hT _ zt_X12_crumbsOf rfl _ _ rfl) rfl rfl ?_
            refine v_getR (c := 126) (r := 121) (hT _ zt_X12_crumbsOf rfl _ _ rfl) rfl rfl rfl ?_
            refine v_push (53) (hT _ zt_X12_crumbsOf rfl _ _ rfl) rfl ?_
            refine v_load (v := (0, ((P00 * y) + x))) (hT _ zt_X12_crumbsOf rfl _ _ rfl) rfl rfl ?_
            refine v_bin (w := (53 + ((P00 * y) + x))) (hT _ zt_X12_crumbsOf rfl _ _ rfl) (hq_add (by omega) (by omega)) ?_
            refine v_ald (t := 0) (r := 126) (hT _ zt_X12_crumbsOf rfl _ _ rfl) rfl rfl rfl (fun ha23 hb24 => ?_)
            refine v_bin (w := (4 + (h 126 ((53 + ((P00 * y) + x))).toNat).2)) (hT _ zt_X12_crumbsOf rfl _ _ rfl) (hq_add (by omega) (by omega)) ?_
            refine v_ret (hT _ zt_X12_crumbsOf rfl _ _ rfl) (Or.inl rfl) ?_
            show vP D T N 233 102 h [some (2, 121), some (0, x), some (0, y), some (0, w), some (0, ((P00 * y) + x))] [(0, (4 + (h 126 ((53 + ((P00 * y) + x))).toNat).2))] _
            refine v_ret (hT _ zt_X12_ground rfl _ _ rfl) (Or.inl rfl) ?_
            exact k5 hc3 hc6 ha7 hb8 hc9 hc13 hc16 hc20 ha23 hb24
  refine ⟨fun hc25 => ?_, fun hc25 => ?_⟩
  · have hc25 : w = 2 := hc25
    refine v_load (v := (2, 121)) (hT _ zt_X12_ground rfl _ _ rfl) rfl rfl ?_
    refine v_getR (c := 126) (r := 121) (hT _ zt_X12_ground rfl _ _ rfl) rfl rfl rfl ?_
    refine v_push (53) (hT _ zt_X12_ground rfl _ _ rfl) rfl ?_
    refine v_load (v := (0, ((P00 * y) + x))) (hT _ zt_X12_ground rfl _ _ rfl) rfl rfl ?_
    refine v_bin (w := (53 + ((P00 * y) + x))) (hT _ zt_X12_ground rfl _ _ rfl) (hq_add (by omega) (by omega)) ?_
    refine v_ald (t := 0) (r := 126) (hT _ zt_X12_ground rfl _ _ rfl) rfl rfl rfl (fun ha26 hb27 => ?_)
    refine v_ret (hT _ zt_X12_ground rfl _ _ rfl) (Or.inl rfl) ?_
    exact k6 hc3 hc6 hc25 ha26 hb27
  refine ⟨fun hc28 => ?_, fun hc28 => ?_⟩
  · have hc28 : w = 3 := hc28
    refine v_load (v := (2, 121)) (hT _ zt_X12_ground rfl _ _ rfl) rfl rfl ?_
    refine v_load (v := (0, ((P00 * y) + x))) (hT _ zt_X12_ground rfl _ _ rfl) rfl rfl ?_
    refine v_call (w := 2) [some (2, 121), some (0, ((P00 * y) + x))] hO (hT _ zt_X12_ground rfl _ _ rfl) rfl rfl ?_
    refine v_load (v := (2, 121)) (hT _ zt_X12_crumbsOf rfl _ _ rfl) rfl rfl ?_
    refine v_getR (c := 126) (r := 121) (hT _ zt_X12_crumbsOf rfl _ _ rfl) rfl rfl rfl ?_
    refine v_push (5) (hT _ zt_X12_crumbsOf rfl _ _ rfl) rfl ?_
    refine v_load (v := (0, ((P00 * y) + x))) (hT _ zt_X12_crumbsOf rfl _ _ rfl) rfl rfl ?_
    refine v_bin (w := (5 + ((P00 * y) + x))) (hT _ zt_X12_crumbsOf rfl _ _ rfl) (hq_add (by omega) (by omega)) ?_
    refine v_ald (t := 0) (r := 126) (hT _ zt_X12_crumbsOf rfl _ _ rfl) rfl rfl rfl (fun ha29 hb30 => ?_)
    refine v_call (w := 1) [some (0, (h 126 ((5 + ((P00 * y) + x))).toNat).2)] hO (hT _ zt_X12_crumbsOf rfl _ _ rfl) rfl rfl ?_
    refine v_load (v := (0, (h 126 ((5 + ((P00 * y) + x))).toNat).2)) (hT _ zt_X12_letterCost rfl _ _ rfl) rfl rfl ?_
    refine v_if (hT _ zt_X12_letterCost rfl _ _ rfl) (fun hc31 => ?_) (fun hc31 => ?_)
    · have hc31 : (h 126 ((5 + ((P00 * y) + x))).toNat).2 = 0 := hc31
      refine v_push (2) (hT _ zt_X12_letterCost rfl _ _ rfl) rfl ?_
      refine v_goto (hT _ zt_X12_letterCost rfl _ _ rfl) ?_
      refine v_ret (hT _ zt_X12_letterCost rfl _ _ rfl) (Or.inl rfl) ?_
      show vP D T N 215 11 h [some (2, 121), some (0, ((P00 * y) + x))] [(0, 2)] _
      refine v_load (v := (2, 121)) (hT _ zt_X12_crumbsOf rfl _ _ rfl) rfl rfl ?_
      refine v_getR (c := 126) (r := 121) (hT _ zt_X12_crumbsOf rfl _ _ rfl) rfl rfl rfl ?_
      refine v_push (53) (hT _ zt_X12_crumbsOf rfl _ _ rfl) rfl ?_
      refine v_load (v := (0, ((P00 * y) + x))) (hT _ zt_X12_crumbsOf rfl _ _ rfl) rfl rfl ?_
      refine v_bin (w := (53 + ((P00 * y) + x))) (hT _ zt_X12_crumbsOf rfl _ _ rfl) (hq_add (by omega) (by omega)) ?_
      refine v_ald (t := 0) (r := 126) (hT _ zt_X12_crumbsOf rfl _ _ rfl) rfl rfl rfl (fun ha32 hb33 => ?_)
      refine v_bin (w := (2 + (h 126 ((53 + ((P00 * y) + x))).toNat).2)) (hT _ zt_X12_crumbsOf rfl _ _ rfl) (hq_add (by omega) (by omega)) ?_
      refine v_ret (hT _ zt_X12_crumbsOf rfl _ _ rfl) (Or.inl rfl) ?_
      show vP D T N 233 120 h [some (2, 121), some (0, x), some (0, y), some (0, w), some (0, ((P00 * y) + x))] [(0, (2 + (h 126 ((53 + ((P00 * y) + x))).toNat).2))] _
      refine v_ret (hT _ zt_X12_ground rfl _ _ rfl) (Or.inl rfl) ?_
      exact k7 hc3 hc6 hc25 hc28 ha29 hb30 hc31 ha32 hb33
    · have hc31 : (h 126 ((5 + ((P00 * y) + x))).toNat).2 ≠ 0 := hc31
      refine v_load (v := (0, (h 126 ((5 + ((P00 * y) + x))).toNat).2)) (hT _ zt_X12_letterCost rfl _ _ rfl) rfl rfl ?_
      refine v_push (1) (hT _ zt_X12_letterCost rfl _ _ rfl) rfl ?_
      refine v_ic (hT _ zt_X12_letterCost rfl _ _ rfl) (fun hc34 => ?_) (fun hc34 => ?_)
      · have hc34 : (h 126 ((5 + ((P00 * y) + x))).toNat).2 = 1 := hc34
        refine v_push (1) (hT _ zt_X12_letterCost rfl _ _ rfl) rfl ?_
        refine v_goto (hT _ zt_X12_letterCost rfl _ _ rfl) ?_
        refine v_ret (hT _ zt_X12_letterCost rfl _ _ rfl) (Or.inl rfl) ?_
        show vP D T N 215 11 h [some (2, 121), some (0, ((P00 * y) + x))] [(0, 1)] _
        refine v_load (v := (2, 121)) (hT _ zt_X12_crumbsOf rfl _ _ rfl) rfl rfl ?_
        refine v_getR (c := 126) (r := 121) (hT _ zt_X12_crumbsOf rfl _ _ rfl) rfl rfl rfl ?_
        refine v_push (53) (hT _ zt_X12_crumbsOf rfl _ _ rfl) rfl ?_
        refine v_load (v := (0, ((P00 * y) + x))) (hT _ zt_X12_crumbsOf rfl _ _ rfl) rfl rfl ?_
        refine v_bin (w := (53 + ((P00 * y) + x))) (hT _ zt_X12_crumbsOf rfl _ _ rfl) (hq_add (by omega) (by omega)) ?_
        refine v_ald (t := 0) (r := 126) (hT _ zt_X12_crumbsOf rfl _ _ rfl) rfl rfl rfl (fun ha35 hb36 => ?_)
        refine v_bin (w := (1 + (h 126 ((53 + ((P00 * y) + x))).toNat).2)) (hT _ zt_X12_crumbsOf rfl _ _ rfl) (hq_add (by omega) (by omega)) ?_
        refine v_ret (hT _ zt_X12_crumbsOf rfl _ _ rfl) (Or.inl rfl) ?_
        show vP D T N 233 120 h [some (2, 121), some (0, x), some (0, y), some (0, w), some (0, ((P00 * y) + x))] [(0, (1 + (h 126 ((53 + ((P00 * y) + x))).toNat).2))] _
        refine v_ret (hT _ zt_X12_ground rfl _ _ rfl) (Or.inl rfl) ?_
        exact k8 hc3 hc6 hc25 hc28 ha29 hb30 hc31 hc34 ha35 hb36
      · have hc34 : (h 126 ((5 + ((P00 * y) + x))).toNat).2 ≠ 1 := hc34
        refine v_load (v := (0, (h 126 ((5 + ((P00 * y) + x))).toNat).2)) (hT _ zt_X12_letterCost rfl _ _ rfl) rfl rfl ?_
        refine v_push (3) (hT _ zt_X12_letterCost rfl _ _ rfl) rfl ?_
        refine v_ic (hT _ zt_X12_letterCost rfl _ _ rfl) (fun hc37 => ?_) (fun hc37 => ?_)
        · have hc37 : (h 126 ((5 + ((P00 * y) + x))).toNat).2 = 3 := hc37
          refine v_push (5) (hT _ zt_X12_letterCost rfl _ _ rfl) rfl ?_
          refine v_goto (hT _ zt_X12_letterCost rfl _ _ rfl) ?_
          refine v_ret (hT _ zt_X12_letterCost rfl _ _ rfl) (Or.inl rfl) ?_
          show vP D T N 215 11 h [some (2, 121), some (0, ((P00 * y) + x))] [(0, 5)] _
          refine v_load (v := (2, 121)) (hT _ zt_X12_crumbsOf rfl _ _ rfl) rfl rfl ?_
          refine v_getR (c := 126) (r := 121) (hT _ zt_X12_crumbsOf rfl _ _ rfl) rfl rfl rfl ?_
          refine v_push (53) (hT _ zt_X12_crumbsOf rfl _ _ rfl) rfl ?_
          refine v_load (v := (0, ((P00 * y) + x))) (hT _ zt_X12_crumbsOf rfl _ _ rfl) rfl rfl ?_
          refine v_bin (w := (53 + ((P00 * y) + x))) (hT _ zt_X12_crumbsOf rfl _ _ rfl) (hq_add (by omega) (by omega)) ?_
          refine v_ald (t := 0) (r := 126) (hT _ zt_X12_crumbsOf rfl _ _ rfl) rfl rfl rfl (fun ha38 hb39 => ?_)
          refine v_bin (w := (5 + (h 126 ((53 + ((P00 * y) + x))).toNat).2)) (hT _ zt_X12_crumbsOf rfl _ _ rfl) (hq_add (by omega) (by omega)) ?_
          refine v_ret (hT _ zt_X12_crumbsOf rfl _ _ rfl) (Or.inl rfl) ?_
          show vP D T N 233 120 h [some (2, 121), some (0, x), some (0, y), some (0, w), some (0, ((P00 * y) + x))] [(0, (5 + (h 126 ((53 + ((P00 * y) + x))).toNat).2))] _
          refine v_ret (hT _ zt_X12_ground rfl _ _ rfl) (Or.inl rfl) ?_
          exact k9 hc3 hc6 hc25 hc28 ha29 hb30 hc31 hc34 hc37 ha38 hb39
        · have hc37 : (h 126 ((5 + ((P00 * y) + x))).toNat).2 ≠ 3 := hc37
          refine v_load (v := (0, (h 126 ((5 + ((P00 * y) + x))).toNat).2)) (hT _ zt_X12_letterCost rfl _ _ rfl) rfl rfl ?_
          refine v_push (4) (hT _ zt_X12_letterCost rfl _ _ rfl) rfl ?_
          refine v_ic (hT _ zt_X12_letterCost rfl _ _ rfl) (fun hc40 => ?_) (fun hc40 => ?_)
          · have hc40 : (h 126 ((5 + ((P00 * y) + x))).toNat).2 = 4 := hc40
            refine v_push (3) (hT _ zt_X12_letterCost rfl _ _ rfl) rfl ?_
            refine v_goto (hT _ zt_X12_letterCost rfl _ _ rfl) ?_
            refine v_ret (hT _ zt_X12_letterCost rfl _ _ rfl) (Or.inl rfl) ?_
            show vP D T N 215 11 h [some (2, 121), some (0, ((P00 * y) + x))] [(0, 3)] _
            refine v_load (v := (2, 121)) (hT _ zt_X12_crumbsOf rfl _ _ rfl) rfl rfl ?_
            refine v_getR (c := 126) (r := 121) (hT _ zt_X12_crumbsOf rfl _ _ rfl) rfl rfl rfl ?_
            refine v_push (53) (hT _ zt_X12_crumbsOf rfl _ _ rfl) rfl ?_
            refine v_load (v := (0, ((P00 * y) + x))) (hT _ zt_X12_crumbsOf rfl _ _ rfl) rfl rfl ?_
            refine v_bin (w := (53 + ((P00 * y) + x))) (hT _ zt_X12_crumbsOf rfl _ _ rfl) (hq_add (by omega) (by omega)) ?_
            refine v_ald (t := 0) (r := 126) (hT _ zt_X12_crumbsOf rfl _ _ rfl) rfl rfl rfl (fun ha41 hb42 => ?_)
            refine v_bin (w := (3 + (h 126 ((53 + ((P00 * y) + x))).toNat).2)) (hT _ zt_X12_crumbsOf rfl _ _ rfl) (hq_add (by omega) (by omega)) ?_
            refine v_ret (hT _ zt_X12_crumbsOf rfl _ _ rfl) (Or.inl rfl) ?_
            show vP D T N 233 120 h [some (2, 121), some (0, x), some (0, y), some (0, w), some (0, ((P00 * y) + x))] [(0, (3 + (h 126 ((53 + ((P00 * y) + x))).toNat).2))] _
            refine v_ret (hT _ zt_X12_ground rfl _ _ rfl) (Or.inl rfl) ?_
            exact k10 hc3 hc6 hc25 hc28 ha29 hb30 hc31 hc34 hc37 hc40 ha41 hb42
          · have hc40 : (h 126 ((5 + ((P00 * y) + x))).toNat).2 ≠ 4 := hc40
            refine v_push (4) (hT _ zt_X12_letterCost rfl _ _ rfl) rfl ?_
            refine v_ret (hT _ zt_X12_letterCost rfl _ _ rfl) (Or.inl rfl) ?_
            show vP D T N 215 11 h [some (2, 121), some (0, ((P00 * y) + x))] [(0, 4)] _
            refine v_load (v := (2, 121)) (hT _ zt_X12_crumbsOf rfl _ _ rfl) rfl rfl ?_
            refine v_getR (c := 126) (r := 121) (hT _ zt_X12_crumbsOf rfl _ _ rfl) rfl rfl rfl ?_
            refine v_push (53) (hT _ zt_X12_crumbsOf rfl _ _ rfl) rfl ?_
            refine v_load (v := (0, ((P00 * y) + x))) (hT _ zt_X12_crumbsOf rfl _ _ rfl) rfl rfl ?_
            refine v_bin (w := (53 + ((P00 * y) + x))) (hT _ zt_X12_crumbsOf rfl _ _ rfl) (hq_add (by omega) (by omega)) ?_
            refine v_ald (t := 0) (r := 126) (hT _ zt_X12_crumbsOf rfl _ _ rfl) rfl rfl rfl (fun ha43 hb44 => ?_)
            refine v_bin (w := (4 + (h 126 ((53 + ((P00 * y) + x))).toNat).2)) (hT _ zt_X12_crumbsOf rfl _ _ rfl) (hq_add (by omega) (by omega)) ?_
            refine v_ret (hT _ zt_X12_crumbsOf rfl _ _ rfl) (Or.inl rfl) ?_
            show vP D T N 233 120 h [some (2, 121), some (0, x), some (0, y), some (0, w), some (0, ((P00 * y) + x))] [(0, (4 + (h 126 ((53 + ((P00 * y) + x))).toNat).2))] _
            refine v_ret (hT _ zt_X12_ground rfl _ _ rfl) (Or.inl rfl) ?_
            exact k11 hc3 hc6 hc25 hc28 ha29 hb30 hc31 hc34 hc37 hc40 ha43 hb44
  show vP _ _ _ _ _ _ _ _ _
  refine v_load (v := (2, 121)) (hT _ zt_X12_ground rfl _ _ rfl) rfl rfl ?_
  refine v_push (5) (hT _ zt_X12_ground rfl _ _ rfl) rfl ?_
  refine v_call (w := 2) [some (2, 121), some (0, 5)] hO (hT _ zt_X12_ground rfl _ _ rfl) rfl rfl ?_
  refine v_load (v := (2, 121)) (hT _ zt_X12_refuse rfl _ _ rfl) rfl rfl ?_
  refine v_load (v := (0, 5)) (hT _ zt_X12_refuse rfl _ _ rfl) rfl rfl ?_
  refine v_putf (r := 121) hO (hT _ zt_X12_refuse rfl _ _ rfl) rfl (fun hf45 => ?_)
  refine v_push (-1) (hT _ zt_X12_refuse rfl _ _ rfl) rfl ?_
  refine v_ret (hT _ zt_X12_refuse rfl _ _ rfl) (Or.inl rfl) ?_
  show vP D T N 233 126 (zset h 121 0 (0, 5)) [some (2, 121), some (0, x), some (0, y), some (0, w), some (0, ((P00 * y) + x))] [(0, -1)] _
  refine v_ret (hT _ zt_X12_ground rfl _ _ rfl) (Or.inl rfl) ?_
  exact k12 hc3 hc6 hc25 hc28
theorem lRk_ground {D : zD} (hD : ∀ i, -2147483648 ≤ D.2 i ∧ D.2 i ≤ 2147483647) {h h1 h2 : zH} {x y w v1 v2 : Int} (hZ : lZ D h) (hZ1 : lZ D h1) (hR : lR h) (z1 : zRun D TLw 614 156 0 (h, zargs 0 [(2, 0), (0, x), (0, y), (0, w)], []) (h1, some (0, v1))) (f1 : aFr lM_156 h h1) (z2 : zRun D TLw 614 233 0 (h1, zargs 0 [(2, 121), (0, x), (0, y), (0, w)], []) (h2, some (0, v2))) (f2 : aFr lM_233 h1 h2) : lR h2 ∧ v1 = v2 := by
  refine ⟨lR_S.fr (M := lM_233) (by decide +kernel) f2 (lR_S.fr (M := lM_156) (by decide +kernel) f1 hR), ?_⟩
  obtain ⟨r, c, P, hc, e7, e8, gc, gr, lb, go⟩ := hR.at f1 (by decide +kernel)
  have lb' : (0 ≤ P 0 0 ∧ P 0 0 ≤ 8) ∧ (0 ≤ P 0 1 ∧ P 0 1 ≤ 6) := ⟨lb.1, lb.2.1⟩
  have lL : 0 ≤ x → x < P 0 0 → 0 ≤ y → y < P 0 1 → 0 ≤ P 1 (pCl x y) ∧ P 1 (pCl x y) ≤ 4 := fun x1 x2 y1 y2 => by
    have hp : pCl x y < 48 := by unfold pCl; omega
    have e := gc.2.1 (pCl x y) hp
    rcases hc with ⟨rfl, rfl⟩ | ⟨rfl, rfl⟩
    · have b := (hZ.bd (r := 25) (lo := 0) (hi := 47) (k := 0) (a := 0) (b := 4) ty_25 rfl (by decide +kernel) (pCl x y) (Nat.zero_le _) (by omega)).2
      rw [show h 25 (pCl x y) = _ from e] at b
      exact b
    · have b := (hZ.bd (r := 40) (lo := 0) (hi := 47) (k := 0) (a := 0) (b := 4) ty_40 rfl (by decide +kernel) (pCl x y) (Nat.zero_le _) (by omega)).2
      rw [show h 40 (pCl x y) = _ from e] at b
      exact b
  have lRi : 0 ≤ x → x < P 0 0 → 0 ≤ y → y < P 0 1 → 0 ≤ P 2 (pCl x y) ∧ P 2 (pCl x y) ≤ 9 := fun x1 x2 y1 y2 => by
    have hp : pCl x y < 48 := by unfold pCl; omega
    have e := gc.2.2.1 (pCl x y) hp
    rcases hc with ⟨rfl, rfl⟩ | ⟨rfl, rfl⟩
    · have b := (hZ.bd (r := 26) (lo := 0) (hi := 47) (k := 0) (a := 0) (b := 9) ty_26 rfl (by decide +kernel) (pCl x y) (Nat.zero_le _) (by omega)).2
      rw [show h 26 (pCl x y) = _ from e] at b
      exact b
    · have b := (hZ.bd (r := 41) (lo := 0) (hi := 47) (k := 0) (a := 0) (b := 9) ty_41 rfl (by decide +kernel) (pCl x y) (Nat.zero_le _) (by omega)).2
      rw [show h 41 (pCl x y) = _ from e] at b
      exact b
  have a1 : v1 = (if 0 ≤ x ∧ x < P 0 0 ∧ 0 ≤ y ∧ y < P 0 1 then gvw (P 1 (pCl x y)) (P 2 (pCl x y)) w else -1) := by
    refine sv_i (hZ.run 5 z1 (Q := fun x_ => x_.2 = some (0, (if 0 ≤ x ∧ x < P 0 0 ∧ 0 ≤ y ∧ y < P 0 1 then gvw (P 1 (pCl x y)) (P 2 (pCl x y)) w else -1))) (fun N => vP_hv (fun hv => ?_)))
    rcases hc with ⟨rfl, rfl⟩ | ⟨rfl, rfl⟩
    · have hp : 0 ≤ x ∧ x < P 0 0 ∧ 0 ≤ y ∧ y < P 0 1 → pCl x y < 48 := fun hin => by unfold pCl; omega
      refine qc_grd0_24 TLw_T vOK_T x y w hv e7 gc.1.1 gc.1.2.1 gc.1.2.2.1 gc.1.2.2.2 lb ?_ ?_ ?_ ?_ ?_
      · intro c1; exact sv (if_neg (fun f => by omega)).symm
      · intro c1 c2 c3; exact sv (if_neg (fun f => by omega)).symm
      · intro c1 c2 c3 c4
        have hin : 0 ≤ x ∧ x < P 0 0 ∧ 0 ≤ y ∧ y < P 0 1 := ⟨c1, c2, c3, c4⟩
        have eL : (h 25 (y * 8 + x).toNat).2 = P 1 (pCl x y) := congrArg Prod.snd (gc.2.1 (pCl x y) (hp hin))
        have eR : (h 26 (y * 8 + x).toNat).2 = P 2 (pCl x y) := congrArg Prod.snd (gc.2.2.1 (pCl x y) (hp hin))
        have bri := lRi hin.1 hin.2.1 hin.2.2.1 hin.2.2.2
        have kk : ∀ N, vP D TLw N 156 18 h [some (2, 0), some (0, x), some (0, y), some (0, w), none] [] (fun x_ => x_.2 = some (0, gvw (h 25 (y * 8 + x).toNat).2 (h 26 (y * 8 + x).toNat).2 w)) := fun N => vP_hv (fun hv => by
          refine qc_grd1_24 TLw_T vOK_T x y w hv e7 ⟨hin.1, by omega⟩ ⟨hin.2.2.1, by omega⟩ (zat2b D _) (by rw [show (h 26 (y * 8 + x).toNat).2 = P 2 (pCl x y) from eR]; exact bri) ?_ ?_ ?_ ?_ ?_ ?_
          · intro c1 _ _
            exact sv (gvw0 c1).symm
          · intro c1 c2 _ _ c3
            exact sv (gvw1w c1 c2 c3).symm
          · intro c1 c2 _ _ c3 d1 d2
            exact sv ((congrArg (fun z => z + (h 26 (y * 8 + x).toNat).2) (zat2 D d1 d2)).trans (gvw1 c1 c2 c3).symm)
          · intro c1 c2 c3 _ _
            exact sv (gvw2 c1 c2 c3).symm
          · intro c1 c2 c3 c4 _ _ d1 d2
            exact sv ((congrArg (fun z => z + (h 26 (y * 8 + x).toNat).2) (zat2 D d1 d2)).trans (gvw3 c1 c2 c3 c4).symm)
          · intro c1 c2 c3 c4
            exact sv (gvwx c1 c2 c3 c4).symm)
        refine vP_Q (fun r hr => ?_) (kk N)
        show r.2 = _
        rw [if_pos hin, ← eL, ← eR]
        exact hr
      · intro c1 c2 c3 c4; exact sv (if_neg (fun f => by omega)).symm
      · intro c1 c2; exact sv (if_neg (fun f => by omega)).symm
    · have hp : 0 ≤ x ∧ x < P 0 0 ∧ 0 ≤ y ∧ y < P 0 1 → pCl x y < 48 := fun hin => by unfold pCl; omega
      refine qc_grd0_39 TLw_T vOK_T x y w hv e7 gc.1.1 gc.1.2.1 gc.1.2.2.1 gc.1.2.2.2 lb ?_ ?_ ?_ ?_ ?_
      · intro c1; exact sv (if_neg (fun f => by omega)).symm
      · intro c1 c2 c3; exact sv (if_neg (fun f => by omega)).symm
      · intro c1 c2 c3 c4
        have hin : 0 ≤ x ∧ x < P 0 0 ∧ 0 ≤ y ∧ y < P 0 1 := ⟨c1, c2, c3, c4⟩
        have eL : (h 40 (y * 8 + x).toNat).2 = P 1 (pCl x y) := congrArg Prod.snd (gc.2.1 (pCl x y) (hp hin))
        have eR : (h 41 (y * 8 + x).toNat).2 = P 2 (pCl x y) := congrArg Prod.snd (gc.2.2.1 (pCl x y) (hp hin))
        have bri := lRi hin.1 hin.2.1 hin.2.2.1 hin.2.2.2
        have kk : ∀ N, vP D TLw N 156 18 h [some (2, 0), some (0, x), some (0, y), some (0, w), none] [] (fun x_ => x_.2 = some (0, gvw (h 40 (y * 8 + x).toNat).2 (h 41 (y * 8 + x).toNat).2 w)) := fun N => vP_hv (fun hv => by
          refine qc_grd1_39 TLw_T vOK_T x y w hv e7 ⟨hin.1, by omega⟩ ⟨hin.2.2.1, by omega⟩ (zat2b D _) (by rw [show (h 41 (y * 8 + x).toNat).2 = P 2 (pCl x y) from eR]; exact bri) ?_ ?_ ?_ ?_ ?_ ?_
          · intro c1 _ _
            exact sv (gvw0 c1).symm
          · intro c1 c2 _ _ c3
            exact sv (gvw1w c1 c2 c3).symm
          · intro c1 c2 _ _ c3 d1 d2
            exact sv ((congrArg (fun z => z + (h 41 (y * 8 + x).toNat).2) (zat2 D d1 d2)).trans (gvw1 c1 c2 c3).symm)
          · intro c1 c2 c3 _ _
            exact sv (gvw2 c1 c2 c3).symm
          · intro c1 c2 c3 c4 _ _ d1 d2
            exact sv ((congrArg (fun z => z + (h 41 (y * 8 + x).toNat).2) (zat2 D d1 d2)).trans (gvw3 c1 c2 c3 c4).symm)
          · intro c1 c2 c3 c4
            exact sv (gvwx c1 c2 c3 c4).symm)
        refine vP_Q (fun r hr => ?_) (kk N)
        show r.2 = _
        rw [if_pos hin, ← eL, ← eR]
        exact hr
      · intro c1 c2 c3 c4; exact sv (if_neg (fun f => by omega)).symm
      · intro c1 c2; exact sv (if_neg (fun f => by omega)).symm
  have a2 : v2 = (if 0 ≤ x ∧ x < P 0 0 ∧ 0 ≤ y ∧ y < P 0 1 then gvw (P 1 (pCl x y)) (P 2 (pCl x y)) w else -1) := by
    refine sv_i (hZ1.run 5 z2 (Q := fun x_ => x_.2 = some (0, (if 0 ≤ x ∧ x < P 0 0 ∧ 0 ≤ y ∧ y < P 0 1 then gvw (P 1 (pCl x y)) (P 2 (pCl x y)) w else -1))) (fun N => vP_hv (fun hv => ?_)))
    refine qr_grd0 TLw_T vOK_T x y w hv gr.1.1 gr.1.2.1 gr.1.2.2.1 gr.1.2.2.2 lb ?_ ?_ ?_ ?_ ?_
    · intro c1; exact sv (if_neg (fun f => by omega)).symm
    · intro c1 c2; exact sv (if_neg (fun f => by omega)).symm
    · intro c1 c2 c3; exact sv (if_neg (fun f => by omega)).symm
    · intro c1 c2 c3 c4; exact sv (if_neg (fun f => by omega)).symm
    · intro c1 c2 c3 c4
      have hin : 0 ≤ x ∧ x < P 0 0 ∧ 0 ≤ y ∧ y < P 0 1 := ⟨c1, by omega, c3, by omega⟩
      have bL := lL hin.1 hin.2.1 hin.2.2.1 hin.2.2.2
      have bri := lRi hin.1 hin.2.1 hin.2.2.1 hin.2.2.2
      obtain ⟨gL, gR⟩ := gr.2.1 x y hin.1 hin.2.1 hin.2.2.1 (by omega)
      have eL : (h1 126 (5 + (P 0 0 * y + x)).toNat).2 = P 1 (pCl x y) := by
        rw [Nat.mul_zero, Nat.zero_add] at gL
        exact congrArg Prod.snd gL
      have eR : (h1 126 (53 + (P 0 0 * y + x)).toNat).2 = P 2 (pCl x y) := by
        rw [Nat.mul_zero, Nat.zero_add] at gR
        exact congrArg Prod.snd gR
      have hm : 0 ≤ P 0 0 * y ∧ P 0 0 * y ≤ 40 := by
        rcases hxy (y := y) lb.1.1 lb.1.2 with e | e | e
        · omega
        · omega
        · exact e
      have cx : ∀ {a : Int}, crw (h1 126 (5 + (P 0 0 * y + x)).toNat).2 = a → a + (h1 126 (53 + (P 0 0 * y + x)).toNat).2 = crw (h1 126 (5 + (P 0 0 * y + x)).toNat).2 + (h1 126 (53 + (P 0 0 * y + x)).toNat).2 := fun e => by rw [e]
      have b0 : 0 ≤ (h1 126 (5 + (P 0 0 * y + x)).toNat).2 := by rw [eL]; exact bL.1
      have b4 : (h1 126 (5 + (P 0 0 * y + x)).toNat).2 ≤ 4 := by rw [eL]; exact bL.2
      have kk : ∀ N, vP D TLw N 233 25 (zset (zset h1 121 1 (0, 0)) 121 0 (0, 0)) [some (2, 121), some (0, x), some (0, y), some (0, w), none] [] (fun x_ => x_.2 = some (0, gvw (h1 126 (5 + (P 0 0 * y + x)).toNat).2 (h1 126 (53 + (P 0 0 * y + x)).toNat).2 w)) := fun N => vP_hv (fun hv => by
        have z0 : ∀ k, zset (zset h1 121 1 (0, 0)) 121 0 (0, 0) 126 k = h1 126 k := fun k => (zset_ne (by omega)).trans (zset_ne (by omega))
        rw [← z0, ← z0] at cx
        rw [← z0] at b0 b4
        rw [← z0, ← z0]
        refine qr_grd1 TLw_T vOK_T (P 0 0) x y w hv ((z0 0).trans gr.1.1) ⟨hin.1, by omega⟩ hm (by rw [z0, eR]; exact bri) ?_ ?_ ?_ ?_ ?_ ?_ ?_ ?_ ?_ ?_ ?_ ?_ ?_
        · intro c1 _ _
          exact sv (gvw0 c1).symm
        · intro c1 c2 _ _ c3
          exact sv (gvw1w c1 c2 c3).symm
        · intro c1 c2 _ _ c3 c4 _ _
          exact sv ((cx (crw_0 c4)).trans (gvw1 c1 c2 c3).symm)
        · intro c1 c2 _ _ c3 c4 c5 _ _
          exact sv ((cx (crw_1 c4 c5)).trans (gvw1 c1 c2 c3).symm)
        · intro c1 c2 _ _ c3 c4 c5 c6 _ _
          exact sv ((cx (crw_4 c6)).trans (gvw1 c1 c2 c3).symm)
        · intro c1 c2 _ _ c3 c4 c5 c6 _ _
          exact sv ((cx (crw_x b0 b4 c4 c5 c3 c6)).trans (gvw1 c1 c2 c3).symm)
        · intro c1 c2 c3 _ _
          exact sv (gvw2 c1 c2 c3).symm
        · intro c1 c2 c3 c4 _ _ c5 _ _
          exact sv ((cx (crw_0 c5)).trans (gvw3 c1 c2 c3 c4).symm)
        · intro c1 c2 c3 c4 _ _ c5 c6 _ _
          exact sv ((cx (crw_1 c5 c6)).trans (gvw3 c1 c2 c3 c4).symm)
        · intro c1 c2 c3 c4 _ _ c5 c6 c7 _ _
          exact sv ((cx (crw_3 c7)).trans (gvw3 c1 c2 c3 c4).symm)
        · intro c1 c2 c3 c4 _ _ c5 c6 c7 c8 _ _
          exact sv ((cx (crw_4 c8)).trans (gvw3 c1 c2 c3 c4).symm)
        · intro c1 c2 c3 c4 _ _ c5 c6 c7 c8 _ _
          exact sv ((cx (crw_x b0 b4 c5 c6 c7 c8)).trans (gvw3 c1 c2 c3 c4).symm)
        · intro c1 c2 c3 c4
          exact sv (gvwx c1 c2 c3 c4).symm)
      refine vP_Q (fun r hr => ?_) (kk N)
      show r.2 = _
      rw [if_pos hin, ← eL, ← eR]
      exact hr
  rw [a1, a2]
