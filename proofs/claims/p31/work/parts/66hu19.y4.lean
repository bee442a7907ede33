/-! WHAT THE CALLS MAKE OF A LAND, AND WHAT THEY ANSWER, PURE -/
theorem cb_eq2 {G : Prop} {h : zH} {Q : zR → Prop} {a b : Int} (e : a = b) (f : Q (h, some (0, a)) → G) (k : Q (h, some (0, b))) : G := f (e ▸ k)
abbrev okC (P : PT) (x y z : Int) : Prop := 0 ≤ x ∧ x < P 0 2 ∧ 0 ≤ y ∧ y < P 0 0 ∧ 0 ≤ z ∧ z < P 0 1
abbrev cI (x y z : Int) : Nat := 48 * x.toNat + (8 * z.toNat + y.toNat)
def btP (P : PT) (x y z : Int) : PT := if okC P x y z ∧ P 3 (cI x y z) ≠ 1 then pBite P x.toNat (8 * z.toNat + y.toNat) else P
def btV (P : PT) (x y z : Int) : Int := if okC P x y z ∧ P 3 (cI x y z) ≠ 1 then gCr P (8 * z.toNat + y.toNat) else -1
def moP (P : PT) (x y z : Int) : PT := if okC P x y z ∧ P 3 (cI x y z) = 0 then pSt P x.toNat (8 * z.toNat + y.toNat) 2 else P
def moV (P : PT) (x y z : Int) : Int := if okC P x y z ∧ P 3 (cI x y z) = 0 then 1 else 0
def hoP (P : PT) (x y z : Int) : PT := if okC P x y z ∧ (P 3 (cI x y z) = 0 ∨ P 3 (cI x y z) = 2) then pSt P x.toNat (8 * z.toNat + y.toNat) 3 else P
def hoV (P : PT) (x y z : Int) : Int := if okC P x y z ∧ (P 3 (cI x y z) = 0 ∨ P 3 (cI x y z) = 2) then 1 else 0
def clP (P : PT) (x y z : Int) : PT := if okC P x y z ∧ 2 ≤ P 3 (cI x y z) then pSt P x.toNat (8 * z.toNat + y.toNat) 0 else P
def clV (P : PT) (x y z : Int) : Int := if okC P x y z ∧ 2 ≤ P 3 (cI x y z) then 1 else 0
abbrev okS (P : PT) (x y : Int) : Prop := 0 ≤ x ∧ x < P 0 2 ∧ 0 ≤ y ∧ y < P 0 2
def ssP (P : PT) (x y : Int) : PT := if okS P x y ∧ x ≠ y then pSteam P x.toNat y.toNat else P
def ssV (P : PT) (x y : Int) : Int := if okS P x y ∧ x ≠ y then ((uS P x.toNat y.toNat ((P 0 0).toNat * (P 0 1).toNat) : Nat) : Int) else -1
abbrev okM (P : PT) (x : Int) : Prop := 0 ≤ x ∧ x < P 0 3
noncomputable def maP (P : PT) (x : Int) : PT := if okM P x ∧ mC P x.toNat ≠ -1 then pGo P x.toNat (mP P x.toNat) (mS P x.toNat) else P
noncomputable def maV (P : PT) (x : Int) : Int := if okM P x ∧ mC P x.toNat ≠ -1 then ((mS P x.toNat : Nat) : Int) else -1
abbrev okH (P : PT) (x y : Int) : Prop := 0 ≤ x ∧ x < P 0 3 ∧ 0 ≤ y ∧ y < P 0 2
def haP (P : PT) (x y : Int) : PT := if okH P x y then pset P 8 x.toNat y else P
def haV (P : PT) (x y : Int) : Int := if okH P x y then 1 else 0
def cTF (c : Nat) (h g : zH) : Prop := ∀ a b, ¬ ((c ≤ a ∧ a ≤ c + 9) ∨ (a = 0 ∧ (b = 0 ∨ b = 18)) ∨ (100 ≤ a ∧ a ≤ 104)) → g a b = h a b
def rTF (h g : zH) : Prop := ∀ a b, ¬ ((a = 126 ∧ b < 275) ∨ a = 130 ∨ a = 132 ∨ (a = 121 ∧ (b ≤ 1 ∨ (31 ≤ b ∧ b ≤ 33)))) → g a b = h a b
theorem cTF.st {c : Nat} {v : zV} {h g : zH} (f : cTF c h g) : cTF c h (zset g 0 0 v) := fun a b hn => (zset_ne (fun e => hn (by omega))).trans (f a b hn)
theorem cP.st {c : Nat} {P : PT} {v : zV} {h : zH} (hc : 0 < c) (g : cP c P h) : cP c P (zset h 0 0 v) := g.eq (fun a b h1 _ => zset_ne (fun e => by omega))
theorem cFr.tf {c : Nat} {h g : zH} (f : cFr c h g) : cTF c h g := fun a b hn => f a b (fun e => hn (Or.inl e))
theorem cTF.rfl {c : Nat} {h : zH} : cTF c h h := fun _ _ _ => Eq.refl _
theorem rTF.rfl {h : zH} : rTF h h := fun _ _ _ => Eq.refl _
theorem rTF.trans {h g g2 : zH} (f : rTF h g) (f2 : rTF g g2) : rTF h g2 := fun a b hn => (f2 a b hn).trans (f a b hn)
theorem rTF.z {k : Nat} {v : zV} {h g : zH} (hk : k ≤ 1 ∨ (31 ≤ k ∧ k ≤ 33)) (f : rTF h g) : rTF h (zset g 121 k v) := fun a b hn => (zset_ne (fun e => hn (by omega))).trans (f a b hn)
theorem bFr.tf {h g : zH} (f : bFr h g) : rTF h g := fun a b hn => f a b (fun e => hn (Or.inl e))
/-- sums over the grid, by both sides' orders -/
def sC (P : PT) (f : Nat → Nat) : Nat → Nat
  | 0 => 0
  | n + 1 => sC P f n + (if gIx P n = 1 then f n else 0)
def sR (P : PT) (f : Nat → Nat) : Nat → Nat
  | 0 => 0
  | n + 1 => sR P f n + f (gQ P n)
theorem sC_row {P : PT} (lb : lB P) (f : Nat → Nat) {y : Nat} (hy : (y : Int) < P 0 1) (h0 : sC P f (8 * y) = sR P f ((P 0 0).toNat * y)) : ∀ x, x ≤ 8 → sC P f (8 * y + x) = sR P f ((P 0 0).toNat * y + min x (P 0 0).toNat)
  | 0, _ => by rw [Nat.zero_min]; exact h0
  | x + 1, hx => by
    have ih := sC_row lb f hy h0 x (by omega)
    show sC P f (8 * y + x) + (if gIx P (8 * y + x) = 1 then f (8 * y + x) else 0) = _
    rw [ih]
    have r6 := lb.2.1.2
    have w0 := lb.1.1
    by_cases c : (x : Int) < P 0 0
    · have g : gIn P (8 * y + x) := ⟨by omega, by omega, by omega⟩
      rw [if_pos (gIx_y g), show min x (P 0 0).toNat = x from by omega, show min (x + 1) (P 0 0).toNat = x + 1 from by omega]
      show _ = sR P f ((P 0 0).toNat * y + x) + f (gQ P ((P 0 0).toNat * y + x))
      have e : gJ P (8 * y + x) = (P 0 0).toNat * y + x := by
        unfold gJ
        rw [show (8 * y + x) / 8 = y from by omega, show (8 * y + x) % 8 = x from by omega]
      rw [← e, gQ_J lb g]
    · rw [if_neg (fun q => by
        have g := gIx_i (P := P) (q := 8 * y + x) (by omega) (by omega)
        have := g.2.1
        omega), show min x (P 0 0).toNat = (P 0 0).toNat from by omega, show min (x + 1) (P 0 0).toNat = (P 0 0).toNat from by omega, Nat.add_zero]
theorem sC_rows {P : PT} (lb : lB P) (f : Nat → Nat) : ∀ y : Nat, (y : Int) ≤ P 0 1 → sC P f (8 * y) = sR P f ((P 0 0).toNat * y)
  | 0, _ => by rw [Nat.mul_zero, Nat.mul_zero]; rfl
  | y + 1, hy => by
    have ih := sC_rows lb f y (by omega)
    have w := lb.1.2
    have r := sC_row lb f (by omega) ih 8 (Nat.le_refl _)
    rw [show 8 * (y + 1) = 8 * y + 8 from by omega, r, show min 8 (P 0 0).toNat = (P 0 0).toNat from by omega, Nat.mul_succ]
theorem sC_out {P : PT} (lb : lB P) (f : Nat → Nat) : ∀ n : Nat, 8 * (P 0 1).toNat + n ≤ 48 → sC P f (8 * (P 0 1).toNat + n) = sC P f (8 * (P 0 1).toNat)
  | 0, _ => rfl
  | n + 1, hn => by
    show sC P f (8 * (P 0 1).toNat + n) + (if gIx P (8 * (P 0 1).toNat + n) = 1 then f (8 * (P 0 1).toNat + n) else 0) = _
    rw [if_neg (fun q => by
      have g := gIx_i (P := P) (q := 8 * (P 0 1).toNat + n) (by omega) (by omega)
      have := g.2.2
      omega), Nat.add_zero]
    exact sC_out lb f n (by omega)
theorem sC_sR {P : PT} (lb : lB P) (f : Nat → Nat) : sC P f 48 = sR P f ((P 0 0).toNat * (P 0 1).toNat) := by
  have r0 := lb.2.1.1
  have r6 := lb.2.1.2
  have a := sC_out lb f (48 - 8 * (P 0 1).toNat) (by omega)
  rw [show 8 * (P 0 1).toNat + (48 - 8 * (P 0 1).toNat) = 48 from by omega] at a
  rw [a]
  exact sC_rows lb f (P 0 1).toNat (by omega)
theorem uS_sR {P : PT} {j t : Nat} : ∀ n, uS P j t n = sR P (fun q => if P 3 (48 * j + q) = P 3 (48 * t + q) then 0 else 1) n
  | 0 => rfl
  | n + 1 => by
    show uS P j t n + _ = sR P _ n + _
    rw [uS_sR n]
theorem sC_le {P : PT} {f : Nat → Nat} (hf : ∀ q, f q ≤ 1) : ∀ n, sC P f n ≤ n
  | 0 => Nat.le_refl _
  | n + 1 => by
    have := sC_le (P := P) hf n
    have := hf n
    show sC P f n + (if gIx P n = 1 then f n else 0) ≤ n + 1
    split <;> omega
theorem qt_bite0_24 {D : zD} {T : zT} (hT : hTab T) (hO : vOK T) {N : Nat} {h : zH} {Q : zR → Prop} {P : PT} (x y z : Int) (hv0 : zHv h) (e7 : h 0 7 = (2, 24)) (p0 : h 24 0 = (0, P 0 0)) (p1 : h 24 1 = (0, P 0 1)) (p2 : h 24 2 = (0, P 0 2)) (p3 : h 24 3 = (0, P 0 3)) (lb : (0 ≤ P 0 0 ∧ P 0 0 ≤ 8) ∧ (0 ≤ P 0 1 ∧ P 0 1 ≤ 6) ∧ (0 ≤ P 0 2 ∧ P 0 2 ≤ 3) ∧ (0 ≤ P 0 3 ∧ P 0 3 ≤ 6))
    (k0 : (x < 0) → Q (zset h 0 0 (0, 2), some (0, -1)))
    (k1 : (0 ≤ x) → (x < (P 0 2)) → (y < 0) → Q (zset h 0 0 (0, 2), some (0, -1)))
    (k2 : (0 ≤ x) → (x < (P 0 2)) → (0 ≤ y) → (y < (P 0 0)) → (z < 0) → Q (zset h 0 0 (0, 2), some (0, -1)))
    (k3 : (0 ≤ x) → (x < (P 0 2)) → (0 ≤ y) → (y < (P 0 0)) → (0 ≤ z) → (z < (P 0 1)) → vP D T N 146 19 h [some (2, 0), some (0, x), some (0, y), some (0, z), none] [] Q)
    (k4 : (0 ≤ x) → (x < (P 0 2)) → (0 ≤ y) → (y < (P 0 0)) → (0 ≤ z) → ((P 0 1) ≤ z) → Q (zset h 0 0 (0, 2), some (0, -1)))
    (k5 : (0 ≤ x) → (x < (P 0 2)) → (0 ≤ y) → ((P 0 0) ≤ y) → Q (zset h 0 0 (0, 2), some (0, -1)))
    (k6 : (0 ≤ x) → ((P 0 2) ≤ x) → Q (zset h 0 0 (0, 2), some (0, -1))) :
    vP D T N 146 0 h [some (2, 0), some (0, x), some (0, y), some (0, z), none] [] Q := by
  refine v_load (v := (2, 0)) (hz_X11_bite hT _ _ rfl) rfl rfl ?_
  refine v_getf (v := (2, 24)) (r := 0) (hz_X11_bite hT _ _ rfl) rfl rfl (fun _ => e7) ?_
  refine v_load (v := (0, x)) (hz_X11_bite hT _ _ rfl) rfl rfl ?_
  refine v_load (v := (0, y)) (hz_X11_bite hT _ _ rfl) rfl rfl ?_
  refine v_load (v := (0, z)) (hz_X11_bite hT _ _ rfl) rfl rfl ?_
  refine v_call (w := 4) [some (2, 24), some (0, x), some (0, y), some (0, z)] hO (hz_X11_bite hT _ _ rfl) rfl rfl ?_
  refine v_load (v := (2, 24)) (hi_X2_hasCopyCell_0 hT) rfl rfl ?_
  refine v_load (v := (0, x)) (hi_X2_hasCopyCell_1 hT) rfl rfl ?_
  refine v_call (w := 2) [some (2, 24), some (0, x)] hO (hi_X2_hasCopyCell_2 hT) rfl rfl ?_
  refine v_load (v := (0, x)) (hi_X2_hasCopy_0 hT) rfl rfl ?_
  refine v_if (hi_X2_hasCopy_1 hT) (fun hc1 => ?_) (fun hc1 => ?_)
  · have hc1 : x < 0 := hc1
    refine v_push (0) (hi_X2_hasCopy_16 hT) rfl ?_
    refine v_ret (hi_X2_hasCopy_17 hT) (Or.inl rfl) ?_
    show vP D T N 44 5 h [some (2, 24), some (0, x), some (0, y), some (0, z)] [(0, 0)] _
    refine v_if (hi_X2_hasCopyCell_5 hT) (fun _ => ?_) (fun hc2 => absurd (show (0 : Int) = 0 from (by decide)) hc2)
    refine v_push (0) (hi_X2_hasCopyCell_21 hT) rfl ?_
    refine v_ret (hi_X2_hasCopyCell_22 hT) (Or.inl rfl) ?_
    show vP D T N 146 10 h [some (2, 0), some (0, x), some (0, y), some (0, z), none] [(0, 0)] _
    refine v_if (hi_X11_bite_10 hT) (fun _ => ?_) (fun hc3 => absurd (show (0 : Int) = 0 from (by decide)) hc3)
    refine v_load (v := (2, 0)) (hi_X11_bite_13 hT) rfl rfl ?_
    refine v_push (2) (hi_X11_bite_14 hT) rfl ?_
    refine v_call (w := 2) [some (2, 0), some (0, 2)] hO (hi_X11_bite_15 hT) rfl rfl ?_
    refine v_load (v := (2, 0)) (hi_X11_refused_0 hT) rfl rfl ?_
    refine v_load (v := (0, 2)) (hi_X11_refused_1 hT) rfl rfl ?_
    refine v_putf (r := 0) hO (hi_X11_refused_2 hT) rfl (fun hf4 => ?_)
    refine v_push (-1) (hi_X11_refused_5 hT) rfl ?_
    refine v_ret (hi_X11_refused_6 hT) (Or.inl rfl) ?_
    show vP D T N 146 18 (zset h 0 0 (0, 2)) [some (2, 0), some (0, x), some (0, y), some (0, z), none] [(0, -1)] _
    refine v_ret (hi_X11_bite_18 hT) (Or.inl rfl) ?_
    exact k0 hc1
  · have hc1 : 0 ≤ x := Int.not_lt.mp hc1
    refine v_load (v := (0, x)) (hi_X2_hasCopy_4 hT) rfl rfl ?_
    refine v_load (v := (2, 24)) (hi_X2_hasCopy_5 hT) rfl rfl ?_
    refine v_getf (v := (0, (P 0 2))) (r := 24) (hi_X2_hasCopy_6 hT) rfl rfl (fun _ => p2) ?_
    refine v_ic (hi_X2_hasCopy_9 hT) (fun hc5 => ?_) (fun hc5 => ?_)
    · have hc5 : x < (P 0 2) := hc5
      refine v_push (1) (hi_X2_hasCopy_12 hT) rfl ?_
      refine v_goto (hi_X2_hasCopy_13 hT) ?_
      refine v_ret (hi_X2_hasCopy_17 hT) (Or.inl rfl) ?_
      show vP D T N 44 5 h [some (2, 24), some (0, x), some (0, y), some (0, z)] [(0, 1)] _
      refine v_if (hi_X2_hasCopyCell_5 hT) (fun hc6 => absurd (show (1 : Int) = 0 from hc6) (by decide)) (fun _ => ?_)
      refine v_load (v := (2, 24)) (hi_X2_hasCopyCell_8 hT) rfl rfl ?_
      refine v_load (v := (0, y)) (hi_X2_hasCopyCell_9 hT) rfl rfl ?_
      refine v_load (v := (0, z)) (hi_X2_hasCopyCell_10 hT) rfl rfl ?_
      refine v_call (w := 3) [some (2, 24), some (0, y), some (0, z)] hO (hi_X2_hasCopyCell_11 hT) rfl rfl ?_
      refine v_load (v := (0, y)) (hi_X2_hasCell_0 hT) rfl rfl ?_
      refine v_if (hi_X2_hasCell_1 hT) (fun hc7 => ?_) (fun hc7 => ?_)
      · have hc7 : y < 0 := hc7
        refine v_push (0) (hi_X2_hasCell_28 hT) rfl ?_
        refine v_ret (hi_X2_hasCell_29 hT) (Or.inl rfl) ?_
        show vP D T N 44 14 h [some (2, 24), some (0, x), some (0, y), some (0, z)] [(0, 0)] _
        refine v_if (hi_X2_hasCopyCell_14 hT) (fun _ => ?_) (fun hc8 => absurd (show (0 : Int) = 0 from (by decide)) hc8)
        refine v_push (0) (hi_X2_hasCopyCell_21 hT) rfl ?_
        refine v_ret (hi_X2_hasCopyCell_22 hT) (Or.inl rfl) ?_
        show vP D T N 146 10 h [some (2, 0), some (0, x), some (0, y), some (0, z), none] [(0, 0)] _
        refine v_if (hi_X11_bite_10 hT) (fun _ => ?_) (fun hc9 => absurd (show (0 : Int) = 0 from (by decide)) hc9)
        refine v_load (v := (2, 0)) (hi_X11_bite_13 hT) rfl rfl ?_
        refine v_push (2) (hi_X11_bite_14 hT) rfl ?_
        refine v_call (w := 2) [some (2, 0), some (0, 2)] hO (hi_X11_bite_15 hT) rfl rfl ?_
        refine v_load (v := (2, 0)) (hi_X11_refused_0 hT) rfl rfl ?_
        refine v_load (v := (0, 2)) (hi_X11_refused_1 hT) rfl rfl ?_
        refine v_putf (r := 0) hO (hi_X11_refused_2 hT) rfl (fun hf10 => ?_)
        refine v_push (-1) (hi_X11_refused_5 hT) rfl ?_
        refine v_ret (hi_X11_refused_6 hT) (Or.inl rfl) ?_
        show vP D T N 146 18 (zset h 0 0 (0, 2)) [some (2, 0), some (0, x), some (0, y), some (0, z), none] [(0, -1)] _
        refine v_ret (hi_X11_bite_18 hT) (Or.inl rfl) ?_
        exact k1 hc1 hc5 hc7
      · have hc7 : 0 ≤ y := Int.not_lt.mp hc7
        refine v_load (v := (0, y)) (hi_X2_hasCell_4 hT) rfl rfl ?_
        refine v_load (v := (2, 24)) (hi_X2_hasCell_5 hT) rfl rfl ?_
        refine v_getf (v := (0, (P 0 0))) (r := 24) (hi_X2_hasCell_6 hT) rfl rfl (fun _ => p0) ?_
        refine v_ic (hi_X2_hasCell_9 hT) (fun hc11 => ?_) (fun hc11 => ?_)
        · have hc11 : y < (P 0 0) := hc11
          refine v_load (v := (0, z)) (hi_X2_hasCell_12 hT) rfl rfl ?_
          refine v_if (hi_X2_hasCell_13 hT) (fun hc12 => ?_) (fun hc12 => ?_)
          · have hc12 : z < 0 := hc12
            refine v_push (0) (hi_X2_hasCell_28 hT) rfl ?_
            refine v_ret (hi_X2_hasCell_29 hT) (Or.inl rfl) ?_
            show vP D T N 44 14 h [some (2, 24), some (0, x), some (0, y), some (0, z)] [(0, 0)] _
            refine v_if (hi_X2_hasCopyCell_14 hT) (fun _ => ?_) (fun hc13 => absurd (show (0 : Int) = 0 from (by decide)) hc13)
            refine v_push (0) (hi_X2_hasCopyCell_21 hT) rfl ?_
            refine v_ret (hi_X2_hasCopyCell_22 hT) (Or.inl rfl) ?_
            show vP D T N 146 10 h [some (2, 0), some (0, x), some (0, y), some (0, z), none] [(0, 0)] _
            refine v_if (hi_X11_bite_10 hT) (fun _ => ?_) (fun hc14 => absurd (show (0 : Int) = 0 from (by decide)) hc14)
            refine v_load (v := (2, 0)) (hi_X11_bite_13 hT) rfl rfl ?_
            refine v_push (2) (hi_X11_bite_14 hT) rfl ?_
            refine v_call (w := 2) [some (2, 0), some (0, 2)] hO (hi_X11_bite_15 hT) rfl rfl ?_
            refine v_load (v := (2, 0)) (hi_X11_refused_0 hT) rfl rfl ?_
            refine v_load (v := (0, 2)) (hi_X11_refused_1 hT) rfl rfl ?_
            refine v_putf (r := 0) hO (hi_X11_refused_2 hT) rfl (fun hf15 => ?_)
            refine v_push (-1) (hi_X11_refused_5 hT) rfl ?_
            refine v_ret (hi_X11_refused_6 hT) (Or.inl rfl) ?_
            show vP D T N 146 18 (zset h 0 0 (0, 2)) [some (2, 0), some (0, x), some (0, y), some (0, z), none] [(0, -1)] _
            refine v_ret (hi_X11_bite_18 hT) (Or.inl rfl) ?_
            exact k2 hc1 hc5 hc7 hc11 hc12
          · have hc12 : 0 ≤ z := Int.not_lt.mp hc12
            refine v_load (v := (0, z)) (hi_X2_hasCell_16 hT) rfl rfl ?_
            refine v_load (v := (2, 24)) (hi_X2_hasCell_17 hT) rfl rfl ?_
            refine v_getf (v := (0, (P 0 1))) (r := 24) (hi_X2_hasCell_18 hT) rfl rfl (fun _ => p1) ?_
            refine v_ic (hi_X2_hasCell_21 hT) (fun hc16 => ?_) (fun hc16 => ?_)
            · have hc16 : z < (P 0 1) := hc16
              refine v_push (1) (hi_X2_hasCell_24 hT) rfl ?_
              refine v_goto (hi_X2_hasCell_25 hT) ?_
              refine v_ret (hi_X2_hasCell_29 hT) (Or.inl rfl) ?_
              show vP D T N 44 14 h [some (2, 24), some (0, x), some (0, y), some (0, z)] [(0, 1)] _
              refine v_if (hi_X2_hasCopyCell_14 hT) (fun hc17 => absurd (show (1 : Int) = 0 from hc17) (by decide)) (fun _ => ?_)
              refine v_push (1) (hi_X2_hasCopyCell_17 hT) rfl ?_
              refine v_goto (hi_X2_hasCopyCell_18 hT) ?_
              refine v_ret (hi_X2_hasCopyCell_22 hT) (Or.inl rfl) ?_
              show vP D T N 146 10 h [some (2, 0), some (0, x), some (0, y), some (0, z), none] [(0, 1)] _
              refine v_if (hi_X11_bite_10 hT) (fun hc18 => absurd (show (1 : Int) = 0 from hc18) (by decide)) (fun _ => ?_)
              exact k3 hc1 hc5 hc7 hc11 hc12 hc16
            · have hc16 : (P 0 1) ≤ z := Int.not_lt.mp hc16
              refine v_push (0) (hi_X2_hasCell_28 hT) rfl ?_
              refine v_ret (hi_X2_hasCell_29 hT) (Or.inl rfl) ?_
              show vP D T N 44 14 h [some (2, 24), some (0, x), some (0, y), some (0, z)] [(0, 0)] _
              refine v_if (hi_X2_hasCopyCell_14 hT) (fun _ => ?_) (fun hc19 => absurd (show (0 : Int) = 0 from (by decide)) hc19)
              refine v_push (0) (hi_X2_hasCopyCell_21 hT) rfl ?_
              refine v_ret (hi_X2_hasCopyCell_22 hT) (Or.inl rfl) ?_
              show vP D T N 146 10 h [some (2, 0), some (0, x), some (0, y), some (0, z), none] [(0, 0)] _
              refine v_if (hi_X11_bite_10 hT) (fun _ => ?_) (fun hc20 => absurd (show (0 : Int) = 0 from (by decide)) hc20)
              refine v_load (v := (2, 0)) (hi_X11_bite_13 hT) rfl rfl ?_
              refine v_push (2) (hi_X11_bite_14 hT) rfl ?_
              refine v_call (w := 2) [some (2, 0), some (0, 2)] hO (hi_X11_bite_15 hT) rfl rfl ?_
              refine v_load (v := (2, 0)) (hi_X11_refused_0 hT) rfl rfl ?_
              refine v_load (v := (0, 2)) (hi_X11_refused_1 hT) rfl rfl ?_
              refine v_putf (r := 0) hO (hi_X11_refused_2 hT) rfl (fun hf21 => ?_)
              refine v_push (-1) (hi_X11_refused_5 hT) rfl ?_
              refine v_ret (hi_X11_refused_6 hT) (Or.inl rfl) ?_
              show vP D T N 146 18 (zset h 0 0 (0, 2)) [some (2, 0), some (0, x), some (0, y), some (0, z), none] [(0, -1)] _
              refine v_ret (hi_X11_bite_18 hT) (Or.inl rfl) ?_
              exact k4 hc1 hc5 hc7 hc11 hc12 hc16
        · have hc11 : (P 0 0) ≤ y := Int.not_lt.mp hc11
          refine v_push (0) (hi_X2_hasCell_28 hT) rfl ?_
          refine v_ret (hi_X2_hasCell_29 hT) (Or.inl rfl) ?_
          show vP D T N 44 14 h [some (2, 24), some (0, x), some (0, y), some (0, z)] [(0, 0)] _
          refine v_if (hi_X2_hasCopyCell_14 hT) (fun _ => ?_) (fun hc22 => absurd (show (0 : Int) = 0 from (by decide)) hc22)
          refine v_push (0) (hi_X2_hasCopyCell_21 hT) rfl ?_
          refine v_ret (hi_X2_hasCopyCell_22 hT) (Or.inl rfl) ?_
          show vP D T N 146 10 h [some (2, 0), some (0, x), some (0, y), some (0, z), none] [(0, 0)] _
          refine v_if (hi_X11_bite_10 hT) (fun _ => ?_) (fun hc23 => absurd (show (0 : Int) = 0 from (by decide)) hc23)
          refine v_load (v := (2, 0)) (hi_X11_bite_13 hT) rfl rfl ?_
          refine v_push (2) (hi_X11_bite_14 hT) rfl ?_
          refine v_call (w := 2) [some (2, 0), some (0, 2)] hO (hi_X11_bite_15 hT) rfl rfl ?_
          refine v_load (v := (2, 0)) (hi_X11_refused_0 hT) rfl rfl ?_
          refine v_load (v := (0, 2)) (hi_X11_refused_1 hT) rfl rfl ?_
          refine v_putf (r := 0) hO (hi_X11_refused_2 hT) rfl (fun hf24 => ?_)
          refine v_push (-1) (hi_X11_refused_5 hT) rfl ?_
          refine v_ret (hi_X11_refused_6 hT) (Or.inl rfl) ?_
          show vP D T N 146 18 (zset h 0 0 (0, 2)) [some (2, 0), some (0, x), some (0, y), some (0, z), none] [(0, -1)] _
          refine v_ret (hi_X11_bite_18 hT) (Or.inl rfl) ?_
          exact k5 hc1 hc5 hc7 hc11
    · have hc5 : (P 0 2) ≤ x := Int.not_lt.mp hc5
      refine v_push (0) (hi_X2_hasCopy_16 hT) rfl ?_
      refine v_ret (hi_X2_hasCopy_17 hT) (Or.inl rfl) ?_
      show vP D T N 44 5 h [some (2, 24), some (0, x), some (0, y), some (0, z)] [(0, 0)] _
      refine v_if (hi_X2_hasCopyCell_5 hT) (fun _ => ?_) (fun hc25 => absurd (show (0 : Int) = 0 from (by decide)) hc25)
      refine v_push (0) (hi_X2_hasCopyCell_21 hT) rfl ?_
      refine v_ret (hi_X2_hasCopyCell_22 hT) (Or.inl rfl) ?_
      show vP D T N 146 10 h [some (2, 0), some (0, x), some (0, y), some (0, z), none] [(0, 0)] _
      refine v_if (hi_X11_bite_10 hT) (fun _ => ?_) (fun hc26 => absurd (show (0 : Int) = 0 from (by decide)) hc26)
      refine v_load (v := (2, 0)) (hi_X11_bite_13 hT) rfl rfl ?_
      refine v_push (2) (hi_X11_bite_14 hT) rfl ?_
      refine v_call (w := 2) [some (2, 0), some (0, 2)] hO (hi_X11_bite_15 hT) rfl rfl ?_
      refine v_load (v := (2, 0)) (hi_X11_refused_0 hT) rfl rfl ?_
      refine v_load (v := (0, 2)) (hi_X11_refused_1 hT) rfl rfl ?_
      refine v_putf (r := 0) hO (hi_X11_refused_2 hT) rfl (fun hf27 => ?_)
      refine v_push (-1) (hi_X11_refused_5 hT) rfl ?_
      refine v_ret (hi_X11_refused_6 hT) (Or.inl rfl) ?_
      show vP D T N 146 18 (zset h 0 0 (0, 2)) [some (2, 0), some (0, x), some (0, y), some (0, z), none] [(0, -1)] _
      refine v_ret (hi_X11_bite_18 hT) (Or.inl rfl) ?_
      exact k6 hc1 hc5
theorem qt_bite19_24 {D : zD} {T : zT} (hT : hTab T) (hO : vOK T) {N : Nat} {h : zH} {Q : zR → Prop} {j u v : Nat} (hv0 : zHv h) (e7 : h 0 7 = (2, 24)) (bu : u < 8) (bv : v < 6)
    (k0 : vP D T N 35 0 h [some (2, 24), some (0, (j : Int)), some (0, (((v : Int) * 8) + (u : Int)))] [] (fun r1 => vP D T N 146 36 r1.1 [some (2, 0), some (0, (j : Int)), some (0, (u : Int)), some (0, (v : Int)), some (0, (((v : Int) * 8) + (u : Int)))] (zpush r1.2 []) Q)) :
    vP D T N 146 19 h [some (2, 0), some (0, (j : Int)), some (0, (u : Int)), some (0, (v : Int)), none] [] Q := by
  refine v_load (v := (0, (u : Int))) (hz_X11_bite hT _ _ rfl) rfl rfl ?_
  refine v_load (v := (0, (v : Int))) (hz_X11_bite hT _ _ rfl) rfl rfl ?_
  refine v_call (w := 2) [some (0, (u : Int)), some (0, (v : Int))] hO (hz_X11_bite hT _ _ rfl) rfl rfl ?_
  refine v_load (v := (0, (v : Int))) (hi_X2_cellAt_0 hT) rfl rfl ?_
  refine v_push (8) (hi_X2_cellAt_1 hT) rfl ?_
  refine v_bin (w := ((v : Int) * 8)) (hi_X2_cellAt_3 hT) (hq_mul (by omega) (by omega)) ?_
  refine v_load (v := (0, (u : Int))) (hi_X2_cellAt_4 hT) rfl rfl ?_
  refine v_bin (w := (((v : Int) * 8) + (u : Int))) (hi_X2_cellAt_5 hT) (hq_add (by omega) (by omega)) ?_
  refine v_ret (hi_X2_cellAt_6 hT) (Or.inl rfl) ?_
  show vP D T N 146 24 h [some (2, 0), some (0, (j : Int)), some (0, (u : Int)), some (0, (v : Int)), none] [(0, (((v : Int) * 8) + (u : Int)))] _
  refine v_store1 [some (2, 0), some (0, (j : Int)), some (0, (u : Int)), some (0, (v : Int)), some (0, (((v : Int) * 8) + (u : Int)))] (hz_X11_bite hT _ _ rfl) ⟨rfl, Nat.ne_of_beq_eq_false rfl⟩ (Nat.le_of_ble_eq_true rfl) rfl ?_
  refine v_load (v := (2, 0)) (hz_X11_bite hT _ _ rfl) rfl rfl ?_
  refine v_getf (v := (2, 24)) (r := 0) (hz_X11_bite hT _ _ rfl) rfl rfl (fun _ => e7) ?_
  refine v_load (v := (0, (j : Int))) (hz_X11_bite hT _ _ rfl) rfl rfl ?_
  refine v_load (v := (0, (((v : Int) * 8) + (u : Int)))) (hz_X11_bite hT _ _ rfl) rfl rfl ?_
  refine v_call (w := 3) [some (2, 24), some (0, (j : Int)), some (0, (((v : Int) * 8) + (u : Int)))] hO (hz_X11_bite hT _ _ rfl) rfl rfl ?_
  exact k0 
theorem qt_mould0_24 {D : zD} {T : zT} (hT : hTab T) (hO : vOK T) {N : Nat} {h : zH} {Q : zR → Prop} {P : PT} (x y z : Int) (hv0 : zHv h) (e7 : h 0 7 = (2, 24)) (p0 : h 24 0 = (0, P 0 0)) (p1 : h 24 1 = (0, P 0 1)) (p2 : h 24 2 = (0, P 0 2)) (p3 : h 24 3 = (0, P 0 3)) (lb : (0 ≤ P 0 0 ∧ P 0 0 ≤ 8) ∧ (0 ≤ P 0 1 ∧ P 0 1 ≤ 6) ∧ (0 ≤ P 0 2 ∧ P 0 2 ≤ 3) ∧ (0 ≤ P 0 3 ∧ P 0 3 ≤ 6))
    (k0 : (x < 0) → Q (zset h 0 0 (0, 2), some (0, 0)))
    (k1 : (0 ≤ x) → (x < (P 0 2)) → (y < 0) → Q (zset h 0 0 (0, 2), some (0, 0)))
    (k2 : (0 ≤ x) → (x < (P 0 2)) → (0 ≤ y) → (y < (P 0 0)) → (z < 0) → Q (zset h 0 0 (0, 2), some (0, 0)))
    (k3 : (0 ≤ x) → (x < (P 0 2)) → (0 ≤ y) → (y < (P 0 0)) → (0 ≤ z) → (z < (P 0 1)) → vP D T N 168 19 h [some (2, 0), some (0, x), some (0, y), some (0, z)] [] Q)
    (k4 : (0 ≤ x) → (x < (P 0 2)) → (0 ≤ y) → (y < (P 0 0)) → (0 ≤ z) → ((P 0 1) ≤ z) → Q (zset h 0 0 (0, 2), some (0, 0)))
    (k5 : (0 ≤ x) → (x < (P 0 2)) → (0 ≤ y) → ((P 0 0) ≤ y) → Q (zset h 0 0 (0, 2), some (0, 0)))
    (k6 : (0 ≤ x) → ((P 0 2) ≤ x) → Q (zset h 0 0 (0, 2), some (0, 0))) :
    vP D T N 168 0 h [some (2, 0), some (0, x), some (0, y), some (0, z)] [] Q := by
  refine v_load (v := (2, 0)) (hz_X11_mould hT _ _ rfl) rfl rfl ?_
  refine v_getf (v := (2, 24)) (r := 0) (hz_X11_mould hT _ _ rfl) rfl rfl (fun _ => e7) ?_
  refine v_load (v := (0, x)) (hz_X11_mould hT _ _ rfl) rfl rfl ?_
  refine v_load (v := (0, y)) (hz_X11_mould hT _ _ rfl) rfl rfl ?_
  refine v_load (v := (0, z)) (hz_X11_mould hT _ _ rfl) rfl rfl ?_
  refine v_call (w := 4) [some (2, 24), some (0, x), some (0, y), some (0, z)] hO (hz_X11_mould hT _ _ rfl) rfl rfl ?_
  refine v_load (v := (2, 24)) (hi_X2_hasCopyCell_0 hT) rfl rfl ?_
  refine v_load (v := (0, x)) (hi_X2_hasCopyCell_1 hT) rfl rfl ?_
  refine v_call (w := 2) [some (2, 24), some (0, x)] hO (hi_X2_hasCopyCell_2 hT) rfl rfl ?_
  refine v_load (v := (0, x)) (hi_X2_hasCopy_0 hT) rfl rfl ?_
  refine v_if (hi_X2_hasCopy_1 hT) (fun hc1 => ?_) (fun hc1 => ?_)
  · have hc1 : x < 0 := hc1
    refine v_push (0) (hi_X2_hasCopy_16 hT) rfl ?_
    refine v_ret (hi_X2_hasCopy_17 hT) (Or.inl rfl) ?_
    show vP D T N 44 5 h [some (2, 24), some (0, x), some (0, y), some (0, z)] [(0, 0)] _
    refine v_if (hi_X2_hasCopyCell_5 hT) (fun _ => ?_) (fun hc2 => absurd (show (0 : Int) = 0 from (by decide)) hc2)
    refine v_push (0) (hi_X2_hasCopyCell_21 hT) rfl ?_
    refine v_ret (hi_X2_hasCopyCell_22 hT) (Or.inl rfl) ?_
    show vP D T N 168 10 h [some (2, 0), some (0, x), some (0, y), some (0, z)] [(0, 0)] _
    refine v_if (hi_X11_mould_10 hT) (fun _ => ?_) (fun hc3 => absurd (show (0 : Int) = 0 from (by decide)) hc3)
    refine v_load (v := (2, 0)) (hi_X11_mould_13 hT) rfl rfl ?_
    refine v_push (2) (hi_X11_mould_14 hT) rfl ?_
    refine v_call (w := 2) [some (2, 0), some (0, 2)] hO (hi_X11_mould_15 hT) rfl rfl ?_
    refine v_load (v := (2, 0)) (hi_X11_refuse_0 hT) rfl rfl ?_
    refine v_load (v := (0, 2)) (hi_X11_refuse_1 hT) rfl rfl ?_
    refine v_putf (r := 0) hO (hi_X11_refuse_2 hT) rfl (fun hf4 => ?_)
    refine v_push (0) (hi_X11_refuse_5 hT) rfl ?_
    refine v_ret (hi_X11_refuse_6 hT) (Or.inl rfl) ?_
    show vP D T N 168 18 (zset h 0 0 (0, 2)) [some (2, 0), some (0, x), some (0, y), some (0, z)] [(0, 0)] _
    refine v_ret (hi_X11_mould_18 hT) (Or.inl rfl) ?_
    exact k0 hc1
  · have hc1 : 0 ≤ x := Int.not_lt.mp hc1
    refine v_load (v := (0, x)) (hi_X2_hasCopy_4 hT) rfl rfl ?_
    refine v_load (v := (2, 24)) (hi_X2_hasCopy_5 hT) rfl rfl ?_
    refine v_getf (v := (0, (P 0 2))) (r := 24) (hi_X2_hasCopy_6 hT) rfl rfl (fun _ => p2) ?_
    refine v_ic (hi_X2_hasCopy_9 hT) (fun hc5 => ?_) (fun hc5 => ?_)
    · have hc5 : x < (P 0 2) := hc5
      refine v_push (1) (hi_X2_hasCopy_12 hT) rfl ?_
      refine v_goto (hi_X2_hasCopy_13 hT) ?_
      refine v_ret (hi_X2_hasCopy_17 hT) (Or.inl rfl) ?_
      show vP D T N 44 5 h [some (2, 24), some (0, x), some (0, y), some (0, z)] [(0, 1)] _
      refine v_if (hi_X2_hasCopyCell_5 hT) (fun hc6 => absurd (show (1 : Int) = 0 from hc6) (by decide)) (fun _ => ?_)
      refine v_load (v := (2, 24)) (hi_X2_hasCopyCell_8 hT) rfl rfl ?_
      refine v_load (v := (0, y)) (hi_X2_hasCopyCell_9 hT) rfl rfl ?_
      refine v_load (v := (0, z)) (hi_X2_hasCopyCell_10 hT) rfl rfl ?_
      refine v_call (w := 3) [some (2, 24), some (0, y), some (0, z)] hO (hi_X2_hasCopyCell_11 hT) rfl rfl ?_
      refine v_load (v := (0, y)) (hi_X2_hasCell_0 hT) rfl rfl ?_
      refine v_if (hi_X2_hasCell_1 hT) (fun hc7 => ?_) (fun hc7 => ?_)
      · have hc7 : y < 0 := hc7
        refine v_push (0) (hi_X2_hasCell_28 hT) rfl ?_
        refine v_ret (hi_X2_hasCell_29 hT) (Or.inl rfl) ?_
        show vP D T N 44 14 h [some (2, 24), some (0, x), some (0, y), some (0, z)] [(0, 0)] _
        refine v_if (hi_X2_hasCopyCell_14 hT) (fun _ => ?_) (fun hc8 => absurd (show (0 : Int) = 0 from (by decide)) hc8)
        refine v_push (0) (hi_X2_hasCopyCell_21 hT) rfl ?_
        refine v_ret (hi_X2_hasCopyCell_22 hT) (Or.inl rfl) ?_
        show vP D T N 168 10 h [some (2, 0), some (0, x), some (0, y), some (0, z)] [(0, 0)] _
        refine v_if (hi_X11_mould_10 hT) (fun _ => ?_) (fun hc9 => absurd (show (0 : Int) = 0 from (by decide)) hc9)
        refine v_load (v := (2, 0)) (hi_X11_mould_13 hT) rfl rfl ?_
        refine v_push (2) (hi_X11_mould_14 hT) rfl ?_
        refine v_call (w := 2) [some (2, 0), some (0, 2)] hO (hi_X11_mould_15 hT) rfl rfl ?_
        refine v_load (v := (2, 0)) (hi_X11_refuse_0 hT) rfl rfl ?_
        refine v_load (v := (0, 2)) (hi_X11_refuse_1 hT) rfl rfl ?_
        refine v_putf (r := 0) hO (hi_X11_refuse_2 hT) rfl (fun hf10 => ?_)
        refine v_push (0) (hi_X11_refuse_5 hT) rfl ?_
        refine v_ret (hi_X11_refuse_6 hT) (Or.inl rfl) ?_
        show vP D T N 168 18 (zset h 0 0 (0, 2)) [some (2, 0), some (0, x), some (0, y), some (0, z)] [(0, 0)] _
        refine v_ret (hi_X11_mould_18 hT) (Or.inl rfl) ?_
        exact k1 hc1 hc5 hc7
      · have hc7 : 0 ≤ y := Int.not_lt.mp hc7
        refine v_load (v := (0, y)) (hi_X2_hasCell_4 hT) rfl rfl ?_
        refine v_load (v := (2, 24)) (hi_X2_hasCell_5 hT) rfl rfl ?_
        refine v_getf (v := (0, (P 0 0))) (r := 24) (hi_X2_hasCell_6 hT) rfl rfl (fun _ => p0) ?_
        refine v_ic (hi_X2_hasCell_9 hT) (fun hc11 => ?_) (fun hc11 => ?_)
        · have hc11 : y < (P 0 0) := hc11
          refine v_load (v := (0, z)) (hi_X2_hasCell_12 hT) rfl rfl ?_
          refine v_if (hi_X2_hasCell_13 hT) (fun hc12 => ?_) (fun hc12 => ?_)
          · have hc12 : z < 0 := hc12
            refine v_push (0) (hi_X2_hasCell_28 hT) rfl ?_
            refine v_ret (hi_X2_hasCell_29 hT) (Or.inl rfl) ?_
            show vP D T N 44 14 h [some (2, 24), some (0, x), some (0, y), some (0, z)] [(0, 0)] _
            refine v_if (hi_X2_hasCopyCell_14 hT) (fun _ => ?_) (fun hc13 => absurd (show (0 : Int) = 0 from (by decide)) hc13)
            refine v_push (0) (hi_X2_hasCopyCell_21 hT) rfl ?_
            refine v_ret (hi_X2_hasCopyCell_22 hT) (Or.inl rfl) ?_
            show vP D T N 168 10 h [some (2, 0), some (0, x), some (0, y), some (0, z)] [(0, 0)] _
            refine v_if (hi_X11_mould_10 hT) (fun _ => ?_) (fun hc14 => absurd (show (0 : Int) = 0 from (by decide)) hc14)
            refine v_load (v := (2, 0)) (hi_X11_mould_13 hT) rfl rfl ?_
            refine v_push (2) (hi_X11_mould_14 hT) rfl ?_
            refine v_call (w := 2) [some (2, 0), some (0, 2)] hO (hi_X11_mould_15 hT) rfl rfl ?_
            refine v_load (v := (2, 0)) (hi_X11_refuse_0 hT) rfl rfl ?_
            refine v_load (v := (0, 2)) (hi_X11_refuse_1 hT) rfl rfl ?_
            refine v_putf (r := 0) hO (hi_X11_refuse_2 hT) rfl (fun hf15 => ?_)
            refine v_push (0) (hi_X11_refuse_5 hT) rfl ?_
            refine v_ret (hi_X11_refuse_6 hT) (Or.inl rfl) ?_
            show vP D T N 168 18 (zset h 0 0 (0, 2)) [some (2, 0), some (0, x), some (0, y), some (0, z)] [(0, 0)] _
            refine v_ret (hi_X11_mould_18 hT) (Or.inl rfl) ?_
            exact k2 hc1 hc5 hc7 hc11 hc12
          · have hc12 : 0 ≤ z := Int.not_lt.mp hc12
            refine v_load (v := (0, z)) (hi_X2_hasCell_16 hT) rfl rfl ?_
            refine v_load (v := (2, 24)) (hi_X2_hasCell_17 hT) rfl rfl ?_
            refine v_getf (v := (0, (P 0 1))) (r := 24) (hi_X2_hasCell_18 hT) rfl rfl (fun _ => p1) ?_
            refine v_ic (hi_X2_hasCell_21 hT) (fun hc16 => ?_) (fun hc16 => ?_)
            · have hc16 : z < (P 0 1) := hc16
              refine v_push (1) (hi_X2_hasCell_24 hT) rfl ?_
              refine v_goto (hi_X2_hasCell_25 hT) ?_
              refine v_ret (hi_X2_hasCell_29 hT) (Or.inl rfl) ?_
              show vP D T N 44 14 h [some (2, 24), some (0, x), some (0, y), some (0, z)] [(0, 1)] _
              refine v_if (hi_X2_hasCopyCell_14 hT) (fun hc17 => absurd (show (1 : Int) = 0 from hc17) (by decide)) (fun _ => ?_)
              refine v_push (1) (hi_X2_hasCopyCell_17 hT) rfl ?_
              refine v_goto (hi_X2_hasCopyCell_18 hT) ?_
              refine v_ret (hi_X2_hasCopyCell_22 hT) (Or.inl rfl) ?_
              show vP D T N 168 10 h [some (2, 0), some (0, x), some (0, y), some (0, z)] [(0, 1)] _
              refine v_if (hi_X11_mould_10 hT) (fun hc18 => absurd (show (1 : Int) = 0 from hc18) (by decide)) (fun _ => ?_)
              exact k3 hc1 hc5 hc7 hc11 hc12 hc16
            · have hc16 : (P 0 1) ≤ z := Int.not_lt.mp hc16
              refine v_push (0) (hi_X2_hasCell_28 hT) rfl ?_
              refine v_ret (hi_X2_hasCell_29 hT) (Or.inl rfl) ?_
              show vP D T N 44 14 h [some (2, 24), some (0, x), some (0, y), some (0, z)] [(0, 0)] _
              refine v_if (hi_X2_hasCopyCell_14 hT) (fun _ => ?_) (fun hc19 => absurd (show (0 : Int) = 0 from (by decide)) hc19)
              refine v_push (0) (hi_X2_hasCopyCell_21 hT) rfl ?_
              refine v_ret (hi_X2_hasCopyCell_22 hT) (Or.inl rfl) ?_
              show vP D T N 168 10 h [some (2, 0), some (0, x), some (0, y), some (0, z)] [(0, 0)] _
              refine v_if (hi_X11_mould_10 hT) (fun _ => ?_) (fun hc20 => absurd (show (0 : Int) = 0 from (by decide)) hc20)
              refine v_load (v := (2, 0)) (hi_X11_mould_13 hT) rfl rfl ?_
              refine v_push (2) (hi_X11_mould_14 hT) rfl ?_
              refine v_call (w := 2) [some (2, 0), some (0, 2)] hO (hi_X11_mould_15 hT) rfl rfl ?_
              refine v_load (v := (2, 0)) (hi_X11_refuse_0 hT) rfl rfl ?_
              refine v_load (v := (0, 2)) (hi_X11_refuse_1 hT) rfl rfl ?_
              refine v_putf (r := 0) hO (hi_X11_refuse_2 hT) rfl (fun hf21 => ?_)
              refine v_push (0) (hi_X11_refuse_5 hT) rfl ?_
              refine v_ret (hi_X11_refuse_6 hT) (Or.inl rfl) ?_
              show vP D T N 168 18 (zset h 0 0 (0, 2)) [some (2, 0), some (0, x), some (0, y), some (0, z)] [(0, 0)] _
              refine v_ret (hi_X11_mould_18 hT) (Or.inl rfl) ?_
              exact k4 hc1 hc5 hc7 hc11 hc12 hc16
        · have hc11 : (P 0 0) ≤ y := Int.not_lt.mp hc11
          refine v_push (0) (hi_X2_hasCell_28 hT) rfl ?_
          refine v_ret (hi_X2_hasCell_29 hT) (Or.inl rfl) ?_
          show vP D T N 44 14 h [some (2, 24), some (0, x), some (0, y), some (0, z)] [(0, 0)] _
          refine v_if (hi_X2_hasCopyCell_14 hT) (fun _ => ?_) (fun hc22 => absurd (show (0 : Int) = 0 from (by decide)) hc22)
          refine v_push (0) (hi_X2_hasCopyCell_21 hT) rfl ?_
          refine v_ret (hi_X2_hasCopyCell_22 hT) (Or.inl rfl) ?_
          show vP D T N 168 10 h [some (2, 0), some (0, x), some (0, y), some (0, z)] [(0, 0)] _
          refine v_if (hi_X11_mould_10 hT) (fun _ => ?_) (fun hc23 => absurd (show (0 : Int) = 0 from (by decide)) hc23)
          refine v_load (v := (2, 0)) (hi_X11_mould_13 hT) rfl rfl ?_
          refine v_push (2) (hi_X11_mould_14 hT) rfl ?_
          refine v_call (w := 2) [some (2, 0), some (0, 2)] hO (hi_X11_mould_15 hT) rfl rfl ?_
          refine v_load (v := (2, 0)) (hi_X11_refuse_0 hT) rfl rfl ?_
          refine v_load (v := (0, 2)) (hi_X11_refuse_1 hT) rfl rfl ?_
          refine v_putf (r := 0) hO (hi_X11_refuse_2 hT) rfl (fun hf24 => ?_)
          refine v_push (0) (hi_X11_refuse_5 hT) rfl ?_
          refine v_ret (hi_X11_refuse_6 hT) (Or.inl rfl) ?_
          show vP D T N 168 18 (zset h 0 0 (0, 2)) [some (2, 0), some (0, x), some (0, y), some (0, z)] [(0, 0)] _
          refine v_ret (hi_X11_mould_18 hT) (Or.inl rfl) ?_
          exact k5 hc1 hc5 hc7 hc11
    · have hc5 : (P 0 2) ≤ x := Int.not_lt.mp hc5
      refine v_push (0) (hi_X2_hasCopy_16 hT) rfl ?_
      refine v_ret (hi_X2_hasCopy_17 hT) (Or.inl rfl) ?_
      show vP D T N 44 5 h [some (2, 24), some (0, x), some (0, y), some (0, z)] [(0, 0)] _
      refine v_if (hi_X2_hasCopyCell_5 hT) (fun _ => ?_) (fun hc25 => absurd (show (0 : Int) = 0 from (by decide)) hc25)
      refine v_push (0) (hi_X2_hasCopyCell_21 hT) rfl ?_
      refine v_ret (hi_X2_hasCopyCell_22 hT) (Or.inl rfl) ?_
      show vP D T N 168 10 h [some (2, 0), some (0, x), some (0, y), some (0, z)] [(0, 0)] _
      refine v_if (hi_X11_mould_10 hT) (fun _ => ?_) (fun hc26 => absurd (show (0 : Int) = 0 from (by decide)) hc26)
      refine v_load (v := (2, 0)) (hi_X11_mould_13 hT) rfl rfl ?_
      refine v_push (2) (hi_X11_mould_14 hT) rfl ?_
      refine v_call (w := 2) [some (2, 0), some (0, 2)] hO (hi_X11_mould_15 hT) rfl rfl ?_
      refine v_load (v := (2, 0)) (hi_X11_refuse_0 hT) rfl rfl ?_
      refine v_load (v := (0, 2)) (hi_X11_refuse_1 hT) rfl rfl ?_
      refine v_putf (r := 0) hO (hi_X11_refuse_2 hT) rfl (fun hf27 => ?_)
      refine v_push (0) (hi_X11_refuse_5 hT) rfl ?_
      refine v_ret (hi_X11_refuse_6 hT) (Or.inl rfl) ?_
      show vP D T N 168 18 (zset h 0 0 (0, 2)) [some (2, 0), some (0, x), some (0, y), some (0, z)] [(0, 0)] _
      refine v_ret (hi_X11_mould_18 hT) (Or.inl rfl) ?_
      exact k6 hc1 hc5
theorem qt_mould19_24 {D : zD} {T : zT} (hT : hTab T) (hO : vOK T) {N : Nat} {h : zH} {Q : zR → Prop} {j u v : Nat} (hv0 : zHv h) (e7 : h 0 7 = (2, 24)) (bu : u < 8) (bv : v < 6)
    (k0 : vP D T N 39 0 h [some (2, 24), some (0, (j : Int)), some (0, (((v : Int) * 8) + (u : Int)))] [] (fun r1 => vP D T N 168 32 r1.1 [some (2, 0), some (0, (j : Int)), some (0, (u : Int)), some (0, (v : Int))] (zpush r1.2 []) Q)) :
    vP D T N 168 19 h [some (2, 0), some (0, (j : Int)), some (0, (u : Int)), some (0, (v : Int))] [] Q := by
  refine v_load (v := (2, 0)) (hz_X11_mould hT _ _ rfl) rfl rfl ?_
  refine v_getf (v := (2, 24)) (r := 0) (hz_X11_mould hT _ _ rfl) rfl rfl (fun _ => e7) ?_
  refine v_load (v := (0, (j : Int))) (hz_X11_mould hT _ _ rfl) rfl rfl ?_
  refine v_load (v := (0, (u : Int))) (hz_X11_mould hT _ _ rfl) rfl rfl ?_
  refine v_load (v := (0, (v : Int))) (hz_X11_mould hT _ _ rfl) rfl rfl ?_
  refine v_call (w := 2) [some (0, (u : Int)), some (0, (v : Int))] hO (hz_X11_mould hT _ _ rfl) rfl rfl ?_
  refine v_load (v := (0, (v : Int))) (hi_X2_cellAt_0 hT) rfl rfl ?_
  refine v_push (8) (hi_X2_cellAt_1 hT) rfl ?_
  refine v_bin (w := ((v : Int) * 8)) (hi_X2_cellAt_3 hT) (hq_mul (by omega) (by omega)) ?_
  refine v_load (v := (0, (u : Int))) (hi_X2_cellAt_4 hT) rfl rfl ?_
  refine v_bin (w := (((v : Int) * 8) + (u : Int))) (hi_X2_cellAt_5 hT) (hq_add (by omega) (by omega)) ?_
  refine v_ret (hi_X2_cellAt_6 hT) (Or.inl rfl) ?_
  show vP D T N 168 29 h [some (2, 0), some (0, (j : Int)), some (0, (u : Int)), some (0, (v : Int))] [(0, (((v : Int) * 8) + (u : Int))), (0, (j : Int)), (2, 24)] _
  refine v_call (w := 3) [some (2, 24), some (0, (j : Int)), some (0, (((v : Int) * 8) + (u : Int)))] hO (hz_X11_mould hT _ _ rfl) rfl rfl ?_
  exact k0 
theorem qt_honey0_24 {D : zD} {T : zT} (hT : hTab T) (hO : vOK T) {N : Nat} {h : zH} {Q : zR → Prop} {P : PT} (x y z : Int) (hv0 : zHv h) (e7 : h 0 7 = (2, 24)) (p0 : h 24 0 = (0, P 0 0)) (p1 : h 24 1 = (0, P 0 1)) (p2 : h 24 2 = (0, P 0 2)) (p3 : h 24 3 = (0, P 0 3)) (lb : (0 ≤ P 0 0 ∧ P 0 0 ≤ 8) ∧ (0 ≤ P 0 1 ∧ P 0 1 ≤ 6) ∧ (0 ≤ P 0 2 ∧ P 0 2 ≤ 3) ∧ (0 ≤ P 0 3 ∧ P 0 3 ≤ 6))
    (k0 : (x < 0) → Q (zset h 0 0 (0, 2), some (0, 0)))
    (k1 : (0 ≤ x) → (x < (P 0 2)) → (y < 0) → Q (zset h 0 0 (0, 2), some (0, 0)))
    (k2 : (0 ≤ x) → (x < (P 0 2)) → (0 ≤ y) → (y < (P 0 0)) → (z < 0) → Q (zset h 0 0 (0, 2), some (0, 0)))
    (k3 : (0 ≤ x) → (x < (P 0 2)) → (0 ≤ y) → (y < (P 0 0)) → (0 ≤ z) → (z < (P 0 1)) → vP D T N 160 19 h [some (2, 0), some (0, x), some (0, y), some (0, z)] [] Q)
    (k4 : (0 ≤ x) → (x < (P 0 2)) → (0 ≤ y) → (y < (P 0 0)) → (0 ≤ z) → ((P 0 1) ≤ z) → Q (zset h 0 0 (0, 2), some (0, 0)))
    (k5 : (0 ≤ x) → (x < (P 0 2)) → (0 ≤ y) → ((P 0 0) ≤ y) → Q (zset h 0 0 (0, 2), some (0, 0)))
    (k6 : (0 ≤ x) → ((P 0 2) ≤ x) → Q (zset h 0 0 (0, 2), some (0, 0))) :
    vP D T N 160 0 h [some (2, 0), some (0, x), some (0, y), some (0, z)] [] Q := by
  refine v_load (v := (2, 0)) (hz_X11_honey hT _ _ rfl) rfl rfl ?_
  refine v_getf (v := (2, 24)) (r := 0) (hz_X11_honey hT _ _ rfl) rfl rfl (fun _ => e7) ?_
  refine v_load (v := (0, x)) (hz_X11_honey hT _ _ rfl) rfl rfl ?_
  refine v_load (v := (0, y)) (hz_X11_honey hT _ _ rfl) rfl rfl ?_
  refine v_load (v := (0, z)) (hz_X11_honey hT _ _ rfl) rfl rfl ?_
  refine v_call (w := 4) [some (2, 24), some (0, x), some (0, y), some (0, z)] hO (hz_X11_honey hT _ _ rfl) rfl rfl ?_
  refine v_load (v := (2, 24)) (hi_X2_hasCopyCell_0 hT) rfl rfl ?_
  refine v_load (v := (0, x)) (hi_X2_hasCopyCell_1 hT) rfl rfl ?_
  refine v_call (w := 2) [some (2, 24), some (0, x)] hO (hi_X2_hasCopyCell_2 hT) rfl rfl ?_
  refine v_load (v := (0, x)) (hi_X2_hasCopy_0 hT) rfl rfl ?_
  refine v_if (hi_X2_hasCopy_1 hT) (fun hc1 => ?_) (fun hc1 => ?_)
  · have hc1 : x < 0 := hc1
    refine v_push (0) (hi_X2_hasCopy_16 hT) rfl ?_
    refine v_ret (hi_X2_hasCopy_17 hT) (Or.inl rfl) ?_
    show vP D T N 44 5 h [some (2, 24), some (0, x), some (0, y), some (0, z)] [(0, 0)] _
    refine v_if (hi_X2_hasCopyCell_5 hT) (fun _ => ?_) (fun hc2 => absurd (show (0 : Int) = 0 from (by decide)) hc2)
    refine v_push (0) (hi_X2_hasCopyCell_21 hT) rfl ?_
    refine v_ret (hi_X2_hasCopyCell_22 hT) (Or.inl rfl) ?_
    show vP D T N 160 10 h [some (2, 0), some (0, x), some (0, y), some (0, z)] [(0, 0)] _
    refine v_if (hi_X11_honey_10 hT) (fun _ => ?_) (fun hc3 => absurd (show (0 : Int) = 0 from (by decide)) hc3)
    refine v_load (v := (2, 0)) (hi_X11_honey_13 hT) rfl rfl ?_
    refine v_push (2) (hi_X11_honey_14 hT) rfl ?_
    refine v_call (w := 2) [some (2, 0), some (0, 2)] hO (hi_X11_honey_15 hT) rfl rfl ?_
    refine v_load (v := (2, 0)) (hi_X11_refuse_0 hT) rfl rfl ?_
    refine v_load (v := (0, 2)) (hi_X11_refuse_1 hT) rfl rfl ?_
    refine v_putf (r := 0) hO (hi_X11_refuse_2 hT) rfl (fun hf4 => ?_)
    refine v_push (0) (hi_X11_refuse_5 hT) rfl ?_
    refine v_ret (hi_X11_refuse_6 hT) (Or.inl rfl) ?_
    show vP D T N 160 18 (zset h 0 0 (0, 2)) [some (2, 0), some (0, x), some (0, y), some (0, z)] [(0, 0)] _
    refine v_ret (hi_X11_honey_18 hT) (Or.inl rfl) ?_
    exact k0 hc1
  · have hc1 : 0 ≤ x := Int.not_lt.mp hc1
    refine v_load (v := (0, x)) (hi_X2_hasCopy_4 hT) rfl rfl ?_
    refine v_load (v := (2, 24)) (hi_X2_hasCopy_5 hT) rfl rfl ?_
    refine v_getf (v := (0, (P 0 2))) (r := 24) (hi_X2_hasCopy_6 hT) rfl rfl (fun _ => p2) ?_
    refine v_ic (hi_X2_hasCopy_9 hT) (fun hc5 => ?_) (fun hc5 => ?_)
    · have hc5 : x < (P 0 2) := hc5
      refine v_push (1) (hi_X2_hasCopy_12 hT) rfl ?_
      refine v_goto (hi_X2_hasCopy_13 hT) ?_
      refine v_ret (hi_X2_hasCopy_17 hT) (Or.inl rfl) ?_
      show vP D T N 44 5 h [some (2, 24), some (0, x), some (0, y), some (0, z)] [(0, 1)] _
      refine v_if (hi_X2_hasCopyCell_5 hT) (fun hc6 => absurd (show (1 : Int) = 0 from hc6) (by decide)) (fun _ => ?_)
      refine v_load (v := (2, 24)) (hi_X2_hasCopyCell_8 hT) rfl rfl ?_
      refine v_load (v := (0, y)) (hi_X2_hasCopyCell_9 hT) rfl rfl ?_
      refine v_load (v := (0, z)) (hi_X2_hasCopyCell_10 hT) rfl rfl ?_
      refine v_call (w := 3) [some (2, 24), some (0, y), some (0, z)] hO (hi_X2_hasCopyCell_11 hT) rfl rfl ?_
      refine v_load (v := (0, y)) (hi_X2_hasCell_0 hT) rfl rfl ?_
      refine v_if (hi_X2_hasCell_1 hT) (fun hc7 => ?_) (fun hc7 => ?_)
      · have hc7 : y < 0 := hc7
        refine v_push (0) (hi_X2_hasCell_28 hT) rfl ?_
        refine v_ret (hi_X2_hasCell_29 hT) (Or.inl rfl) ?_
        show vP D T N 44 14 h [some (2, 24), some (0, x), some (0, y), some (0, z)] [(0, 0)] _
        refine v_if (hi_X2_hasCopyCell_14 hT) (fun _ => ?_) (fun hc8 => absurd (show (0 : Int) = 0 from (by decide)) hc8)
        refine v_push (0) (hi_X2_hasCopyCell_21 hT) rfl ?_
        refine v_ret (hi_X2_hasCopyCell_22 hT) (Or.inl rfl) ?_
        show vP D T N 160 10 h [some (2, 0), some (0, x), some (0, y), some (0, z)] [(0, 0)] _
        refine v_if (hi_X11_honey_10 hT) (fun _ => ?_) (fun hc9 => absurd (show (0 : Int) = 0 from (by decide)) hc9)
        refine v_load (v := (2, 0)) (hi_X11_honey_13 hT) rfl rfl ?_
        refine v_push (2) (hi_X11_honey_14 hT) rfl ?_
        refine v_call (w := 2) [some (2, 0), some (0, 2)] hO (hi_X11_honey_15 hT) rfl rfl ?_
        refine v_load (v := (2, 0)) (hi_X11_refuse_0 hT) rfl rfl ?_
        refine v_load (v := (0, 2)) (hi_X11_refuse_1 hT) rfl rfl ?_
        refine v_putf (r := 0) hO (hi_X11_refuse_2 hT) rfl (fun hf10 => ?_)
        refine v_push (0) (hi_X11_refuse_5 hT) rfl ?_
        refine v_ret (hi_X11_refuse_6 hT) (Or.inl rfl) ?_
        show vP D T N 160 18 (zset h 0 0 (0, 2)) [some (2, 0), some (0, x), some (0, y), some (0, z)] [(0, 0)] _
        refine v_ret (hi_X11_honey_18 hT) (Or.inl rfl) ?_
        exact k1 hc1 hc5 hc7
      · have hc7 : 0 ≤ y := Int.not_lt.mp hc7
        refine v_load (v := (0, y)) (hi_X2_hasCell_4 hT) rfl rfl ?_
        refine v_load (v := (2, 24)) (hi_X2_hasCell_5 hT) rfl rfl ?_
        refine v_getf (v := (0, (P 0 0))) (r := 24) (hi_X2_hasCell_6 hT) rfl rfl (fun _ => p0) ?_
        refine v_ic (hi_X2_hasCell_9 hT) (fun hc11 => ?_) (fun hc11 => ?_)
        · have hc11 : y < (P 0 0) := hc11
          refine v_load (v := (0, z)) (hi_X2_hasCell_12 hT) rfl rfl ?_
          refine v_if (hi_X2_hasCell_13 hT) (fun hc12 => ?_) (fun hc12 => ?_)
          · have hc12 : z < 0 := hc12
            refine v_push (0) (hi_X2_hasCell_28 hT) rfl ?_
            refine v_ret (hi_X2_hasCell_29 hT) (Or.inl rfl) ?_
            show vP D T N 44 14 h [some (2, 24), some (0, x), some (0, y), some (0, z)] [(0, 0)] _
            refine v_if (hi_X2_hasCopyCell_14 hT) (fun _ => ?_) (fun hc13 => absurd (show (0 : Int) = 0 from (by decide)) hc13)
            refine v_push (0) (hi_X2_hasCopyCell_21 hT) rfl ?_
            refine v_ret (hi_X2_hasCopyCell_22 hT) (Or.inl rfl) ?_
            show vP D T N 160 10 h [some (2, 0), some (0, x), some (0, y), some (0, z)] [(0, 0)] _
            refine v_if (hi_X11_honey_10 hT) (fun _ => ?_) (fun hc14 => absurd (show (0 : Int) = 0 from (by decide)) hc14)
            refine v_load (v := (2, 0)) (hi_X11_honey_13 hT) rfl rfl ?_
            refine v_push (2) (hi_X11_honey_14 hT) rfl ?_
            refine v_call (w := 2) [some (2, 0), some (0, 2)] hO (hi_X11_honey_15 hT) rfl rfl ?_
            refine v_load (v := (2, 0)) (hi_X11_refuse_0 hT) rfl rfl ?_
            refine v_load (v := (0, 2)) (hi_X11_refuse_1 hT) rfl rfl ?_
            refine v_putf (r := 0) hO (hi_X11_refuse_2 hT) rfl (fun hf15 => ?_)
            refine v_push (0) (hi_X11_refuse_5 hT) rfl ?_
            refine v_ret (hi_X11_refuse_6 hT) (Or.inl rfl) ?_
            show vP D T N 160 18 (zset h 0 0 (0, 2)) [some (2, 0), some (0, x), some (0, y), some (0, z)] [(0, 0)] _
            refine v_ret (hi_X11_honey_18 hT) (Or.inl rfl) ?_
            exact k2 hc1 hc5 hc7 hc11 hc12
          · have hc12 : 0 ≤ z := Int.not_lt.mp hc12
            refine v_load (v := (0, z)) (hi_X2_hasCell_16 hT) rfl rfl ?_
            refine v_load (v := (2, 24)) (hi_X2_hasCell_17 hT) rfl rfl ?_
            refine v_getf (v := (0, (P 0 1))) (r := 24) (hi_X2_hasCell_18 hT) rfl rfl (fun _ => p1) ?_
            refine v_ic (hi_X2_hasCell_21 hT) (fun hc16 => ?_) (fun hc16 => ?_)
            · have hc16 : z < (P 0 1) := hc16
              refine v_push (1) (hi_X2_hasCell_24 hT) rfl ?_
              refine v_goto (hi_X2_hasCell_25 hT) ?_
              refine v_ret (hi_X2_hasCell_29 hT) (Or.inl rfl) ?_
              show vP D T N 44 14 h [some (2, 24), some (0, x), some (0, y), some (0, z)] [(0, 1)] _
              refine v_if (hi_X2_hasCopyCell_14 hT) (fun hc17 => absurd (show (1 : Int) = 0 from hc17) (by decide)) (fun _ => ?_)
              refine v_push (1) (hi_X2_hasCopyCell_17 hT) rfl ?_
              refine v_goto (hi_X2_hasCopyCell_18 hT) ?_
              refine v_ret (hi_X2_hasCopyCell_22 hT) (Or.inl rfl) ?_
              show vP D T N 160 10 h [some (2, 0), some (0, x), some (0, y), some (0, z)] [(0, 1)] _
              refine v_if (hi_X11_honey_10 hT) (fun hc18 => absurd (show (1 : Int) = 0 from hc18) (by decide)) (fun _ => ?_)
              exact k3 hc1 hc5 hc7 hc11 hc12 hc16
            · have hc16 : (P 0 1) ≤ z := Int.not_lt.mp hc16
              refine v_push (0) (hi_X2_hasCell_28 hT) rfl ?_
              refine v_ret (hi_X2_hasCell_29 hT) (Or.inl rfl) ?_
              show vP D T N 44 14 h [some (2, 24), some (0, x), some (0, y), some (0, z)] [(0, 0)] _
              refine v_if (hi_X2_hasCopyCell_14 hT) (fun _ => ?_) (fun hc19 => absurd (show (0 : Int) = 0 from (by decide)) hc19)
              refine v_push (0) (hi_X2_hasCopyCell_21 hT) rfl ?_
              refine v_ret (hi_X2_hasCopyCell_22 hT) (Or.inl rfl) ?_
              show vP D T N 160 10 h [some (2, 0), some (0, x), some (0, y), some (0, z)] [(0, 0)] _
              refine v_if (hi_X11_honey_10 hT) (fun _ => ?_) (fun hc20 => absurd (show (0 : Int) = 0 from (by decide)) hc20)
              refine v_load (v := (2, 0)) (hi_X11_honey_13 hT) rfl rfl ?_
              refine v_push (2) (hi_X11_honey_14 hT) rfl ?_
              refine v_call (w := 2) [some (2, 0), some (0, 2)] hO (hi_X11_honey_15 hT) rfl rfl ?_
              refine v_load (v := (2, 0)) (hi_X11_refuse_0 hT) rfl rfl ?_
              refine v_load (v := (0, 2)) (hi_X11_refuse_1 hT) rfl rfl ?_
              refine v_putf (r := 0) hO (hi_X11_refuse_2 hT) rfl (fun hf21 => ?_)
              refine v_push (0) (hi_X11_refuse_5 hT) rfl ?_
              refine v_ret (hi_X11_refuse_6 hT) (Or.inl rfl) ?_
              show vP D T N 160 18 (zset h 0 0 (0, 2)) [some (2, 0), some (0, x), some (0, y), some (0, z)] [(0, 0)] _
              refine v_ret (hi_X11_honey_18 hT) (Or.inl rfl) ?_
              exact k4 hc1 hc5 hc7 hc11 hc12 hc16
        · have hc11 : (P 0 0) ≤ y := Int.not_lt.mp hc11
          refine v_push (0) (hi_X2_hasCell_28 hT) rfl ?_
          refine v_ret (hi_X2_hasCell_29 hT) (Or.inl rfl) ?_
          show vP D T N 44 14 h [some (2, 24), some (0, x), some (0, y), some (0, z)] [(0, 0)] _
          refine v_if (hi_X2_hasCopyCell_14 hT) (fun _ => ?_) (fun hc22 => absurd (show (0 : Int) = 0 from (by decide)) hc22)
          refine v_push (0) (hi_X2_hasCopyCell_21 hT) rfl ?_
          refine v_ret (hi_X2_hasCopyCell_22 hT) (Or.inl rfl) ?_
          show vP D T N 160 10 h [some (2, 0), some (0, x), some (0, y), some (0, z)] [(0, 0)] _
          refine v_if (hi_X11_honey_10 hT) (fun _ => ?_) (fun hc23 => absurd (show (0 : Int) = 0 from (by decide)) hc23)
          refine v_load (v := (2, 0)) (hi_X11_honey_13 hT) rfl rfl ?_
          refine v_push (2) (hi_X11_honey_14 hT) rfl ?_
          refine v_call (w := 2) [some (2, 0), some (0, 2)] hO (hi_X11_honey_15 hT) rfl rfl ?_
          refine v_load (v := (2, 0)) (hi_X11_refuse_0 hT) rfl rfl ?_
          refine v_load (v := (0, 2)) (hi_X11_refuse_1 hT) rfl rfl ?_
          refine v_putf (r := 0) hO (hi_X11_refuse_2 hT) rfl (fun hf24 => ?_)
          refine v_push (0) (hi_X11_refuse_5 hT) rfl ?_
          refine v_ret (hi_X11_refuse_6 hT) (Or.inl rfl) ?_
          show vP D T N 160 18 (zset h 0 0 (0, 2)) [some (2, 0), some (0, x), some (0, y), some (0, z)] [(0, 0)] _
          refine v_ret (hi_X11_honey_18 hT) (Or.inl rfl) ?_
          exact k5 hc1 hc5 hc7 hc11
    · have hc5 : (P 0 2) ≤ x := Int.not_lt.mp hc5
      refine v_push (0) (hi_X2_hasCopy_16 hT) rfl ?_
      refine v_ret (hi_X2_hasCopy_17 hT) (Or.inl rfl) ?_
      show vP D T N 44 5 h [some (2, 24), some (0, x), some (0, y), some (0, z)] [(0, 0)] _
      refine v_if (hi_X2_hasCopyCell_5 hT) (fun _ => ?_) (fun hc25 => absurd (show (0 : Int) = 0 from (by decide)) hc25)
      refine v_push (0) (hi_X2_hasCopyCell_21 hT) rfl ?_
      refine v_ret (hi_X2_hasCopyCell_22 hT) (Or.inl rfl) ?_
      show vP D T N 160 10 h [some (2, 0), some (0, x), some (0, y), some (0, z)] [(0, 0)] _
      refine v_if (hi_X11_honey_10 hT) (fun _ => ?_) (fun hc26 => absurd (show (0 : Int) = 0 from (by decide)) hc26)
      refine v_load (v := (2, 0)) (hi_X11_honey_13 hT) rfl rfl ?_
      refine v_push (2) (hi_X11_honey_14 hT) rfl ?_
      refine v_call (w := 2) [some (2, 0), some (0, 2)] hO (hi_X11_honey_15 hT) rfl rfl ?_
      refine v_load (v := (2, 0)) (hi_X11_refuse_0 hT) rfl rfl ?_
      refine v_load (v := (0, 2)) (hi_X11_refuse_1 hT) rfl rfl ?_
      refine v_putf (r := 0) hO (hi_X11_refuse_2 hT) rfl (fun hf27 => ?_)
      refine v_push (0) (hi_X11_refuse_5 hT) rfl ?_
      refine v_ret (hi_X11_refuse_6 hT) (Or.inl rfl) ?_
      show vP D T N 160 18 (zset h 0 0 (0, 2)) [some (2, 0), some (0, x), some (0, y), some (0, z)] [(0, 0)] _
      refine v_ret (hi_X11_honey_18 hT) (Or.inl rfl) ?_
      exact k6 hc1 hc5
theorem qt_honey19_24 {D : zD} {T : zT} (hT : hTab T) (hO : vOK T) {N : Nat} {h : zH} {Q : zR → Prop} {j u v : Nat} (hv0 : zHv h) (e7 : h 0 7 = (2, 24)) (bu : u < 8) (bv : v < 6)
    (k0 : vP D T N 55 0 h [some (2, 24), some (0, (j : Int)), some (0, (((v : Int) * 8) + (u : Int))), none] [] (fun r1 => vP D T N 160 32 r1.1 [some (2, 0), some (0, (j : Int)), some (0, (u : Int)), some (0, (v : Int))] (zpush r1.2 []) Q)) :
    vP D T N 160 19 h [some (2, 0), some (0, (j : Int)), some (0, (u : Int)), some (0, (v : Int))] [] Q := by
  refine v_load (v := (2, 0)) (hz_X11_honey hT _ _ rfl) rfl rfl ?_
  refine v_getf (v := (2, 24)) (r := 0) (hz_X11_honey hT _ _ rfl) rfl rfl (fun _ => e7) ?_
  refine v_load (v := (0, (j : Int))) (hz_X11_honey hT _ _ rfl) rfl rfl ?_
  refine v_load (v := (0, (u : Int))) (hz_X11_honey hT _ _ rfl) rfl rfl ?_
  refine v_load (v := (0, (v : Int))) (hz_X11_honey hT _ _ rfl) rfl rfl ?_
  refine v_call (w := 2) [some (0, (u : Int)), some (0, (v : Int))] hO (hz_X11_honey hT _ _ rfl) rfl rfl ?_
  refine v_load (v := (0, (v : Int))) (hi_X2_cellAt_0 hT) rfl rfl ?_
  refine v_push (8) (hi_X2_cellAt_1 hT) rfl ?_
  refine v_bin (w := ((v : Int) * 8)) (hi_X2_cellAt_3 hT) (hq_mul (by omega) (by omega)) ?_
  refine v_load (v := (0, (u : Int))) (hi_X2_cellAt_4 hT) rfl rfl ?_
  refine v_bin (w := (((v : Int) * 8) + (u : Int))) (hi_X2_cellAt_5 hT) (hq_add (by omega) (by omega)) ?_
  refine v_ret (hi_X2_cellAt_6 hT) (Or.inl rfl) ?_
  show vP D T N 160 29 h [some (2, 0), some (0, (j : Int)), some (0, (u : Int)), some (0, (v : Int))] [(0, (((v : Int) * 8) + (u : Int))), (0, (j : Int)), (2, 24)] _
  refine v_call (w := 4) [some (2, 24), some (0, (j : Int)), some (0, (((v : Int) * 8) + (u : Int))), none] hO (hz_X11_honey hT _ _ rfl) rfl rfl ?_
  exact k0 
theorem qt_clean0_24 {D : zD} {T : zT} (hT : hTab T) (hO : vOK T) {N : Nat} {h : zH} {Q : zR → Prop} {P : PT} (x y z : Int) (hv0 : zHv h) (e7 : h 0 7 = (2, 24)) (p0 : h 24 0 = (0, P 0 0)) (p1 : h 24 1 = (0, P 0 1)) (p2 : h 24 2 = (0, P 0 2)) (p3 : h 24 3 = (0, P 0 3)) (lb : (0 ≤ P 0 0 ∧ P 0 0 ≤ 8) ∧ (0 ≤ P 0 1 ∧ P 0 1 ≤ 6) ∧ (0 ≤ P 0 2 ∧ P 0 2 ≤ 3) ∧ (0 ≤ P 0 3 ∧ P 0 3 ≤ 6))
    (k0 : (x < 0) → Q (zset h 0 0 (0, 2), some (0, 0)))
    (k1 : (0 ≤ x) → (x < (P 0 2)) → (y < 0) → Q (zset h 0 0 (0, 2), some (0, 0)))
    (k2 : (0 ≤ x) → (x < (P 0 2)) → (0 ≤ y) → (y < (P 0 0)) → (z < 0) → Q (zset h 0 0 (0, 2), some (0, 0)))
    (k3 : (0 ≤ x) → (x < (P 0 2)) → (0 ≤ y) → (y < (P 0 0)) → (0 ≤ z) → (z < (P 0 1)) → vP D T N 149 19 h [some (2, 0), some (0, x), some (0, y), some (0, z)] [] Q)
    (k4 : (0 ≤ x) → (x < (P 0 2)) → (0 ≤ y) → (y < (P 0 0)) → (0 ≤ z) → ((P 0 1) ≤ z) → Q (zset h 0 0 (0, 2), some (0, 0)))
    (k5 : (0 ≤ x) → (x < (P 0 2)) → (0 ≤ y) → ((P 0 0) ≤ y) → Q (zset h 0 0 (0, 2), some (0, 0)))
    (k6 : (0 ≤ x) → ((P 0 2) ≤ x) → Q (zset h 0 0 (0, 2), some (0, 0))) :
    vP D T N 149 0 h [some (2, 0), some (0, x), some (0, y), some (0, z)] [] Q := by
  refine v_load (v := (2, 0)) (hz_X11_clean hT _ _ rfl) rfl rfl ?_
  refine v_getf (v := (2, 24)) (r := 0) (hz_X11_clean hT _ _ rfl) rfl rfl (fun _ => e7) ?_
  refine v_load (v := (0, x)) (hz_X11_clean hT _ _ rfl) rfl rfl ?_
  refine v_load (v := (0, y)) (hz_X11_clean hT _ _ rfl) rfl rfl ?_
  refine v_load (v := (0, z)) (hz_X11_clean hT _ _ rfl) rfl rfl ?_
  refine v_call (w := 4) [some (2, 24), some (0, x), some (0, y), some (0, z)] hO (hz_X11_clean hT _ _ rfl) rfl rfl ?_
  refine v_load (v := (2, 24)) (hi_X2_hasCopyCell_0 hT) rfl rfl ?_
  refine v_load (v := (0, x)) (hi_X2_hasCopyCell_1 hT) rfl rfl ?_
  refine v_call (w := 2) [some (2, 24), some (0, x)] hO (hi_X2_hasCopyCell_2 hT) rfl rfl ?_
  refine v_load (v := (0, x)) (hi_X2_hasCopy_0 hT) rfl rfl ?_
  refine v_if (hi_X2_hasCopy_1 hT) (fun hc1 => ?_) (fun hc1 => ?_)
  · have hc1 : x < 0 := hc1
    refine v_push (0) (hi_X2_hasCopy_16 hT) rfl ?_
    refine v_ret (hi_X2_hasCopy_17 hT) (Or.inl rfl) ?_
    show vP D T N 44 5 h [some (2, 24), some (0, x), some (0, y), some (0, z)] [(0, 0)] _
    refine v_if (hi_X2_hasCopyCell_5 hT) (fun _ => ?_) (fun hc2 => absurd (show (0 : Int) = 0 from (by decide)) hc2)
    refine v_push (0) (hi_X2_hasCopyCell_21 hT) rfl ?_
    refine v_ret (hi_X2_hasCopyCell_22 hT) (Or.inl rfl) ?_
    show vP D T N 149 10 h [some (2, 0), some (0, x), some (0, y), some (0, z)] [(0, 0)] _
    refine v_if (hi_X11_clean_10 hT) (fun _ => ?_) (fun hc3 => absurd (show (0 : Int) = 0 from (by decide)) hc3)
    refine v_load (v := (2, 0)) (hi_X11_clean_13 hT) rfl rfl ?_
    refine v_push (2) (hi_X11_clean_14 hT) rfl ?_
    refine v_call (w := 2) [some (2, 0), some (0, 2)] hO (hi_X11_clean_15 hT) rfl rfl ?_
    refine v_load (v := (2, 0)) (hi_X11_refuse_0 hT) rfl rfl ?_
    refine v_load (v := (0, 2)) (hi_X11_refuse_1 hT) rfl rfl ?_
    refine v_putf (r := 0) hO (hi_X11_refuse_2 hT) rfl (fun hf4 => ?_)
    refine v_push (0) (hi_X11_refuse_5 hT) rfl ?_
    refine v_ret (hi_X11_refuse_6 hT) (Or.inl rfl) ?_
    show vP D T N 149 18 (zset h 0 0 (0, 2)) [some (2, 0), some (0, x), some (0, y), some (0, z)] [(0, 0)] _
    refine v_ret (hi_X11_clean_18 hT) (Or.inl rfl) ?_
    exact k0 hc1
  · have hc1 : 0 ≤ x := Int.not_lt.mp hc1
    refine v_load (v := (0, x)) (hi_X2_hasCopy_4 hT) rfl rfl ?_
    refine v_load (v := (2, 24)) (hi_X2_hasCopy_5 hT) rfl rfl ?_
    refine v_getf (v := (0, (P 0 2))) (r := 24) (hi_X2_hasCopy_6 hT) rfl rfl (fun _ => p2) ?_
    refine v_ic (hi_X2_hasCopy_9 hT) (fun hc5 => ?_) (fun hc5 => ?_)
    · have hc5 : x < (P 0 2) := hc5
      refine v_push (1) (hi_X2_hasCopy_12 hT) rfl ?_
      refine v_goto (hi_X2_hasCopy_13 hT) ?_
      refine v_ret (hi_X2_hasCopy_17 hT) (Or.inl rfl) ?_
      show vP D T N 44 5 h [some (2, 24), some (0, x), some (0, y), some (0, z)] [(0, 1)] _
      refine v_if (hi_X2_hasCopyCell_5 hT) (fun hc6 => absurd (show (1 : Int) = 0 from hc6) (by decide)) (fun _ => ?_)
      refine v_load (v := (2, 24)) (hi_X2_hasCopyCell_8 hT) rfl rfl ?_
      refine v_load (v := (0, y)) (hi_X2_hasCopyCell_9 hT) rfl rfl ?_
      refine v_load (v := (0, z)) (hi_X2_hasCopyCell_10 hT) rfl rfl ?_
      refine v_call (w := 3) [some (2, 24), some (0, y), some (0, z)] hO (hi_X2_hasCopyCell_11 hT) rfl rfl ?_
      refine v_load (v := (0, y)) (hi_X2_hasCell_0 hT) rfl rfl ?_
      refine v_if (hi_X2_hasCell_1 hT) (fun hc7 => ?_) (fun hc7 => ?_)
      · have hc7 : y < 0 := hc7
        refine v_push (0) (hi_X2_hasCell_28 hT) rfl ?_
        refine v_ret (hi_X2_hasCell_29 hT) (Or.inl rfl) ?_
        show vP D T N 44 14 h [some (2, 24), some (0, x), some (0, y), some (0, z)] [(0, 0)] _
        refine v_if (hi_X2_hasCopyCell_14 hT) (fun _ => ?_) (fun hc8 => absurd (show (0 : Int) = 0 from (by decide)) hc8)
        refine v_push (0) (hi_X2_hasCopyCell_21 hT) rfl ?_
        refine v_ret (hi_X2_hasCopyCell_22 hT) (Or.inl rfl) ?_
        show vP D T N 149 10 h [some (2, 0), some (0, x), some (0, y), some (0, z)] [(0, 0)] _
        refine v_if (hi_X11_clean_10 hT) (fun _ => ?_) (fun hc9 => absurd (show (0 : Int) = 0 from (by decide)) hc9)
        refine v_load (v := (2, 0)) (hi_X11_clean_13 hT) rfl rfl ?_
        refine v_push (2) (hi_X11_clean_14 hT) rfl ?_
        refine v_call (w := 2) [some (2, 0), some (0, 2)] hO (hi_X11_clean_15 hT) rfl rfl ?_
        refine v_load (v := (2, 0)) (hi_X11_refuse_0 hT) rfl rfl ?_
        refine v_load (v := (0, 2)) (hi_X11_refuse_1 hT) rfl rfl ?_
        refine v_putf (r := 0) hO (hi_X11_refuse_2 hT) rfl (fun hf10 => ?_)
        refine v_push (0) (hi_X11_refuse_5 hT) rfl ?_
        refine v_ret (hi_X11_refuse_6 hT) (Or.inl rfl) ?_
        show vP D T N 149 18 (zset h 0 0 (0, 2)) [some (2, 0), some (0, x), some (0, y), some (0, z)] [(0, 0)] _
        refine v_ret (hi_X11_clean_18 hT) (Or.inl rfl) ?_
        exact k1 hc1 hc5 hc7
      · have hc7 : 0 ≤ y := Int.not_lt.mp hc7
        refine v_load (v := (0, y)) (hi_X2_hasCell_4 hT) rfl rfl ?_
        refine v_load (v := (2, 24)) (hi_X2_hasCell_5 hT) rfl rfl ?_
        refine v_getf (v := (0, (P 0 0))) (r := 24) (hi_X2_hasCell_6 hT) rfl rfl (fun _ => p0) ?_
        refine v_ic (hi_X2_hasCell_9 hT) (fun hc11 => ?_) (fun hc11 => ?_)
        · have hc11 : y < (P 0 0) := hc11
          refine v_load (v := (0, z)) (hi_X2_hasCell_12 hT) rfl rfl ?_
          refine v_if (hi_X2_hasCell_13 hT) (fun hc12 => ?_) (fun hc12 => ?_)
          · have hc12 : z < 0 := hc12
            refine v_push (0) (hi_X2_hasCell_28 hT) rfl ?_
            refine v_ret (hi_X2_hasCell_29 hT) (Or.inl rfl) ?_
            show vP D T N 44 14 h [some (2, 24), some (0, x), some (0, y), some (0, z)] [(0, 0)] _
            refine v_if (hi_X2_hasCopyCell_14 hT) (fun _ => ?_) (fun hc13 => absurd (show (0 : Int) = 0 from (by decide)) hc13)
            refine v_push (0) (hi_X2_hasCopyCell_21 hT) rfl ?_
            refine v_ret (hi_X2_hasCopyCell_22 hT) (Or.inl rfl) ?_
            show vP D T N 149 10 h [some (2, 0), some (0, x), some (0, y), some (0, z)] [(0, 0)] _
            refine v_if (hi_X11_clean_10 hT) (fun _ => ?_) (fun hc14 => absurd (show (0 : Int) = 0 from (by decide)) hc14)
            refine v_load (v := (2, 0)) (hi_X11_clean_13 hT) rfl rfl ?_
            refine v_push (2) (hi_X11_clean_14 hT) rfl ?_
            refine v_call (w := 2) [some (2, 0), some (0, 2)] hO (hi_X11_clean_15 hT) rfl rfl ?_
            refine v_load (v := (2, 0)) (hi_X11_refuse_0 hT) rfl rfl ?_
            refine v_load (v := (0, 2)) (hi_X11_refuse_1 hT) rfl rfl ?_
            refine v_putf (r := 0) hO (hi_X11_refuse_2 hT) rfl (fun hf15 => ?_)
            refine v_push (0) (hi_X11_refuse_5 hT) rfl ?_
            refine v_ret (hi_X11_refuse_6 hT) (Or.inl rfl) ?_
            show vP D T N 149 18 (zset h 0 0 (0, 2)) [some (2, 0), some (0, x), some (0, y), some (0, z)] [(0, 0)] _
            refine v_ret (hi_X11_clean_18 hT) (Or.inl rfl) ?_
            exact k2 hc1 hc5 hc7 hc11 hc12
          · have hc12 : 0 ≤ z := Int.not_lt.mp hc12
            refine v_load (v := (0, z)) (hi_X2_hasCell_16 hT) rfl rfl ?_
            refine v_load (v := (2, 24)) (hi_X2_hasCell_17 hT) rfl rfl ?_
            refine v_getf (v := (0, (P 0 1))) (r := 24) (hi_X2_hasCell_18 hT) rfl rfl (fun _ => p1) ?_
            refine v_ic (hi_X2_hasCell_21 hT) (fun hc16 => ?_) (fun hc16 => ?_)
            · have hc16 : z < (P 0 1) := hc16
              refine v_push (1) (hi_X2_hasCell_24 hT) rfl ?_
              refine v_goto (hi_X2_hasCell_25 hT) ?_
              refine v_ret (hi_X2_hasCell_29 hT) (Or.inl rfl) ?_
              show vP D T N 44 14 h [some (2, 24), some (0, x), some (0, y), some (0, z)] [(0, 1)] _
              refine v_if (hi_X2_hasCopyCell_14 hT) (fun hc17 => absurd (show (1 : Int) = 0 from hc17) (by decide)) (fun _ => ?_)
              refine v_push (1) (hi_X2_hasCopyCell_17 hT) rfl ?_
              refine v_goto (hi_X2_hasCopyCell_18 hT) ?_
              refine v_ret (hi_X2_hasCopyCell_22 hT) (Or.inl rfl) ?_
              show vP D T N 149 10 h [some (2, 0), some (0, x), some (0, y), some (0, z)] [(0, 1)] _
              refine v_if (hi_X11_clean_10 hT) (fun hc18 => absurd (show (1 : Int) = 0 from hc18) (by decide)) (fun _ => ?_)
              exact k3 hc1 hc5 hc7 hc11 hc12 hc16
            · have hc16 : (P 0 1) ≤ z := Int.not_lt.mp hc16
              refine v_push (0) (hi_X2_hasCell_28 hT) rfl ?_
              refine v_ret (hi_X2_hasCell_29 hT) (Or.inl rfl) ?_
              show vP D T N 44 14 h [some (2, 24), some (0, x), some (0, y), some (0, z)] [(0, 0)] _
              refine v_if (hi_X2_hasCopyCell_14 hT) (fun _ => ?_) (fun hc19 => absurd (show (0 : Int) = 0 from (by decide)) hc19)
              refine v_push (0) (hi_X2_hasCopyCell_21 hT) rfl ?_
              refine v_ret (hi_X2_hasCopyCell_22 hT) (Or.inl rfl) ?_
              show vP D T N 149 10 h [some (2, 0), some (0, x), some (0, y), some (0, z)] [(0, 0)] _
              refine v_if (hi_X11_clean_10 hT) (fun _ => ?_) (fun hc20 => absurd (show (0 : Int) = 0 from (by decide)) hc20)
              refine v_load (v := (2, 0)) (hi_X11_clean_13 hT) rfl rfl ?_
              refine v_push (2) (hi_X11_clean_14 hT) rfl ?_
              refine v_call (w := 2) [some (2, 0), some (0, 2)] hO (hi_X11_clean_15 hT) rfl rfl ?_
              refine v_load (v := (2, 0)) (hi_X11_refuse_0 hT) rfl rfl ?_
              refine v_load (v := (0, 2)) (hi_X11_refuse_1 hT) rfl rfl ?_
              refine v_putf (r := 0) hO (hi_X11_refuse_2 hT) rfl (fun hf21 => ?_)
              refine v_push (0) (hi_X11_refuse_5 hT) rfl ?_
              refine v_ret (hi_X11_refuse_6 hT) (Or.inl rfl) ?_
              show vP D T N 149 18 (zset h 0 0 (0, 2)) [some (2, 0), some (0, x), some (0, y), some (0, z)] [(0, 0)] _
              refine v_ret (hi_X11_clean_18 hT) (Or.inl rfl) ?_
              exact k4 hc1 hc5 hc7 hc11 hc12 hc16
        · have hc11 : (P 0 0) ≤ y := Int.not_lt.mp hc11
          refine v_push (0) (hi_X2_hasCell_28 hT) rfl ?_
          refine v_ret (hi_X2_hasCell_29 hT) (Or.inl rfl) ?_
          show vP D T N 44 14 h [some (2, 24), some (0, x), some (0, y), some (0, z)] [(0, 0)] _
          refine v_if (hi_X2_hasCopyCell_14 hT) (fun _ => ?_) (fun hc22 => absurd (show (0 : Int) = 0 from (by decide)) hc22)
          refine v_push (0) (hi_X2_hasCopyCell_21 hT) rfl ?_
          refine v_ret (hi_X2_hasCopyCell_22 hT) (Or.inl rfl) ?_
          show vP D T N 149 10 h [some (2, 0), some (0, x), some (0, y), some (0, z)] [(0, 0)] _
          refine v_if (hi_X11_clean_10 hT) (fun _ => ?_) (fun hc23 => absurd (show (0 : Int) = 0 from (by decide)) hc23)
          refine v_load (v := (2, 0)) (hi_X11_clean_13 hT) rfl rfl ?_
          refine v_push (2) (hi_X11_clean_14 hT) rfl ?_
          refine v_call (w := 2) [some (2, 0), some (0, 2)] hO (hi_X11_clean_15 hT) rfl rfl ?_
          refine v_load (v := (2, 0)) (hi_X11_refuse_0 hT) rfl rfl ?_
          refine v_load (v := (0, 2)) (hi_X11_refuse_1 hT) rfl rfl ?_
          refine v_putf (r := 0) hO (hi_X11_refuse_2 hT) rfl (fun hf24 => ?_)
          refine v_push (0) (hi_X11_refuse_5 hT) rfl ?_
          refine v_ret (hi_X11_refuse_6 hT) (Or.inl rfl) ?_
          show vP D T N 149 18 (zset h 0 0 (0, 2)) [some (2, 0), some (0, x), some (0, y), some (0, z)] [(0, 0)] _
          refine v_ret (hi_X11_clean_18 hT) (Or.inl rfl) ?_
          exact k5 hc1 hc5 hc7 hc11
    · have hc5 : (P 0 2) ≤ x := Int.not_lt.mp hc5
      refine v_push (0) (hi_X2_hasCopy_16 hT) rfl ?_
      refine v_ret (hi_X2_hasCopy_17 hT) (Or.inl rfl) ?_
      show vP D T N 44 5 h [some (2, 24), some (0, x), some (0, y), some (0, z)] [(0, 0)] _
      refine v_if (hi_X2_hasCopyCell_5 hT) (fun _ => ?_) (fun hc25 => absurd (show (0 : Int) = 0 from (by decide)) hc25)
      refine v_push (0) (hi_X2_hasCopyCell_21 hT) rfl ?_
      refine v_ret (hi_X2_hasCopyCell_22 hT) (Or.inl rfl) ?_
      show vP D T N 149 10 h [some (2, 0), some (0, x), some (0, y), some (0, z)] [(0, 0)] _
      refine v_if (hi_X11_clean_10 hT) (fun _ => ?_) (fun hc26 => absurd (show (0 : Int) = 0 from (by decide)) hc26)
      refine v_load (v := (2, 0)) (hi_X11_clean_13 hT) rfl rfl ?_
      refine v_push (2) (hi_X11_clean_14 hT) rfl ?_
      refine v_call (w := 2) [some (2, 0), some (0, 2)] hO (hi_X11_clean_15 hT) rfl rfl ?_
      refine v_load (v := (2, 0)) (hi_X11_refuse_0 hT) rfl rfl ?_
      refine v_load (v := (0, 2)) (hi_X11_refuse_1 hT) rfl rfl ?_
      refine v_putf (r := 0) hO (hi_X11_refuse_2 hT) rfl (fun hf27 => ?_)
      refine v_push (0) (hi_X11_refuse_5 hT) rfl ?_
      refine v_ret (hi_X11_refuse_6 hT) (Or.inl rfl) ?_
      show vP D T N 149 18 (zset h 0 0 (0, 2)) [some (2, 0), some (0, x), some (0, y), some (0, z)] [(0, 0)] _
      refine v_ret (hi_X11_clean_18 hT) (Or.inl rfl) ?_
      exact k6 hc1 hc5
theorem qt_clean19_24 {D : zD} {T : zT} (hT : hTab T) (hO : vOK T) {N : Nat} {h : zH} {Q : zR → Prop} {j u v : Nat} (hv0 : zHv h) (e7 : h 0 7 = (2, 24)) (bu : u < 8) (bv : v < 6)
    (k0 : vP D T N 58 0 h [some (2, 24), some (0, (j : Int)), some (0, (((v : Int) * 8) + (u : Int))), none] [] (fun r1 => vP D T N 149 32 r1.1 [some (2, 0), some (0, (j : Int)), some (0, (u : Int)), some (0, (v : Int))] (zpush r1.2 []) Q)) :
    vP D T N 149 19 h [some (2, 0), some (0, (j : Int)), some (0, (u : Int)), some (0, (v : Int))] [] Q := by
  refine v_load (v := (2, 0)) (hz_X11_clean hT _ _ rfl) rfl rfl ?_
  refine v_getf (v := (2, 24)) (r := 0) (hz_X11_clean hT _ _ rfl) rfl rfl (fun _ => e7) ?_
  refine v_load (v := (0, (j : Int))) (hz_X11_clean hT _ _ rfl) rfl rfl ?_
  refine v_load (v := (0, (u : Int))) (hz_X11_clean hT _ _ rfl) rfl rfl ?_
  refine v_load (v := (0, (v : Int))) (hz_X11_clean hT _ _ rfl) rfl rfl ?_
  refine v_call (w := 2) [some (0, (u : Int)), some (0, (v : Int))] hO (hz_X11_clean hT _ _ rfl) rfl rfl ?_
  refine v_load (v := (0, (v : Int))) (hi_X2_cellAt_0 hT) rfl rfl ?_
  refine v_push (8) (hi_X2_cellAt_1 hT) rfl ?_
  refine v_bin (w := ((v : Int) * 8)) (hi_X2_cellAt_3 hT) (hq_mul (by omega) (by omega)) ?_
  refine v_load (v := (0, (u : Int))) (hi_X2_cellAt_4 hT) rfl rfl ?_
  refine v_bin (w := (((v : Int) * 8) + (u : Int))) (hi_X2_cellAt_5 hT) (hq_add (by omega) (by omega)) ?_
  refine v_ret (hi_X2_cellAt_6 hT) (Or.inl rfl) ?_
  show vP D T N 149 29 h [some (2, 0), some (0, (j : Int)), some (0, (u : Int)), some (0, (v : Int))] [(0, (((v : Int) * 8) + (u : Int))), (0, (j : Int)), (2, 24)] _
  refine v_call (w := 4) [some (2, 24), some (0, (j : Int)), some (0, (((v : Int) * 8) + (u : Int))), none] hO (hz_X11_clean hT _ _ rfl) rfl rfl ?_
  exact k0 
theorem qt_bite36y_24 {D : zD} {T : zT} (hT : hTab T) (hO : vOK T) {N : Nat} {h : zH} {Q : zR → Prop} {P : PT} {j u v q : Nat} (hv0 : zHv h) (e7 : h 0 7 = (2, 24)) (hP : cP 24 P h) (hb : fB P) (hq : q < 48)
    (k0 : Q (zset h 0 0 (0, 0), some (0, (gCr P q)))) :
    vP D T N 146 36 h [some (2, 0), some (0, (j : Int)), some (0, (u : Int)), some (0, (v : Int)), some (0, (q : Int))] [(0, 1)] Q := by
  refine v_if (hz_X11_bite hT _ _ rfl) (fun hc1 => absurd (show (1 : Int) = 0 from hc1) (by decide)) (fun _ => ?_)
  refine v_load (v := (2, 0)) (hz_X11_bite hT _ _ rfl) rfl rfl ?_
  refine v_load (v := (2, 0)) (hz_X11_bite hT _ _ rfl) rfl rfl ?_
  refine v_getf (v := (2, 24)) (r := 0) (hz_X11_bite hT _ _ rfl) rfl rfl (fun _ => e7) ?_
  refine v_load (v := (0, (q : Int))) (hz_X11_bite hT _ _ rfl) rfl rfl ?_
  refine v_call (w := 2) [some (2, 24), some (0, (q : Int))] hO (hz_X11_bite hT _ _ rfl) rfl rfl (cb_cr_24 hT hO ((q : Int)) q rfl (by omega) hb hP.2.1 hP.2.2.1 ?_)
  show vP D T N 146 56 h [some (2, 0), some (0, (j : Int)), some (0, (u : Int)), some (0, (v : Int)), some (0, (q : Int))] [(0, (gCr P q)), (2, 0)] _
  refine v_call (w := 2) [some (2, 0), some (0, (gCr P q))] hO (hz_X11_bite hT _ _ rfl) rfl rfl ?_
  refine v_load (v := (2, 0)) (hi_X11_answer_0 hT) rfl rfl ?_
  refine v_push (0) (hi_X11_answer_1 hT) rfl ?_
  refine v_putf (r := 0) hO (hi_X11_answer_2 hT) rfl (fun hf2 => ?_)
  refine v_load (v := (0, (gCr P q))) (hi_X11_answer_5 hT) rfl rfl ?_
  refine v_ret (hi_X11_answer_6 hT) (Or.inl rfl) ?_
  show vP D T N 146 59 (zset h 0 0 (0, 0)) [some (2, 0), some (0, (j : Int)), some (0, (u : Int)), some (0, (v : Int)), some (0, (q : Int))] [(0, (gCr P q))] _
  refine v_ret (hz_X11_bite hT _ _ rfl) (Or.inl rfl) ?_
  exact k0 
theorem qt_bite36n {D : zD} {T : zT} (hT : hTab T) (hO : vOK T) {N : Nat} {h : zH} {Q : zR → Prop} {j u v : Nat} (w : Int) (hv0 : zHv h)
    (k0 : Q (zset h 0 0 (0, 9), some (0, -1))) :
    vP D T N 146 36 h [some (2, 0), some (0, (j : Int)), some (0, (u : Int)), some (0, (v : Int)), some (0, w)] [(0, 0)] Q := by
  refine v_if (hz_X11_bite hT _ _ rfl) (fun _ => ?_) (fun hc1 => absurd (show (0 : Int) = 0 from (by decide)) hc1)
  refine v_load (v := (2, 0)) (hz_X11_bite hT _ _ rfl) rfl rfl ?_
  refine v_push (9) (hz_X11_bite hT _ _ rfl) rfl ?_
  refine v_call (w := 2) [some (2, 0), some (0, 9)] hO (hz_X11_bite hT _ _ rfl) rfl rfl ?_
  refine v_load (v := (2, 0)) (hi_X11_refused_0 hT) rfl rfl ?_
  refine v_load (v := (0, 9)) (hi_X11_refused_1 hT) rfl rfl ?_
  refine v_putf (r := 0) hO (hi_X11_refused_2 hT) rfl (fun hf2 => ?_)
  refine v_push (-1) (hi_X11_refused_5 hT) rfl ?_
  refine v_ret (hi_X11_refused_6 hT) (Or.inl rfl) ?_
  show vP D T N 146 45 (zset h 0 0 (0, 9)) [some (2, 0), some (0, (j : Int)), some (0, (u : Int)), some (0, (v : Int)), some (0, w)] [(0, -1)] _
  refine v_ret (hz_X11_bite hT _ _ rfl) (Or.inl rfl) ?_
  exact k0 
theorem qt_mould32_0 {D : zD} {T : zT} (hT : hTab T) (hO : vOK T) {N : Nat} {h : zH} {Q : zR → Prop} {j u v : Nat} (hv0 : zHv h)
    (k0 : Q (zset h 0 0 (0, 9), some (0, 0))) :
    vP D T N 168 32 h [some (2, 0), some (0, (j : Int)), some (0, (u : Int)), some (0, (v : Int))] [(0, 0)] Q := by
  refine v_if (hz_X11_mould hT _ _ rfl) (fun _ => ?_) (fun hc1 => absurd (show (0 : Int) = 0 from (by decide)) hc1)
  refine v_load (v := (2, 0)) (hz_X11_mould hT _ _ rfl) rfl rfl ?_
  refine v_push (9) (hz_X11_mould hT _ _ rfl) rfl ?_
  refine v_call (w := 2) [some (2, 0), some (0, 9)] hO (hz_X11_mould hT _ _ rfl) rfl rfl ?_
  refine v_load (v := (2, 0)) (hi_X11_refuse_0 hT) rfl rfl ?_
  refine v_load (v := (0, 9)) (hi_X11_refuse_1 hT) rfl rfl ?_
  refine v_putf (r := 0) hO (hi_X11_refuse_2 hT) rfl (fun hf2 => ?_)
  refine v_push (0) (hi_X11_refuse_5 hT) rfl ?_
  refine v_ret (hi_X11_refuse_6 hT) (Or.inl rfl) ?_
  show vP D T N 168 48 (zset h 0 0 (0, 9)) [some (2, 0), some (0, (j : Int)), some (0, (u : Int)), some (0, (v : Int))] [(0, 0)] _
  refine v_ret (hz_X11_mould hT _ _ rfl) (Or.inl rfl) ?_
  exact k0 
theorem qt_mould32_1 {D : zD} {T : zT} (hT : hTab T) (hO : vOK T) {N : Nat} {h : zH} {Q : zR → Prop} {j u v : Nat} (hv0 : zHv h)
    (k0 : Q (zset h 0 0 (0, 0), some (0, 1))) :
    vP D T N 168 32 h [some (2, 0), some (0, (j : Int)), some (0, (u : Int)), some (0, (v : Int))] [(0, 1)] Q := by
  refine v_if (hz_X11_mould hT _ _ rfl) (fun hc1 => absurd (show (1 : Int) = 0 from hc1) (by decide)) (fun _ => ?_)
  refine v_load (v := (2, 0)) (hz_X11_mould hT _ _ rfl) rfl rfl ?_
  refine v_call (w := 1) [some (2, 0)] hO (hz_X11_mould hT _ _ rfl) rfl rfl ?_
  refine v_load (v := (2, 0)) (hi_X11_accept_0 hT) rfl rfl ?_
  refine v_push (0) (hi_X11_accept_1 hT) rfl ?_
  refine v_putf (r := 0) hO (hi_X11_accept_2 hT) rfl (fun hf2 => ?_)
  refine v_push (1) (hi_X11_accept_5 hT) rfl ?_
  refine v_ret (hi_X11_accept_6 hT) (Or.inl rfl) ?_
  show vP D T N 168 39 (zset h 0 0 (0, 0)) [some (2, 0), some (0, (j : Int)), some (0, (u : Int)), some (0, (v : Int))] [(0, 1)] _
  refine v_goto (hz_X11_mould hT _ _ rfl) ?_
  refine v_ret (hz_X11_mould hT _ _ rfl) (Or.inl rfl) ?_
  exact k0 
theorem qt_honey32_0 {D : zD} {T : zT} (hT : hTab T) (hO : vOK T) {N : Nat} {h : zH} {Q : zR → Prop} {j u v : Nat} (hv0 : zHv h)
    (k0 : Q (zset h 0 0 (0, 9), some (0, 0))) :
    vP D T N 160 32 h [some (2, 0), some (0, (j : Int)), some (0, (u : Int)), some (0, (v : Int))] [(0, 0)] Q := by
  refine v_if (hz_X11_honey hT _ _ rfl) (fun _ => ?_) (fun hc1 => absurd (show (0 : Int) = 0 from (by decide)) hc1)
  refine v_load (v := (2, 0)) (hz_X11_honey hT _ _ rfl) rfl rfl ?_
  refine v_push (9) (hz_X11_honey hT _ _ rfl) rfl ?_
  refine v_call (w := 2) [some (2, 0), some (0, 9)] hO (hz_X11_honey hT _ _ rfl) rfl rfl ?_
  refine v_load (v := (2, 0)) (hi_X11_refuse_0 hT) rfl rfl ?_
  refine v_load (v := (0, 9)) (hi_X11_refuse_1 hT) rfl rfl ?_
  refine v_putf (r := 0) hO (hi_X11_refuse_2 hT) rfl (fun hf2 => ?_)
  refine v_push (0) (hi_X11_refuse_5 hT) rfl ?_
  refine v_ret (hi_X11_refuse_6 hT) (Or.inl rfl) ?_
  show vP D T N 160 48 (zset h 0 0 (0, 9)) [some (2, 0), some (0, (j : Int)), some (0, (u : Int)), some (0, (v : Int))] [(0, 0)] _
  refine v_ret (hz_X11_honey hT _ _ rfl) (Or.inl rfl) ?_
  exact k0 
theorem qt_honey32_1 {D : zD} {T : zT} (hT : hTab T) (hO : vOK T) {N : Nat} {h : zH} {Q : zR → Prop} {j u v : Nat} (hv0 : zHv h)
    (k0 : Q (zset h 0 0 (0, 0), some (0, 1))) :
    vP D T N 160 32 h [some (2, 0), some (0, (j : Int)), some (0, (u : Int)), some (0, (v : Int))] [(0, 1)] Q := by
  refine v_if (hz_X11_honey hT _ _ rfl) (fun hc1 => absurd (show (1 : Int) = 0 from hc1) (by decide)) (fun _ => ?_)
  refine v_load (v := (2, 0)) (hz_X11_honey hT _ _ rfl) rfl rfl ?_
  refine v_call (w := 1) [some (2, 0)] hO (hz_X11_honey hT _ _ rfl) rfl rfl ?_
  refine v_load (v := (2, 0)) (hi_X11_accept_0 hT) rfl rfl ?_
  refine v_push (0) (hi_X11_accept_1 hT) rfl ?_
  refine v_putf (r := 0) hO (hi_X11_accept_2 hT) rfl (fun hf2 => ?_)
  refine v_push (1) (hi_X11_accept_5 hT) rfl ?_
  refine v_ret (hi_X11_accept_6 hT) (Or.inl rfl) ?_
  show vP D T N 160 39 (zset h 0 0 (0, 0)) [some (2, 0), some (0, (j : Int)), some (0, (u : Int)), some (0, (v : Int))] [(0, 1)] _
  refine v_goto (hz_X11_honey hT _ _ rfl) ?_
  refine v_ret (hz_X11_honey hT _ _ rfl) (Or.inl rfl) ?_
  exact k0 
theorem qt_clean32_0 {D : zD} {T : zT} (hT : hTab T) (hO : vOK T) {N : Nat} {h : zH} {Q : zR → Prop} {j u v : Nat} (hv0 : zHv h)
    (k0 : Q (zset h 0 0 (0, 9), some (0, 0))) :
    vP D T N 149 32 h [some (2, 0), some (0, (j : Int)), some (0, (u : Int)), some (0, (v : Int))] [(0, 0)] Q := by
  refine v_if (hz_X11_clean hT _ _ rfl) (fun _ => ?_) (fun hc1 => absurd (show (0 : Int) = 0 from (by decide)) hc1)
  refine v_load (v := (2, 0)) (hz_X11_clean hT _ _ rfl) rfl rfl ?_
  refine v_push (9) (hz_X11_clean hT _ _ rfl) rfl ?_
  refine v_call (w := 2) [some (2, 0), some (0, 9)] hO (hz_X11_clean hT _ _ rfl) rfl rfl ?_
  refine v_load (v := (2, 0)) (hi_X11_refuse_0 hT) rfl rfl ?_
  refine v_load (v := (0, 9)) (hi_X11_refuse_1 hT) rfl rfl ?_
  refine v_putf (r := 0) hO (hi_X11_refuse_2 hT) rfl (fun hf2 => ?_)
  refine v_push (0) (hi_X11_refuse_5 hT) rfl ?_
  refine v_ret (hi_X11_refuse_6 hT) (Or.inl rfl) ?_
  show vP D T N 149 48 (zset h 0 0 (0, 9)) [some (2, 0), some (0, (j : Int)), some (0, (u : Int)), some (0, (v : Int))] [(0, 0)] _
  refine v_ret (hz_X11_clean hT _ _ rfl) (Or.inl rfl) ?_
  exact k0 
theorem qt_clean32_1 {D : zD} {T : zT} (hT : hTab T) (hO : vOK T) {N : Nat} {h : zH} {Q : zR → Prop} {j u v : Nat} (hv0 : zHv h)
    (k0 : Q (zset h 0 0 (0, 0), some (0, 1))) :
    vP D T N 149 32 h [some (2, 0), some (0, (j : Int)), some (0, (u : Int)), some (0, (v : Int))] [(0, 1)] Q := by
  refine v_if (hz_X11_clean hT _ _ rfl) (fun hc1 => absurd (show (1 : Int) = 0 from hc1) (by decide)) (fun _ => ?_)
  refine v_load (v := (2, 0)) (hz_X11_clean hT _ _ rfl) rfl rfl ?_
  refine v_call (w := 1) [some (2, 0)] hO (hz_X11_clean hT _ _ rfl) rfl rfl ?_
  refine v_load (v := (2, 0)) (hi_X11_accept_0 hT) rfl rfl ?_
  refine v_push (0) (hi_X11_accept_1 hT) rfl ?_
  refine v_putf (r := 0) hO (hi_X11_accept_2 hT) rfl (fun hf2 => ?_)
  refine v_push (1) (hi_X11_accept_5 hT) rfl ?_
  refine v_ret (hi_X11_accept_6 hT) (Or.inl rfl) ?_
  show vP D T N 149 39 (zset h 0 0 (0, 0)) [some (2, 0), some (0, (j : Int)), some (0, (u : Int)), some (0, (v : Int))] [(0, 1)] _
  refine v_goto (hz_X11_clean hT _ _ rfl) ?_
  refine v_ret (hz_X11_clean hT _ _ rfl) (Or.inl rfl) ?_
  exact k0 
theorem qt_steam0_24 {D : zD} {T : zT} (hT : hTab T) (hO : vOK T) {N : Nat} {h : zH} {Q : zR → Prop} {P : PT} (x y : Int) (hv0 : zHv h) (e7 : h 0 7 = (2, 24)) (p0 : h 24 0 = (0, P 0 0)) (p1 : h 24 1 = (0, P 0 1)) (p2 : h 24 2 = (0, P 0 2)) (p3 : h 24 3 = (0, P 0 3)) (lb : (0 ≤ P 0 0 ∧ P 0 0 ≤ 8) ∧ (0 ≤ P 0 1 ∧ P 0 1 ≤ 6) ∧ (0 ≤ P 0 2 ∧ P 0 2 ≤ 3) ∧ (0 ≤ P 0 3 ∧ P 0 3 ≤ 6))
    (k0 : (x < 0) → Q (zset h 0 0 (0, 2), some (0, -1)))
    (k1 : (0 ≤ x) → (x < (P 0 2)) → (y < 0) → Q (zset h 0 0 (0, 2), some (0, -1)))
    (k2 : (0 ≤ x) → (x < (P 0 2)) → (0 ≤ y) → (y < (P 0 2)) → (x = y) → Q (zset h 0 0 (0, 5), some (0, -1)))
    (k3 : (0 ≤ x) → (x < (P 0 2)) → (0 ≤ y) → (y < (P 0 2)) → (x ≠ y) → vP D T N 182 39 h [some (2, 0), some (0, x), some (0, y), none] [] Q)
    (k4 : (0 ≤ x) → (x < (P 0 2)) → (0 ≤ y) → ((P 0 2) ≤ y) → Q (zset h 0 0 (0, 2), some (0, -1)))
    (k5 : (0 ≤ x) → ((P 0 2) ≤ x) → Q (zset h 0 0 (0, 2), some (0, -1))) :
    vP D T N 182 0 h [some (2, 0), some (0, x), some (0, y), none] [] Q := by
  refine v_load (v := (2, 0)) (hz_X11_steam hT _ _ rfl) rfl rfl ?_
  refine v_getf (v := (2, 24)) (r := 0) (hz_X11_steam hT _ _ rfl) rfl rfl (fun _ => e7) ?_
  refine v_load (v := (0, x)) (hz_X11_steam hT _ _ rfl) rfl rfl ?_
  refine v_call (w := 2) [some (2, 24), some (0, x)] hO (hz_X11_steam hT _ _ rfl) rfl rfl ?_
  refine v_load (v := (0, x)) (hi_X2_hasCopy_0 hT) rfl rfl ?_
  refine v_if (hi_X2_hasCopy_1 hT) (fun hc1 => ?_) (fun hc1 => ?_)
  · have hc1 : x < 0 := hc1
    refine v_push (0) (hi_X2_hasCopy_16 hT) rfl ?_
    refine v_ret (hi_X2_hasCopy_17 hT) (Or.inl rfl) ?_
    show vP D T N 182 8 h [some (2, 0), some (0, x), some (0, y), none] [(0, 0)] _
    refine v_if (hi_X11_steam_8 hT) (fun _ => ?_) (fun hc2 => absurd (show (0 : Int) = 0 from (by decide)) hc2)
    refine v_load (v := (2, 0)) (hi_X11_steam_22 hT) rfl rfl ?_
    refine v_push (2) (hi_X11_steam_23 hT) rfl ?_
    refine v_call (w := 2) [some (2, 0), some (0, 2)] hO (hi_X11_steam_24 hT) rfl rfl ?_
    refine v_load (v := (2, 0)) (hi_X11_refused_0 hT) rfl rfl ?_
    refine v_load (v := (0, 2)) (hi_X11_refused_1 hT) rfl rfl ?_
    refine v_putf (r := 0) hO (hi_X11_refused_2 hT) rfl (fun hf3 => ?_)
    refine v_push (-1) (hi_X11_refused_5 hT) rfl ?_
    refine v_ret (hi_X11_refused_6 hT) (Or.inl rfl) ?_
    show vP D T N 182 27 (zset h 0 0 (0, 2)) [some (2, 0), some (0, x), some (0, y), none] [(0, -1)] _
    refine v_ret (hi_X11_steam_27 hT) (Or.inl rfl) ?_
    exact k0 hc1
  · have hc1 : 0 ≤ x := Int.not_lt.mp hc1
    refine v_load (v := (0, x)) (hi_X2_hasCopy_4 hT) rfl rfl ?_
    refine v_load (v := (2, 24)) (hi_X2_hasCopy_5 hT) rfl rfl ?_
    refine v_getf (v := (0, (P 0 2))) (r := 24) (hi_X2_hasCopy_6 hT) rfl rfl (fun _ => p2) ?_
    refine v_ic (hi_X2_hasCopy_9 hT) (fun hc4 => ?_) (fun hc4 => ?_)
    · have hc4 : x < (P 0 2) := hc4
      refine v_push (1) (hi_X2_hasCopy_12 hT) rfl ?_
      refine v_goto (hi_X2_hasCopy_13 hT) ?_
      refine v_ret (hi_X2_hasCopy_17 hT) (Or.inl rfl) ?_
      show vP D T N 182 8 h [some (2, 0), some (0, x), some (0, y), none] [(0, 1)] _
      refine v_if (hi_X11_steam_8 hT) (fun hc5 => absurd (show (1 : Int) = 0 from hc5) (by decide)) (fun _ => ?_)
      refine v_load (v := (2, 0)) (hz_X11_steam hT _ _ rfl) rfl rfl ?_
      refine v_getf (v := (2, 24)) (r := 0) (hz_X11_steam hT _ _ rfl) rfl rfl (fun _ => e7) ?_
      refine v_load (v := (0, y)) (hz_X11_steam hT _ _ rfl) rfl rfl ?_
      refine v_call (w := 2) [some (2, 24), some (0, y)] hO (hz_X11_steam hT _ _ rfl) rfl rfl ?_
      refine v_load (v := (0, y)) (hi_X2_hasCopy_0 hT) rfl rfl ?_
      refine v_if (hi_X2_hasCopy_1 hT) (fun hc6 => ?_) (fun hc6 => ?_)
      · have hc6 : y < 0 := hc6
        refine v_push (0) (hi_X2_hasCopy_16 hT) rfl ?_
        refine v_ret (hi_X2_hasCopy_17 hT) (Or.inl rfl) ?_
        show vP D T N 182 19 h [some (2, 0), some (0, x), some (0, y), none] [(0, 0)] _
        refine v_if (hi_X11_steam_19 hT) (fun _ => ?_) (fun hc7 => absurd (show (0 : Int) = 0 from (by decide)) hc7)
        refine v_load (v := (2, 0)) (hi_X11_steam_22 hT) rfl rfl ?_
        refine v_push (2) (hi_X11_steam_23 hT) rfl ?_
        refine v_call (w := 2) [some (2, 0), some (0, 2)] hO (hi_X11_steam_24 hT) rfl rfl ?_
        refine v_load (v := (2, 0)) (hi_X11_refused_0 hT) rfl rfl ?_
        refine v_load (v := (0, 2)) (hi_X11_refused_1 hT) rfl rfl ?_
        refine v_putf (r := 0) hO (hi_X11_refused_2 hT) rfl (fun hf8 => ?_)
        refine v_push (-1) (hi_X11_refused_5 hT) rfl ?_
        refine v_ret (hi_X11_refused_6 hT) (Or.inl rfl) ?_
        show vP D T N 182 27 (zset h 0 0 (0, 2)) [some (2, 0), some (0, x), some (0, y), none] [(0, -1)] _
        refine v_ret (hi_X11_steam_27 hT) (Or.inl rfl) ?_
        exact k1 hc1 hc4 hc6
      · have hc6 : 0 ≤ y := Int.not_lt.mp hc6
        refine v_load (v := (0, y)) (hi_X2_hasCopy_4 hT) rfl rfl ?_
        refine v_load (v := (2, 24)) (hi_X2_hasCopy_5 hT) rfl rfl ?_
        refine v_getf (v := (0, (P 0 2))) (r := 24) (hi_X2_hasCopy_6 hT) rfl rfl (fun _ => p2) ?_
        refine v_ic (hi_X2_hasCopy_9 hT) (fun hc9 => ?_) (fun hc9 => ?_)
        · have hc9 : y < (P 0 2) := hc9
          refine v_push (1) (hi_X2_hasCopy_12 hT) rfl ?_
          refine v_goto (hi_X2_hasCopy_13 hT) ?_
          refine v_ret (hi_X2_hasCopy_17 hT) (Or.inl rfl) ?_
          show vP D T N 182 19 h [some (2, 0), some (0, x), some (0, y), none] [(0, 1)] _
          refine v_if (hi_X11_steam_19 hT) (fun hc10 => absurd (show (1 : Int) = 0 from hc10) (by decide)) (fun _ => ?_)
          refine v_load (v := (0, x)) (hz_X11_steam hT _ _ rfl) rfl rfl ?_
          refine v_load (v := (0, y)) (hz_X11_steam hT _ _ rfl) rfl rfl ?_
          refine v_ic (hz_X11_steam hT _ _ rfl) (fun hc11 => ?_) (fun hc11 => ?_)
          · have hc11 : x = y := hc11
            refine v_load (v := (2, 0)) (hz_X11_steam hT _ _ rfl) rfl rfl ?_
            refine v_push (5) (hz_X11_steam hT _ _ rfl) rfl ?_
            refine v_call (w := 2) [some (2, 0), some (0, 5)] hO (hz_X11_steam hT _ _ rfl) rfl rfl ?_
            refine v_load (v := (2, 0)) (hi_X11_refused_0 hT) rfl rfl ?_
            refine v_load (v := (0, 5)) (hi_X11_refused_1 hT) rfl rfl ?_
            refine v_putf (r := 0) hO (hi_X11_refused_2 hT) rfl (fun hf12 => ?_)
            refine v_push (-1) (hi_X11_refused_5 hT) rfl ?_
            refine v_ret (hi_X11_refused_6 hT) (Or.inl rfl) ?_
            show vP D T N 182 38 (zset h 0 0 (0, 5)) [some (2, 0), some (0, x), some (0, y), none] [(0, -1)] _
            refine v_ret (hz_X11_steam hT _ _ rfl) (Or.inl rfl) ?_
            exact k2 hc1 hc4 hc6 hc9 hc11
          · have hc11 : x ≠ y := hc11
            exact k3 hc1 hc4 hc6 hc9 hc11
        · have hc9 : (P 0 2) ≤ y := Int.not_lt.mp hc9
          refine v_push (0) (hi_X2_hasCopy_16 hT) rfl ?_
          refine v_ret (hi_X2_hasCopy_17 hT) (Or.inl rfl) ?_
          show vP D T N 182 19 h [some (2, 0), some (0, x), some (0, y), none] [(0, 0)] _
          refine v_if (hi_X11_steam_19 hT) (fun _ => ?_) (fun hc13 => absurd (show (0 : Int) = 0 from (by decide)) hc13)
          refine v_load (v := (2, 0)) (hi_X11_steam_22 hT) rfl rfl ?_
          refine v_push (2) (hi_X11_steam_23 hT) rfl ?_
          refine v_call (w := 2) [some (2, 0), some (0, 2)] hO (hi_X11_steam_24 hT) rfl rfl ?_
          refine v_load (v := (2, 0)) (hi_X11_refused_0 hT) rfl rfl ?_
          refine v_load (v := (0, 2)) (hi_X11_refused_1 hT) rfl rfl ?_
          refine v_putf (r := 0) hO (hi_X11_refused_2 hT) rfl (fun hf14 => ?_)
          refine v_push (-1) (hi_X11_refused_5 hT) rfl ?_
          refine v_ret (hi_X11_refused_6 hT) (Or.inl rfl) ?_
          show vP D T N 182 27 (zset h 0 0 (0, 2)) [some (2, 0), some (0, x), some (0, y), none] [(0, -1)] _
          refine v_ret (hi_X11_steam_27 hT) (Or.inl rfl) ?_
          exact k4 hc1 hc4 hc6 hc9
    · have hc4 : (P 0 2) ≤ x := Int.not_lt.mp hc4
      refine v_push (0) (hi_X2_hasCopy_16 hT) rfl ?_
      refine v_ret (hi_X2_hasCopy_17 hT) (Or.inl rfl) ?_
      show vP D T N 182 8 h [some (2, 0), some (0, x), some (0, y), none] [(0, 0)] _
      refine v_if (hi_X11_steam_8 hT) (fun _ => ?_) (fun hc15 => absurd (show (0 : Int) = 0 from (by decide)) hc15)
      refine v_load (v := (2, 0)) (hi_X11_steam_22 hT) rfl rfl ?_
      refine v_push (2) (hi_X11_steam_23 hT) rfl ?_
      refine v_call (w := 2) [some (2, 0), some (0, 2)] hO (hi_X11_steam_24 hT) rfl rfl ?_
      refine v_load (v := (2, 0)) (hi_X11_refused_0 hT) rfl rfl ?_
      refine v_load (v := (0, 2)) (hi_X11_refused_1 hT) rfl rfl ?_
      refine v_putf (r := 0) hO (hi_X11_refused_2 hT) rfl (fun hf16 => ?_)
      refine v_push (-1) (hi_X11_refused_5 hT) rfl ?_
      refine v_ret (hi_X11_refused_6 hT) (Or.inl rfl) ?_
      show vP D T N 182 27 (zset h 0 0 (0, 2)) [some (2, 0), some (0, x), some (0, y), none] [(0, -1)] _
      refine v_ret (hi_X11_steam_27 hT) (Or.inl rfl) ?_
      exact k5 hc1 hc4
theorem qt_steam39_24 {D : zD} {T : zT} (hT : hTab T) (hO : vOK T) {N : Nat} {h : zH} {Q : zR → Prop} {j t : Nat} (hv0 : zHv h) (e7 : h 0 7 = (2, 24))
    (k0 : vP D T N 34 0 h [some (2, 24), some (0, (j : Int)), some (0, (t : Int)), none, none] [] (fun r1 => vP D T N 182 48 r1.1 [some (2, 0), some (0, (j : Int)), some (0, (t : Int)), none] (zpush r1.2 []) Q)) :
    vP D T N 182 39 h [some (2, 0), some (0, (j : Int)), some (0, (t : Int)), none] [] Q := by
  refine v_load (v := (2, 0)) (hz_X11_steam hT _ _ rfl) rfl rfl ?_
  refine v_getf (v := (2, 24)) (r := 0) (hz_X11_steam hT _ _ rfl) rfl rfl (fun _ => e7) ?_
  refine v_load (v := (0, (j : Int))) (hz_X11_steam hT _ _ rfl) rfl rfl ?_
  refine v_load (v := (0, (t : Int))) (hz_X11_steam hT _ _ rfl) rfl rfl ?_
  refine v_call (w := 5) [some (2, 24), some (0, (j : Int)), some (0, (t : Int)), none, none] hO (hz_X11_steam hT _ _ rfl) rfl rfl ?_
  exact k0 
theorem qt_steam48_24 {D : zD} {T : zT} (hT : hTab T) (hO : vOK T) {N : Nat} {h : zH} {Q : zR → Prop} {j t : Nat} (w : Int) (hv0 : zHv h) (e7 : h 0 7 = (2, 24))
    (k0 : vP D T N 57 0 h [some (2, 24), some (0, (j : Int)), some (0, (t : Int))] [] (fun r1 => vP D T N 182 58 r1.1 [some (2, 0), some (0, (j : Int)), some (0, (t : Int)), some (0, w)] (zpush r1.2 []) Q)) :
    vP D T N 182 48 h [some (2, 0), some (0, (j : Int)), some (0, (t : Int)), none] [(0, w)] Q := by
  refine v_store1 [some (2, 0), some (0, (j : Int)), some (0, (t : Int)), some (0, w)] (hz_X11_steam hT _ _ rfl) ⟨rfl, Nat.ne_of_beq_eq_false rfl⟩ (Nat.le_of_ble_eq_true rfl) rfl ?_
  refine v_load (v := (2, 0)) (hz_X11_steam hT _ _ rfl) rfl rfl ?_
  refine v_getf (v := (2, 24)) (r := 0) (hz_X11_steam hT _ _ rfl) rfl rfl (fun _ => e7) ?_
  refine v_load (v := (0, (j : Int))) (hz_X11_steam hT _ _ rfl) rfl rfl ?_
  refine v_load (v := (0, (t : Int))) (hz_X11_steam hT _ _ rfl) rfl rfl ?_
  refine v_call (w := 3) [some (2, 24), some (0, (j : Int)), some (0, (t : Int))] hO (hz_X11_steam hT _ _ rfl) rfl rfl ?_
  exact k0 
theorem qt_steam58 {D : zD} {T : zT} (hT : hTab T) (hO : vOK T) {N : Nat} {h : zH} {Q : zR → Prop} {j t : Nat} (w : Int) (hv0 : zHv h)
    (k0 : Q (zset h 0 0 (0, 0), some (0, w))) :
    vP D T N 182 58 h [some (2, 0), some (0, (j : Int)), some (0, (t : Int)), some (0, w)] [] Q := by
  refine v_load (v := (2, 0)) (hz_X11_steam hT _ _ rfl) rfl rfl ?_
  refine v_load (v := (0, w)) (hz_X11_steam hT _ _ rfl) rfl rfl ?_
  refine v_call (w := 2) [some (2, 0), some (0, w)] hO (hz_X11_steam hT _ _ rfl) rfl rfl ?_
  refine v_load (v := (2, 0)) (hi_X11_answer_0 hT) rfl rfl ?_
  refine v_push (0) (hi_X11_answer_1 hT) rfl ?_
  refine v_putf (r := 0) hO (hi_X11_answer_2 hT) rfl (fun hf1 => ?_)
  refine v_load (v := (0, w)) (hi_X11_answer_5 hT) rfl rfl ?_
  refine v_ret (hi_X11_answer_6 hT) (Or.inl rfl) ?_
  show vP D T N 182 63 (zset h 0 0 (0, 0)) [some (2, 0), some (0, (j : Int)), some (0, (t : Int)), some (0, w)] [(0, w)] _
  refine v_ret (hz_X11_steam hT _ _ rfl) (Or.inl rfl) ?_
  exact k0 
theorem qk_df0_24 {D : zD} {T : zT} (hT : hTab T) (hO : vOK T) {N : Nat} {h : zH} {Q : zR → Prop} {j t : Nat} (hv0 : zHv h)
    (k0 : vP D T N 34 5 h [some (2, 24), some (0, (j : Int)), some (0, (t : Int)), some (0, 0), some (0, 0)] [] Q) :
    vP D T N 34 0 h [some (2, 24), some (0, (j : Int)), some (0, (t : Int)), none, none] [] Q := by
  refine v_push (0) (hz_X2_differences hT _ _ rfl) rfl ?_
  refine v_store1 [some (2, 24), some (0, (j : Int)), some (0, (t : Int)), some (0, 0), none] (hz_X2_differences hT _ _ rfl) ⟨rfl, Nat.ne_of_beq_eq_false rfl⟩ (Nat.le_of_ble_eq_true rfl) rfl ?_
  refine v_push (0) (hz_X2_differences hT _ _ rfl) rfl ?_
  refine v_store1 [some (2, 24), some (0, (j : Int)), some (0, (t : Int)), some (0, 0), some (0, 0)] (hz_X2_differences hT _ _ rfl) ⟨rfl, Nat.ne_of_beq_eq_false rfl⟩ (Nat.le_of_ble_eq_true rfl) rfl ?_
  exact k0 
theorem qk_df5_24 {D : zD} {T : zT} (hT : hTab T) (hO : vOK T) {N : Nat} {h : zH} {Q : zR → Prop} {P : PT} {j t m q : Nat} (hv0 : zHv h) (hP : cP 24 P h) (hb : fB P) (hj : j < 3) (ht : t < 3) (hm : m ≤ 48) (hq : (q : Int) < 48)
    (k0 : (gIn P q) → ((P 3 (48 * j + q)) = (P 3 (48 * t + q))) → vP D T N 34 5 h [some (2, 24), some (0, (j : Int)), some (0, (t : Int)), some (0, (m : Int)), some (0, ((q : Int) + 1))] [] Q)
    (k1 : (gIn P q) → ((P 3 (48 * j + q)) ≠ (P 3 (48 * t + q))) → vP D T N 34 5 h [some (2, 24), some (0, (j : Int)), some (0, (t : Int)), some (0, ((m : Int) + 1)), some (0, ((q : Int) + 1))] [] Q)
    (k2 : (¬ gIn P q) → vP D T N 34 5 h [some (2, 24), some (0, (j : Int)), some (0, (t : Int)), some (0, (m : Int)), some (0, ((q : Int) + 1))] [] Q) :
    vP D T (N + 1) 34 5 h [some (2, 24), some (0, (j : Int)), some (0, (t : Int)), some (0, (m : Int)), some (0, (q : Int))] [] Q := by
  refine v_loadS (v := (0, (q : Int))) (hi_X2_differences_5 hT) rfl rfl ?_
  refine v_push (48) (hi_X2_differences_7 hT) rfl ?_
  refine v_ic (hi_X2_differences_9 hT) (fun _ => ?_) (fun hc1 => absurd (show (q : Int) < 48 from hq) hc1)
  refine v_load (v := (2, 24)) (hz_X2_differences hT _ _ rfl) rfl rfl ?_
  refine v_load (v := (0, (q : Int))) (hz_X2_differences hT _ _ rfl) rfl rfl ?_
  refine v_call (w := 2) [some (2, 24), some (0, (q : Int))] hO (hz_X2_differences hT _ _ rfl) rfl rfl (cb_isC_24 hT hO ((q : Int)) q rfl (by omega) hP.1.1 hP.1.2.1 hb.1 (fun hg2 => ?_) (fun hg2 => ?_))
  · show vP D T N 34 18 h [some (2, 24), some (0, (j : Int)), some (0, (t : Int)), some (0, (m : Int)), some (0, (q : Int))] [(0, 1)] _
    refine v_if (hi_X2_differences_18 hT) (fun hc3 => absurd (show (1 : Int) = 0 from hc3) (by decide)) (fun _ => ?_)
    refine v_load (v := (2, 24)) (hz_X2_differences hT _ _ rfl) rfl rfl ?_
    refine v_load (v := (0, (j : Int))) (hz_X2_differences hT _ _ rfl) rfl rfl ?_
    refine v_load (v := (0, (q : Int))) (hz_X2_differences hT _ _ rfl) rfl rfl ?_
    refine v_call (w := 3) [some (2, 24), some (0, (j : Int)), some (0, (q : Int))] hO (hz_X2_differences hT _ _ rfl) rfl rfl (cb_st_24 hT hO ((j : Int)) ((q : Int)) j q rfl rfl (by omega) (by omega) hP.2.2.2.1 ?_)
    show vP D T N 34 28 h [some (2, 24), some (0, (j : Int)), some (0, (t : Int)), some (0, (m : Int)), some (0, (q : Int))] [(0, (P 3 (48 * j + q)))] _
    refine v_load (v := (2, 24)) (hz_X2_differences hT _ _ rfl) rfl rfl ?_
    refine v_load (v := (0, (t : Int))) (hz_X2_differences hT _ _ rfl) rfl rfl ?_
    refine v_load (v := (0, (q : Int))) (hz_X2_differences hT _ _ rfl) rfl rfl ?_
    refine v_call (w := 3) [some (2, 24), some (0, (t : Int)), some (0, (q : Int))] hO (hz_X2_differences hT _ _ rfl) rfl rfl (cb_st_24 hT hO ((t : Int)) ((q : Int)) t q rfl rfl (by omega) (by omega) hP.2.2.2.1 ?_)
    show vP D T N 34 35 h [some (2, 24), some (0, (j : Int)), some (0, (t : Int)), some (0, (m : Int)), some (0, (q : Int))] [(0, (P 3 (48 * t + q))), (0, (P 3 (48 * j + q)))] _
    refine v_ic (hz_X2_differences hT _ _ rfl) (fun hc4 => ?_) (fun hc4 => ?_)
    · have hc4 : (P 3 (48 * j + q)) = (P 3 (48 * t + q)) := hc4
      refine v_iinc (x := (q : Int)) (u := 1) (w := ((q : Int) + 1)) [some (2, 24), some (0, (j : Int)), some (0, (t : Int)), some (0, (m : Int)), some (0, ((q : Int) + 1))] (hi_X2_differences_41 hT) rfl rfl (Nat.le_of_ble_eq_true rfl) (vz_inc (by omega) (by omega)) rfl ?_
      refine v_goto (hi_X2_differences_44 hT) ?_
      exact k0 hg2 hc4
    · have hc4 : (P 3 (48 * j + q)) ≠ (P 3 (48 * t + q)) := hc4
      refine v_iinc (x := (m : Int)) (u := 1) (w := ((m : Int) + 1)) [some (2, 24), some (0, (j : Int)), some (0, (t : Int)), some (0, ((m : Int) + 1)), some (0, (q : Int))] (hz_X2_differences hT _ _ rfl) rfl rfl (Nat.le_of_ble_eq_true rfl) (vz_inc (by omega) (by omega)) rfl ?_
      refine v_iinc (x := (q : Int)) (u := 1) (w := ((q : Int) + 1)) [some (2, 24), some (0, (j : Int)), some (0, (t : Int)), some (0, ((m : Int) + 1)), some (0, ((q : Int) + 1))] (hi_X2_differences_41 hT) rfl rfl (Nat.le_of_ble_eq_true rfl) (vz_inc (by omega) (by omega)) rfl ?_
      refine v_goto (hi_X2_differences_44 hT) ?_
      exact k1 hg2 hc4
  · show vP D T N 34 18 h [some (2, 24), some (0, (j : Int)), some (0, (t : Int)), some (0, (m : Int)), some (0, (q : Int))] [(0, 0)] _
    refine v_if (hi_X2_differences_18 hT) (fun _ => ?_) (fun hc5 => absurd (show (0 : Int) = 0 from (by decide)) hc5)
    refine v_iinc (x := (q : Int)) (u := 1) (w := ((q : Int) + 1)) [some (2, 24), some (0, (j : Int)), some (0, (t : Int)), some (0, (m : Int)), some (0, ((q : Int) + 1))] (hi_X2_differences_41 hT) rfl rfl (Nat.le_of_ble_eq_true rfl) (vz_inc (by omega) (by omega)) rfl ?_
    refine v_goto (hi_X2_differences_44 hT) ?_
    exact k2 hg2
theorem qk_df9_24 {D : zD} {T : zT} (hT : hTab T) (hO : vOK T) {N : Nat} {h : zH} {Q : zR → Prop} {j t m : Nat} (hv0 : zHv h)
    (k0 : Q (h, some (0, (m : Int)))) :
    vP D T (N + 1) 34 5 h [some (2, 24), some (0, (j : Int)), some (0, (t : Int)), some (0, (m : Int)), some (0, 48)] [] Q := by
  refine v_loadS (v := (0, 48)) (hi_X2_differences_5 hT) rfl rfl ?_
  refine v_push (48) (hi_X2_differences_7 hT) rfl ?_
  refine v_ic (hi_X2_differences_9 hT) (fun hc1 => absurd (show (48 : Int) < 48 from hc1) (by decide)) (fun _ => ?_)
  refine v_load (v := (0, (m : Int))) (hz_X2_differences hT _ _ rfl) rfl rfl ?_
  refine v_ret (hz_X2_differences hT _ _ rfl) (Or.inl rfl) ?_
  exact k0 
theorem qt_march0_24 {D : zD} {T : zT} (hT : hTab T) (hO : vOK T) {N : Nat} {h : zH} {Q : zR → Prop} {P : PT} (x : Int) (hv0 : zHv h) (e7 : h 0 7 = (2, 24)) (p0 : h 24 0 = (0, P 0 0)) (p1 : h 24 1 = (0, P 0 1)) (p2 : h 24 2 = (0, P 0 2)) (p3 : h 24 3 = (0, P 0 3)) (lb : (0 ≤ P 0 0 ∧ P 0 0 ≤ 8) ∧ (0 ≤ P 0 1 ∧ P 0 1 ≤ 6) ∧ (0 ≤ P 0 2 ∧ P 0 2 ≤ 3) ∧ (0 ≤ P 0 3 ∧ P 0 3 ≤ 6))
    (k0 : (x < 0) → Q (zset h 0 0 (0, 2), some (0, -1)))
    (k1 : (0 ≤ x) → (x < (P 0 3)) → vP D T N 164 17 h [some (2, 0), some (0, x), none] [] Q)
    (k2 : (0 ≤ x) → ((P 0 3) ≤ x) → Q (zset h 0 0 (0, 2), some (0, -1))) :
    vP D T N 164 0 h [some (2, 0), some (0, x), none] [] Q := by
  refine v_load (v := (2, 0)) (hz_X11_march hT _ _ rfl) rfl rfl ?_
  refine v_getf (v := (2, 24)) (r := 0) (hz_X11_march hT _ _ rfl) rfl rfl (fun _ => e7) ?_
  refine v_load (v := (0, x)) (hz_X11_march hT _ _ rfl) rfl rfl ?_
  refine v_call (w := 2) [some (2, 24), some (0, x)] hO (hz_X11_march hT _ _ rfl) rfl rfl ?_
  refine v_load (v := (0, x)) (hi_X2_hasCompany_0 hT) rfl rfl ?_
  refine v_if (hi_X2_hasCompany_1 hT) (fun hc1 => ?_) (fun hc1 => ?_)
  · have hc1 : x < 0 := hc1
    refine v_push (0) (hi_X2_hasCompany_16 hT) rfl ?_
    refine v_ret (hi_X2_hasCompany_17 hT) (Or.inl rfl) ?_
    show vP D T N 164 8 h [some (2, 0), some (0, x), none] [(0, 0)] _
    refine v_if (hi_X11_march_8 hT) (fun _ => ?_) (fun hc2 => absurd (show (0 : Int) = 0 from (by decide)) hc2)
    refine v_load (v := (2, 0)) (hi_X11_march_11 hT) rfl rfl ?_
    refine v_push (2) (hi_X11_march_12 hT) rfl ?_
    refine v_call (w := 2) [some (2, 0), some (0, 2)] hO (hi_X11_march_13 hT) rfl rfl ?_
    refine v_load (v := (2, 0)) (hi_X11_refused_0 hT) rfl rfl ?_
    refine v_load (v := (0, 2)) (hi_X11_refused_1 hT) rfl rfl ?_
    refine v_putf (r := 0) hO (hi_X11_refused_2 hT) rfl (fun hf3 => ?_)
    refine v_push (-1) (hi_X11_refused_5 hT) rfl ?_
    refine v_ret (hi_X11_refused_6 hT) (Or.inl rfl) ?_
    show vP D T N 164 16 (zset h 0 0 (0, 2)) [some (2, 0), some (0, x), none] [(0, -1)] _
    refine v_ret (hi_X11_march_16 hT) (Or.inl rfl) ?_
    exact k0 hc1
  · have hc1 : 0 ≤ x := Int.not_lt.mp hc1
    refine v_load (v := (0, x)) (hi_X2_hasCompany_4 hT) rfl rfl ?_
    refine v_load (v := (2, 24)) (hi_X2_hasCompany_5 hT) rfl rfl ?_
    refine v_getf (v := (0, (P 0 3))) (r := 24) (hi_X2_hasCompany_6 hT) rfl rfl (fun _ => p3) ?_
    refine v_ic (hi_X2_hasCompany_9 hT) (fun hc4 => ?_) (fun hc4 => ?_)
    · have hc4 : x < (P 0 3) := hc4
      refine v_push (1) (hi_X2_hasCompany_12 hT) rfl ?_
      refine v_goto (hi_X2_hasCompany_13 hT) ?_
      refine v_ret (hi_X2_hasCompany_17 hT) (Or.inl rfl) ?_
      show vP D T N 164 8 h [some (2, 0), some (0, x), none] [(0, 1)] _
      refine v_if (hi_X11_march_8 hT) (fun hc5 => absurd (show (1 : Int) = 0 from hc5) (by decide)) (fun _ => ?_)
      exact k1 hc1 hc4
    · have hc4 : (P 0 3) ≤ x := Int.not_lt.mp hc4
      refine v_push (0) (hi_X2_hasCompany_16 hT) rfl ?_
      refine v_ret (hi_X2_hasCompany_17 hT) (Or.inl rfl) ?_
      show vP D T N 164 8 h [some (2, 0), some (0, x), none] [(0, 0)] _
      refine v_if (hi_X11_march_8 hT) (fun _ => ?_) (fun hc6 => absurd (show (0 : Int) = 0 from (by decide)) hc6)
      refine v_load (v := (2, 0)) (hi_X11_march_11 hT) rfl rfl ?_
      refine v_push (2) (hi_X11_march_12 hT) rfl ?_
      refine v_call (w := 2) [some (2, 0), some (0, 2)] hO (hi_X11_march_13 hT) rfl rfl ?_
      refine v_load (v := (2, 0)) (hi_X11_refused_0 hT) rfl rfl ?_
      refine v_load (v := (0, 2)) (hi_X11_refused_1 hT) rfl rfl ?_
      refine v_putf (r := 0) hO (hi_X11_refused_2 hT) rfl (fun hf7 => ?_)
      refine v_push (-1) (hi_X11_refused_5 hT) rfl ?_
      refine v_ret (hi_X11_refused_6 hT) (Or.inl rfl) ?_
      show vP D T N 164 16 (zset h 0 0 (0, 2)) [some (2, 0), some (0, x), none] [(0, -1)] _
      refine v_ret (hi_X11_march_16 hT) (Or.inl rfl) ?_
      exact k2 hc1 hc4
theorem qt_march17_24 {D : zD} {T : zT} (hT : hTab T) (hO : vOK T) {N : Nat} {h : zH} {Q : zR → Prop} {a : Nat} (hv0 : zHv h) (e7 : h 0 7 = (2, 24))
    (k0 : vP D T N 132 0 h [some (2, 100), some (2, 24), some (0, (a : Int))] [] (fun r1 => vP D T N 164 29 r1.1 [some (2, 0), some (0, (a : Int)), none] (zpush r1.2 []) Q)) :
    vP D T N 164 17 h [some (2, 0), some (0, (a : Int)), none] [] Q := by
  refine v_load (v := (2, 0)) (hz_X11_march hT _ _ rfl) rfl rfl ?_
  refine v_getR (c := 100) (r := 0) (hz_X11_march hT _ _ rfl) rfl rfl rfl ?_
  refine v_load (v := (2, 0)) (hz_X11_march hT _ _ rfl) rfl rfl ?_
  refine v_getf (v := (2, 24)) (r := 0) (hz_X11_march hT _ _ rfl) rfl rfl (fun _ => e7) ?_
  refine v_load (v := (0, (a : Int))) (hz_X11_march hT _ _ rfl) rfl rfl ?_
  refine v_call (w := 3) [some (2, 100), some (2, 24), some (0, (a : Int))] hO (hz_X11_march hT _ _ rfl) rfl rfl ?_
  exact k0 
theorem qt_march29_24 {D : zD} {T : zT} (hT : hTab T) (hO : vOK T) {N : Nat} {h : zH} {Q : zR → Prop} {a : Nat} (v : Int) (hv0 : zHv h) (e7 : h 0 7 = (2, 24)) (hv : v ≠ -1)
    (k0 : vP D T N 133 0 h [some (2, 100), some (2, 24), some (0, (a : Int)), none] [] (fun r1 => vP D T N 164 52 r1.1 [some (2, 0), some (0, (a : Int)), none] (zpush r1.2 []) Q)) :
    vP D T N 164 29 h [some (2, 0), some (0, (a : Int)), none] [(0, v)] Q := by
  refine v_push (-1) (hz_X11_march hT _ _ rfl) rfl ?_
  refine v_ic (hz_X11_march hT _ _ rfl) (fun hc1 => absurd (show v = -1 from hc1) hv) (fun _ => ?_)
  refine v_load (v := (2, 0)) (hz_X11_march hT _ _ rfl) rfl rfl ?_
  refine v_getR (c := 100) (r := 0) (hz_X11_march hT _ _ rfl) rfl rfl rfl ?_
  refine v_load (v := (2, 0)) (hz_X11_march hT _ _ rfl) rfl rfl ?_
  refine v_getf (v := (2, 24)) (r := 0) (hz_X11_march hT _ _ rfl) rfl rfl (fun _ => e7) ?_
  refine v_load (v := (0, (a : Int))) (hz_X11_march hT _ _ rfl) rfl rfl ?_
  refine v_call (w := 4) [some (2, 100), some (2, 24), some (0, (a : Int)), none] hO (hz_X11_march hT _ _ rfl) rfl rfl ?_
  exact k0 
theorem qt_march29n {D : zD} {T : zT} (hT : hTab T) (hO : vOK T) {N : Nat} {h : zH} {Q : zR → Prop} {a : Nat} (hv0 : zHv h)
    (k0 : Q (zset h 0 0 (0, 9), some (0, -1))) :
    vP D T N 164 29 h [some (2, 0), some (0, (a : Int)), none] [(0, -1)] Q := by
  refine v_push (-1) (hz_X11_march hT _ _ rfl) rfl ?_
  refine v_ic (hz_X11_march hT _ _ rfl) (fun _ => ?_) (fun hc1 => absurd (show (-1 : Int) = -1 from (by decide)) hc1)
  refine v_load (v := (2, 0)) (hz_X11_march hT _ _ rfl) rfl rfl ?_
  refine v_push (9) (hz_X11_march hT _ _ rfl) rfl ?_
  refine v_call (w := 2) [some (2, 0), some (0, 9)] hO (hz_X11_march hT _ _ rfl) rfl rfl ?_
  refine v_load (v := (2, 0)) (hi_X11_refused_0 hT) rfl rfl ?_
  refine v_load (v := (0, 9)) (hi_X11_refused_1 hT) rfl rfl ?_
  refine v_putf (r := 0) hO (hi_X11_refused_2 hT) rfl (fun hf2 => ?_)
  refine v_push (-1) (hi_X11_refused_5 hT) rfl ?_
  refine v_ret (hi_X11_refused_6 hT) (Or.inl rfl) ?_
  show vP D T N 164 39 (zset h 0 0 (0, 9)) [some (2, 0), some (0, (a : Int)), none] [(0, -1)] _
  refine v_ret (hz_X11_march hT _ _ rfl) (Or.inl rfl) ?_
  exact k0 
theorem qt_march52 {D : zD} {T : zT} (hT : hTab T) (hO : vOK T) {N : Nat} {h : zH} {Q : zR → Prop} {a s n : Nat} (hv0 : zHv h) (e7 : h 100 7 = (0, (n : Int)))
    (k0 : ((s : Int) < (n : Int)) → Q (zset (zset h 0 18 (0, 1)) 0 0 (0, 0), some (0, (s : Int))))
    (k1 : ((n : Int) ≤ (s : Int)) → Q (zset (zset h 0 18 (0, 0)) 0 0 (0, 0), some (0, (s : Int)))) :
    vP D T N 164 52 h [some (2, 0), some (0, (a : Int)), none] [(0, (s : Int))] Q := by
  refine v_store1 [some (2, 0), some (0, (a : Int)), some (0, (s : Int))] (hz_X11_march hT _ _ rfl) ⟨rfl, Nat.ne_of_beq_eq_false rfl⟩ (Nat.le_of_ble_eq_true rfl) rfl ?_
  refine v_load (v := (2, 0)) (hz_X11_march hT _ _ rfl) rfl rfl ?_
  refine v_load (v := (0, (s : Int))) (hz_X11_march hT _ _ rfl) rfl rfl ?_
  refine v_load (v := (2, 0)) (hz_X11_march hT _ _ rfl) rfl rfl ?_
  refine v_getR (c := 100) (r := 0) (hz_X11_march hT _ _ rfl) rfl rfl rfl ?_
  refine v_getf (v := (0, (n : Int))) (r := 100) (hz_X11_march hT _ _ rfl) rfl rfl (fun _ => e7) ?_
  refine v_ic (hz_X11_march hT _ _ rfl) (fun hc1 => ?_) (fun hc1 => ?_)
  · have hc1 : (s : Int) < (n : Int) := hc1
    refine v_push (1) (hz_X11_march hT _ _ rfl) rfl ?_
    refine v_goto (hz_X11_march hT _ _ rfl) ?_
    refine v_putf (r := 0) hO (hz_X11_march hT _ _ rfl) rfl (fun hf2 => ?_)
    refine v_load (v := (2, 0)) (hz_X11_march hT _ _ rfl) rfl rfl ?_
    refine v_load (v := (0, (s : Int))) (hz_X11_march hT _ _ rfl) rfl rfl ?_
    refine v_call (w := 2) [some (2, 0), some (0, (s : Int))] hO (hz_X11_march hT _ _ rfl) rfl rfl ?_
    refine v_load (v := (2, 0)) (hi_X11_answer_0 hT) rfl rfl ?_
    refine v_push (0) (hi_X11_answer_1 hT) rfl ?_
    refine v_putf (r := 0) hO (hi_X11_answer_2 hT) rfl (fun hf3 => ?_)
    refine v_load (v := (0, (s : Int))) (hi_X11_answer_5 hT) rfl rfl ?_
    refine v_ret (hi_X11_answer_6 hT) (Or.inl rfl) ?_
    show vP D T N 164 78 (zset (zset h 0 18 (0, 1)) 0 0 (0, 0)) [some (2, 0), some (0, (a : Int)), some (0, (s : Int))] [(0, (s : Int))] _
    refine v_ret (hz_X11_march hT _ _ rfl) (Or.inl rfl) ?_
    exact k0 hc1
  · have hc1 : (n : Int) ≤ (s : Int) := Int.not_lt.mp hc1
    refine v_push (0) (hz_X11_march hT _ _ rfl) rfl ?_
    refine v_putf (r := 0) hO (hz_X11_march hT _ _ rfl) rfl (fun hf4 => ?_)
    refine v_load (v := (2, 0)) (hz_X11_march hT _ _ rfl) rfl rfl ?_
    refine v_load (v := (0, (s : Int))) (hz_X11_march hT _ _ rfl) rfl rfl ?_
    refine v_call (w := 2) [some (2, 0), some (0, (s : Int))] hO (hz_X11_march hT _ _ rfl) rfl rfl ?_
    refine v_load (v := (2, 0)) (hi_X11_answer_0 hT) rfl rfl ?_
    refine v_push (0) (hi_X11_answer_1 hT) rfl ?_
    refine v_putf (r := 0) hO (hi_X11_answer_2 hT) rfl (fun hf5 => ?_)
    refine v_load (v := (0, (s : Int))) (hi_X11_answer_5 hT) rfl rfl ?_
    refine v_ret (hi_X11_answer_6 hT) (Or.inl rfl) ?_
    show vP D T N 164 78 (zset (zset h 0 18 (0, 0)) 0 0 (0, 0)) [some (2, 0), some (0, (a : Int)), some (0, (s : Int))] [(0, (s : Int))] _
    refine v_ret (hz_X11_march hT _ _ rfl) (Or.inl rfl) ?_
    exact k1 hc1
theorem qt_hand0_24 {D : zD} {T : zT} (hT : hTab T) (hO : vOK T) {N : Nat} {h : zH} {Q : zR → Prop} {P : PT} (x y : Int) (hv0 : zHv h) (e7 : h 0 7 = (2, 24)) (p0 : h 24 0 = (0, P 0 0)) (p1 : h 24 1 = (0, P 0 1)) (p2 : h 24 2 = (0, P 0 2)) (p3 : h 24 3 = (0, P 0 3)) (lb : (0 ≤ P 0 0 ∧ P 0 0 ≤ 8) ∧ (0 ≤ P 0 1 ∧ P 0 1 ≤ 6) ∧ (0 ≤ P 0 2 ∧ P 0 2 ≤ 3) ∧ (0 ≤ P 0 3 ∧ P 0 3 ≤ 6))
    (k0 : (x < 0) → Q (zset h 0 0 (0, 2), some (0, 0)))
    (k1 : (0 ≤ x) → (x < (P 0 3)) → (y < 0) → Q (zset h 0 0 (0, 2), some (0, 0)))
    (k2 : (0 ≤ x) → (x < (P 0 3)) → (0 ≤ y) → (y < (P 0 2)) → vP D T N 158 28 h [some (2, 0), some (0, x), some (0, y)] [] Q)
    (k3 : (0 ≤ x) → (x < (P 0 3)) → (0 ≤ y) → ((P 0 2) ≤ y) → Q (zset h 0 0 (0, 2), some (0, 0)))
    (k4 : (0 ≤ x) → ((P 0 3) ≤ x) → Q (zset h 0 0 (0, 2), some (0, 0))) :
    vP D T N 158 0 h [some (2, 0), some (0, x), some (0, y)] [] Q := by
  refine v_load (v := (2, 0)) (hz_X11_hand hT _ _ rfl) rfl rfl ?_
  refine v_getf (v := (2, 24)) (r := 0) (hz_X11_hand hT _ _ rfl) rfl rfl (fun _ => e7) ?_
  refine v_load (v := (0, x)) (hz_X11_hand hT _ _ rfl) rfl rfl ?_
  refine v_call (w := 2) [some (2, 24), some (0, x)] hO (hz_X11_hand hT _ _ rfl) rfl rfl ?_
  refine v_load (v := (0, x)) (hi_X2_hasCompany_0 hT) rfl rfl ?_
  refine v_if (hi_X2_hasCompany_1 hT) (fun hc1 => ?_) (fun hc1 => ?_)
  · have hc1 : x < 0 := hc1
    refine v_push (0) (hi_X2_hasCompany_16 hT) rfl ?_
    refine v_ret (hi_X2_hasCompany_17 hT) (Or.inl rfl) ?_
    show vP D T N 158 8 h [some (2, 0), some (0, x), some (0, y)] [(0, 0)] _
    refine v_if (hi_X11_hand_8 hT) (fun _ => ?_) (fun hc2 => absurd (show (0 : Int) = 0 from (by decide)) hc2)
    refine v_load (v := (2, 0)) (hi_X11_hand_22 hT) rfl rfl ?_
    refine v_push (2) (hi_X11_hand_23 hT) rfl ?_
    refine v_call (w := 2) [some (2, 0), some (0, 2)] hO (hi_X11_hand_24 hT) rfl rfl ?_
    refine v_load (v := (2, 0)) (hi_X11_refuse_0 hT) rfl rfl ?_
    refine v_load (v := (0, 2)) (hi_X11_refuse_1 hT) rfl rfl ?_
    refine v_putf (r := 0) hO (hi_X11_refuse_2 hT) rfl (fun hf3 => ?_)
    refine v_push (0) (hi_X11_refuse_5 hT) rfl ?_
    refine v_ret (hi_X11_refuse_6 hT) (Or.inl rfl) ?_
    show vP D T N 158 27 (zset h 0 0 (0, 2)) [some (2, 0), some (0, x), some (0, y)] [(0, 0)] _
    refine v_ret (hi_X11_hand_27 hT) (Or.inl rfl) ?_
    exact k0 hc1
  · have hc1 : 0 ≤ x := Int.not_lt.mp hc1
    refine v_load (v := (0, x)) (hi_X2_hasCompany_4 hT) rfl rfl ?_
    refine v_load (v := (2, 24)) (hi_X2_hasCompany_5 hT) rfl rfl ?_
    refine v_getf (v := (0, (P 0 3))) (r := 24) (hi_X2_hasCompany_6 hT) rfl rfl (fun _ => p3) ?_
    refine v_ic (hi_X2_hasCompany_9 hT) (fun hc4 => ?_) (fun hc4 => ?_)
    · have hc4 : x < (P 0 3) := hc4
      refine v_push (1) (hi_X2_hasCompany_12 hT) rfl ?_
      refine v_goto (hi_X2_hasCompany_13 hT) ?_
      refine v_ret (hi_X2_hasCompany_17 hT) (Or.inl rfl) ?_
      show vP D T N 158 8 h [some (2, 0), some (0, x), some (0, y)] [(0, 1)] _
      refine v_if (hi_X11_hand_8 hT) (fun hc5 => absurd (show (1 : Int) = 0 from hc5) (by decide)) (fun _ => ?_)
      refine v_load (v := (2, 0)) (hz_X11_hand hT _ _ rfl) rfl rfl ?_
      refine v_getf (v := (2, 24)) (r := 0) (hz_X11_hand hT _ _ rfl) rfl rfl (fun _ => e7) ?_
      refine v_load (v := (0, y)) (hz_X11_hand hT _ _ rfl) rfl rfl ?_
      refine v_call (w := 2) [some (2, 24), some (0, y)] hO (hz_X11_hand hT _ _ rfl) rfl rfl ?_
      refine v_load (v := (0, y)) (hi_X2_hasCopy_0 hT) rfl rfl ?_
      refine v_if (hi_X2_hasCopy_1 hT) (fun hc6 => ?_) (fun hc6 => ?_)
      · have hc6 : y < 0 := hc6
        refine v_push (0) (hi_X2_hasCopy_16 hT) rfl ?_
        refine v_ret (hi_X2_hasCopy_17 hT) (Or.inl rfl) ?_
        show vP D T N 158 19 h [some (2, 0), some (0, x), some (0, y)] [(0, 0)] _
        refine v_if (hi_X11_hand_19 hT) (fun _ => ?_) (fun hc7 => absurd (show (0 : Int) = 0 from (by decide)) hc7)
        refine v_load (v := (2, 0)) (hi_X11_hand_22 hT) rfl rfl ?_
        refine v_push (2) (hi_X11_hand_23 hT) rfl ?_
        refine v_call (w := 2) [some (2, 0), some (0, 2)] hO (hi_X11_hand_24 hT) rfl rfl ?_
        refine v_load (v := (2, 0)) (hi_X11_refuse_0 hT) rfl rfl ?_
        refine v_load (v := (0, 2)) (hi_X11_refuse_1 hT) rfl rfl ?_
        refine v_putf (r := 0) hO (hi_X11_refuse_2 hT) rfl (fun hf8 => ?_)
        refine v_push (0) (hi_X11_refuse_5 hT) rfl ?_
        refine v_ret (hi_X11_refuse_6 hT) (Or.inl rfl) ?_
        show vP D T N 158 27 (zset h 0 0 (0, 2)) [some (2, 0), some (0, x), some (0, y)] [(0, 0)] _
        refine v_ret (hi_X11_hand_27 hT) (Or.inl rfl) ?_
        exact k1 hc1 hc4 hc6
      · have hc6 : 0 ≤ y := Int.not_lt.mp hc6
        refine v_load (v := (0, y)) (hi_X2_hasCopy_4 hT) rfl rfl ?_
        refine v_load (v := (2, 24)) (hi_X2_hasCopy_5 hT) rfl rfl ?_
        refine v_getf (v := (0, (P 0 2))) (r := 24) (hi_X2_hasCopy_6 hT) rfl rfl (fun _ => p2) ?_
        refine v_ic (hi_X2_hasCopy_9 hT) (fun hc9 => ?_) (fun hc9 => ?_)
        · have hc9 : y < (P 0 2) := hc9
          refine v_push (1) (hi_X2_hasCopy_12 hT) rfl ?_
          refine v_goto (hi_X2_hasCopy_13 hT) ?_
          refine v_ret (hi_X2_hasCopy_17 hT) (Or.inl rfl) ?_
          show vP D T N 158 19 h [some (2, 0), some (0, x), some (0, y)] [(0, 1)] _
          refine v_if (hi_X11_hand_19 hT) (fun hc10 => absurd (show (1 : Int) = 0 from hc10) (by decide)) (fun _ => ?_)
          exact k2 hc1 hc4 hc6 hc9
        · have hc9 : (P 0 2) ≤ y := Int.not_lt.mp hc9
          refine v_push (0) (hi_X2_hasCopy_16 hT) rfl ?_
          refine v_ret (hi_X2_hasCopy_17 hT) (Or.inl rfl) ?_
          show vP D T N 158 19 h [some (2, 0), some (0, x), some (0, y)] [(0, 0)] _
          refine v_if (hi_X11_hand_19 hT) (fun _ => ?_) (fun hc11 => absurd (show (0 : Int) = 0 from (by decide)) hc11)
          refine v_load (v := (2, 0)) (hi_X11_hand_22 hT) rfl rfl ?_
          refine v_push (2) (hi_X11_hand_23 hT) rfl ?_
          refine v_call (w := 2) [some (2, 0), some (0, 2)] hO (hi_X11_hand_24 hT) rfl rfl ?_
          refine v_load (v := (2, 0)) (hi_X11_refuse_0 hT) rfl rfl ?_
          refine v_load (v := (0, 2)) (hi_X11_refuse_1 hT) rfl rfl ?_
          refine v_putf (r := 0) hO (hi_X11_refuse_2 hT) rfl (fun hf12 => ?_)
          refine v_push (0) (hi_X11_refuse_5 hT) rfl ?_
          refine v_ret (hi_X11_refuse_6 hT) (Or.inl rfl) ?_
          show vP D T N 158 27 (zset h 0 0 (0, 2)) [some (2, 0), some (0, x), some (0, y)] [(0, 0)] _
          refine v_ret (hi_X11_hand_27 hT) (Or.inl rfl) ?_
          exact k3 hc1 hc4 hc6 hc9
    · have hc4 : (P 0 3) ≤ x := Int.not_lt.mp hc4
      refine v_push (0) (hi_X2_hasCompany_16 hT) rfl ?_
      refine v_ret (hi_X2_hasCompany_17 hT) (Or.inl rfl) ?_
      show vP D T N 158 8 h [some (2, 0), some (0, x), some (0, y)] [(0, 0)] _
      refine v_if (hi_X11_hand_8 hT) (fun _ => ?_) (fun hc13 => absurd (show (0 : Int) = 0 from (by decide)) hc13)
      refine v_load (v := (2, 0)) (hi_X11_hand_22 hT) rfl rfl ?_
      refine v_push (2) (hi_X11_hand_23 hT) rfl ?_
      refine v_call (w := 2) [some (2, 0), some (0, 2)] hO (hi_X11_hand_24 hT) rfl rfl ?_
      refine v_load (v := (2, 0)) (hi_X11_refuse_0 hT) rfl rfl ?_
      refine v_load (v := (0, 2)) (hi_X11_refuse_1 hT) rfl rfl ?_
      refine v_putf (r := 0) hO (hi_X11_refuse_2 hT) rfl (fun hf14 => ?_)
      refine v_push (0) (hi_X11_refuse_5 hT) rfl ?_
      refine v_ret (hi_X11_refuse_6 hT) (Or.inl rfl) ?_
      show vP D T N 158 27 (zset h 0 0 (0, 2)) [some (2, 0), some (0, x), some (0, y)] [(0, 0)] _
      refine v_ret (hi_X11_hand_27 hT) (Or.inl rfl) ?_
      exact k4 hc1 hc4
theorem qt_hand28_24 {D : zD} {T : zT} (hT : hTab T) (hO : vOK T) {N : Nat} {h : zH} {Q : zR → Prop} {a j : Nat} (hv0 : zHv h) (e7 : h 0 7 = (2, 24)) (ha : a < 6)
    (k0 : (0 ≤ (a : Int)) → ((a : Int) < 6) → Q (zset (zset h 32 (((a : Int)).toNat) (0, (j : Int))) 0 0 (0, 0), some (0, 1))) :
    vP D T N 158 28 h [some (2, 0), some (0, (a : Int)), some (0, (j : Int))] [] Q := by
  refine v_load (v := (2, 0)) (hz_X11_hand hT _ _ rfl) rfl rfl ?_
  refine v_getf (v := (2, 24)) (r := 0) (hz_X11_hand hT _ _ rfl) rfl rfl (fun _ => e7) ?_
  refine v_getR (c := 32) (r := 24) (hz_X11_hand hT _ _ rfl) rfl rfl rfl ?_
  refine v_load (v := (0, (a : Int))) (hz_X11_hand hT _ _ rfl) rfl rfl ?_
  refine v_load (v := (0, (j : Int))) (hz_X11_hand hT _ _ rfl) rfl rfl ?_
  refine v_ast (r := 32) (hz_X11_hand hT _ _ rfl) rfl rfl (fun ha1 hb2 hf3 => ?_)
  refine v_load (v := (2, 0)) (hz_X11_hand hT _ _ rfl) rfl rfl ?_
  refine v_call (w := 1) [some (2, 0)] hO (hz_X11_hand hT _ _ rfl) rfl rfl ?_
  refine v_load (v := (2, 0)) (hi_X11_accept_0 hT) rfl rfl ?_
  refine v_push (0) (hi_X11_accept_1 hT) rfl ?_
  refine v_putf (r := 0) hO (hi_X11_accept_2 hT) rfl (fun hf4 => ?_)
  refine v_push (1) (hi_X11_accept_5 hT) rfl ?_
  refine v_ret (hi_X11_accept_6 hT) (Or.inl rfl) ?_
  show vP D T N 158 42 (zset (zset h 32 (((a : Int)).toNat) (0, (j : Int))) 0 0 (0, 0)) [some (2, 0), some (0, (a : Int)), some (0, (j : Int))] [(0, 1)] _
  refine v_ret (hz_X11_hand hT _ _ rfl) (Or.inl rfl) ?_
  exact k0 ha1 hb2
theorem qt_run0_24 {D : zD} {T : zT} (hT : hTab T) (hO : vOK T) {N : Nat} {h : zH} {Q : zR → Prop} (x s0 : Int) (hv0 : zHv h) (e7 : h 0 7 = (2, 24)) (es : h 34 0 = (0, s0))
    (k0 : (x < 0) → Q (zset h 0 0 (0, 5), some (0, -1)))
    (k1 : (0 ≤ x) → (9999 < x) → Q (zset h 0 0 (0, 5), some (0, -1)))
    (k2 : (0 ≤ x) → (x ≤ 9999) → (s0 = -1) → Q (zset h 0 0 (0, 8), some (0, -1)))
    (k3 : (0 ≤ x) → (x ≤ 9999) → (s0 ≠ -1) → vP D T N 90 0 h [some (2, 117), some (2, 24), some (0, x), none] [] (fun r1 => vP D T N 178 49 r1.1 [some (2, 0), some (0, x), none] (zpush r1.2 []) Q)) :
    vP D T N 178 0 h [some (2, 0), some (0, x), none] [] Q := by
  refine v_load (v := (0, x)) (hz_X11_run hT _ _ rfl) rfl rfl ?_
  refine v_if (hz_X11_run hT _ _ rfl) (fun hc1 => ?_) (fun hc1 => ?_)
  · have hc1 : x < 0 := hc1
    refine v_load (v := (2, 0)) (hi_X11_run_11 hT) rfl rfl ?_
    refine v_push (5) (hi_X11_run_12 hT) rfl ?_
    refine v_call (w := 2) [some (2, 0), some (0, 5)] hO (hi_X11_run_13 hT) rfl rfl ?_
    refine v_load (v := (2, 0)) (hi_X11_refused_0 hT) rfl rfl ?_
    refine v_load (v := (0, 5)) (hi_X11_refused_1 hT) rfl rfl ?_
    refine v_putf (r := 0) hO (hi_X11_refused_2 hT) rfl (fun hf2 => ?_)
    refine v_push (-1) (hi_X11_refused_5 hT) rfl ?_
    refine v_ret (hi_X11_refused_6 hT) (Or.inl rfl) ?_
    show vP D T N 178 16 (zset h 0 0 (0, 5)) [some (2, 0), some (0, x), none] [(0, -1)] _
    refine v_ret (hi_X11_run_16 hT) (Or.inl rfl) ?_
    exact k0 hc1
  · have hc1 : 0 ≤ x := Int.not_lt.mp hc1
    refine v_load (v := (0, x)) (hz_X11_run hT _ _ rfl) rfl rfl ?_
    refine v_push (9999) (hz_X11_run hT _ _ rfl) rfl ?_
    refine v_ic (hz_X11_run hT _ _ rfl) (fun hc3 => ?_) (fun hc3 => ?_)
    · have hc3 : 9999 < x := hc3
      refine v_load (v := (2, 0)) (hi_X11_run_11 hT) rfl rfl ?_
      refine v_push (5) (hi_X11_run_12 hT) rfl ?_
      refine v_call (w := 2) [some (2, 0), some (0, 5)] hO (hi_X11_run_13 hT) rfl rfl ?_
      refine v_load (v := (2, 0)) (hi_X11_refused_0 hT) rfl rfl ?_
      refine v_load (v := (0, 5)) (hi_X11_refused_1 hT) rfl rfl ?_
      refine v_putf (r := 0) hO (hi_X11_refused_2 hT) rfl (fun hf4 => ?_)
      refine v_push (-1) (hi_X11_refused_5 hT) rfl ?_
      refine v_ret (hi_X11_refused_6 hT) (Or.inl rfl) ?_
      show vP D T N 178 16 (zset h 0 0 (0, 5)) [some (2, 0), some (0, x), none] [(0, -1)] _
      refine v_ret (hi_X11_run_16 hT) (Or.inl rfl) ?_
      exact k1 hc1 hc3
    · have hc3 : x ≤ 9999 := Int.not_lt.mp hc3
      refine v_load (v := (2, 0)) (hz_X11_run hT _ _ rfl) rfl rfl ?_
      refine v_getf (v := (2, 24)) (r := 0) (hz_X11_run hT _ _ rfl) rfl rfl (fun _ => e7) ?_
      refine v_getR (c := 34) (r := 24) (hz_X11_run hT _ _ rfl) rfl rfl rfl ?_
      refine v_call (w := 1) [some (2, 34)] hO (hz_X11_run hT _ _ rfl) rfl rfl ?_
      refine v_load (v := (2, 34)) (hz_X5_areThere hT _ _ rfl) rfl rfl ?_
      refine v_getf (v := (0, s0)) (r := 34) (hz_X5_areThere hT _ _ rfl) rfl rfl (fun _ => es) ?_
      refine v_push (-1) (hz_X5_areThere hT _ _ rfl) rfl ?_
      refine v_ic (hz_X5_areThere hT _ _ rfl) (fun hc5 => ?_) (fun hc5 => ?_)
      · have hc5 : s0 = -1 := hc5
        refine v_push (0) (hz_X5_areThere hT _ _ rfl) rfl ?_
        refine v_ret (hi_X5_areThere_13 hT) (Or.inl rfl) ?_
        show vP D T N 178 27 h [some (2, 0), some (0, x), none] [(0, 0)] _
        refine v_if (hi_X11_run_27 hT) (fun _ => ?_) (fun hc6 => absurd (show (0 : Int) = 0 from (by decide)) hc6)
        refine v_load (v := (2, 0)) (hz_X11_run hT _ _ rfl) rfl rfl ?_
        refine v_push (8) (hz_X11_run hT _ _ rfl) rfl ?_
        refine v_call (w := 2) [some (2, 0), some (0, 8)] hO (hz_X11_run hT _ _ rfl) rfl rfl ?_
        refine v_load (v := (2, 0)) (hi_X11_refused_0 hT) rfl rfl ?_
        refine v_load (v := (0, 8)) (hi_X11_refused_1 hT) rfl rfl ?_
        refine v_putf (r := 0) hO (hi_X11_refused_2 hT) rfl (fun hf7 => ?_)
        refine v_push (-1) (hi_X11_refused_5 hT) rfl ?_
        refine v_ret (hi_X11_refused_6 hT) (Or.inl rfl) ?_
        show vP D T N 178 36 (zset h 0 0 (0, 8)) [some (2, 0), some (0, x), none] [(0, -1)] _
        refine v_ret (hz_X11_run hT _ _ rfl) (Or.inl rfl) ?_
        exact k2 hc1 hc3 hc5
      · have hc5 : s0 ≠ -1 := hc5
        refine v_push (1) (hz_X5_areThere hT _ _ rfl) rfl ?_
        refine v_goto (hz_X5_areThere hT _ _ rfl) ?_
        refine v_ret (hi_X5_areThere_13 hT) (Or.inl rfl) ?_
        show vP D T N 178 27 h [some (2, 0), some (0, x), none] [(0, 1)] _
        refine v_if (hi_X11_run_27 hT) (fun hc8 => absurd (show (1 : Int) = 0 from hc8) (by decide)) (fun _ => ?_)
        refine v_load (v := (2, 0)) (hz_X11_run hT _ _ rfl) rfl rfl ?_
        refine v_getR (c := 117) (r := 0) (hz_X11_run hT _ _ rfl) rfl rfl rfl ?_
        refine v_load (v := (2, 0)) (hz_X11_run hT _ _ rfl) rfl rfl ?_
        refine v_getf (v := (2, 24)) (r := 0) (hz_X11_run hT _ _ rfl) rfl rfl (fun _ => e7) ?_
        refine v_load (v := (0, x)) (hz_X11_run hT _ _ rfl) rfl rfl ?_
        refine v_call (w := 4) [some (2, 117), some (2, 24), some (0, x), none] hO (hz_X11_run hT _ _ rfl) rfl rfl ?_
        exact k3 hc1 hc3 hc5
theorem qt_run49_0 {D : zD} {T : zT} (hT : hTab T) (hO : vOK T) {N : Nat} {h : zH} {Q : zR → Prop} {m b k d : Nat} (x : Int) (hv0 : zHv h) (e8 : h 117 8 = (0, (m : Int))) (e9 : h 117 9 = (0, (b : Int))) (e10 : h 117 10 = (0, (k : Int))) (e11 : h 117 11 = (0, 0))
    (k0 : Q (zset (zset (zset (zset (zset h 120 0 (0, (m : Int))) 120 1 (0, (b : Int))) 120 2 (0, (k : Int))) 120 3 (0, 0)) 0 0 (0, 0), some (0, (d : Int)))) :
    vP D T N 178 49 h [some (2, 0), some (0, x), none] [(0, (d : Int))] Q := by
  refine v_store1 [some (2, 0), some (0, x), some (0, (d : Int))] (hz_X11_run hT _ _ rfl) ⟨rfl, Nat.ne_of_beq_eq_false rfl⟩ (Nat.le_of_ble_eq_true rfl) rfl ?_
  refine v_load (v := (2, 0)) (hz_X11_run hT _ _ rfl) rfl rfl ?_
  refine v_getR (c := 120) (r := 0) (hz_X11_run hT _ _ rfl) rfl rfl rfl ?_
  refine v_push (0) (hz_X11_run hT _ _ rfl) rfl ?_
  refine v_load (v := (2, 0)) (hz_X11_run hT _ _ rfl) rfl rfl ?_
  refine v_getR (c := 117) (r := 0) (hz_X11_run hT _ _ rfl) rfl rfl rfl ?_
  refine v_getf (v := (0, (m : Int))) (r := 117) (hz_X11_run hT _ _ rfl) rfl rfl (fun _ => e8) ?_
  refine v_ast (r := 120) (hz_X11_run hT _ _ rfl) rfl rfl (fun ha1 hb2 hf3 => ?_)
  refine v_load (v := (2, 0)) (hz_X11_run hT _ _ rfl) rfl rfl ?_
  refine v_getR (c := 120) (r := 0) (hz_X11_run hT _ _ rfl) rfl rfl rfl ?_
  refine v_push (1) (hz_X11_run hT _ _ rfl) rfl ?_
  refine v_load (v := (2, 0)) (hz_X11_run hT _ _ rfl) rfl rfl ?_
  refine v_getR (c := 117) (r := 0) (hz_X11_run hT _ _ rfl) rfl rfl rfl ?_
  refine v_getf (v := (0, (b : Int))) (r := 117) (hz_X11_run hT _ _ rfl) rfl rfl (fun _ => Eq.trans (zset_ne (fun c => absurd c.1 (by decide))) (e9)) ?_
  refine v_ast (r := 120) (hz_X11_run hT _ _ rfl) rfl rfl (fun ha4 hb5 hf6 => ?_)
  refine v_load (v := (2, 0)) (hz_X11_run hT _ _ rfl) rfl rfl ?_
  refine v_getR (c := 120) (r := 0) (hz_X11_run hT _ _ rfl) rfl rfl rfl ?_
  refine v_push (2) (hz_X11_run hT _ _ rfl) rfl ?_
  refine v_load (v := (2, 0)) (hz_X11_run hT _ _ rfl) rfl rfl ?_
  refine v_getR (c := 117) (r := 0) (hz_X11_run hT _ _ rfl) rfl rfl rfl ?_
  refine v_getf (v := (0, (k : Int))) (r := 117) (hz_X11_run hT _ _ rfl) rfl rfl (fun _ => Eq.trans (Eq.trans (zset_ne (fun c => absurd c.1 (by decide))) (zset_ne (fun c => absurd c.1 (by decide)))) (e10)) ?_
  refine v_ast (r := 120) (hz_X11_run hT _ _ rfl) rfl rfl (fun ha7 hb8 hf9 => ?_)
  refine v_load (v := (2, 0)) (hz_X11_run hT _ _ rfl) rfl rfl ?_
  refine v_getR (c := 120) (r := 0) (hz_X11_run hT _ _ rfl) rfl rfl rfl ?_
  refine v_push (3) (hz_X11_run hT _ _ rfl) rfl ?_
  refine v_load (v := (2, 0)) (hz_X11_run hT _ _ rfl) rfl rfl ?_
  refine v_getR (c := 117) (r := 0) (hz_X11_run hT _ _ rfl) rfl rfl rfl ?_
  refine v_getf (v := (0, 0)) (r := 117) (hz_X11_run hT _ _ rfl) rfl rfl (fun _ => Eq.trans (Eq.trans (zset_ne (fun c => absurd c.1 (by decide))) (Eq.trans (zset_ne (fun c => absurd c.1 (by decide))) (zset_ne (fun c => absurd c.1 (by decide))))) (e11)) ?_
  refine v_if (hz_X11_run hT _ _ rfl) (fun _ => ?_) (fun hc10 => absurd (show (0 : Int) = 0 from (by decide)) hc10)
  refine v_push (0) (hz_X11_run hT _ _ rfl) rfl ?_
  refine v_ast (r := 120) (hz_X11_run hT _ _ rfl) rfl rfl (fun ha11 hb12 hf13 => ?_)
  refine v_load (v := (2, 0)) (hz_X11_run hT _ _ rfl) rfl rfl ?_
  refine v_load (v := (0, (d : Int))) (hz_X11_run hT _ _ rfl) rfl rfl ?_
  refine v_call (w := 2) [some (2, 0), some (0, (d : Int))] hO (hz_X11_run hT _ _ rfl) rfl rfl ?_
  refine v_load (v := (2, 0)) (hi_X11_answer_0 hT) rfl rfl ?_
  refine v_push (0) (hi_X11_answer_1 hT) rfl ?_
  refine v_putf (r := 0) hO (hi_X11_answer_2 hT) rfl (fun hf14 => ?_)
  refine v_load (v := (0, (d : Int))) (hi_X11_answer_5 hT) rfl rfl ?_
  refine v_ret (hi_X11_answer_6 hT) (Or.inl rfl) ?_
  show vP D T N 178 115 (zset (zset (zset (zset (zset h 120 0 (0, (m : Int))) 120 1 (0, (b : Int))) 120 2 (0, (k : Int))) 120 3 (0, 0)) 0 0 (0, 0)) [some (2, 0), some (0, x), some (0, (d : Int))] [(0, (d : Int))] _
  refine v_ret (hz_X11_run hT _ _ rfl) (Or.inl rfl) ?_
  exact k0 
theorem qt_run49_1 {D : zD} {T : zT} (hT : hTab T) (hO : vOK T) {N : Nat} {h : zH} {Q : zR → Prop} {m b k d : Nat} (x : Int) (hv0 : zHv h) (e8 : h 117 8 = (0, (m : Int))) (e9 : h 117 9 = (0, (b : Int))) (e10 : h 117 10 = (0, (k : Int))) (e11 : h 117 11 = (0, 1))
    (k0 : Q (zset (zset (zset (zset (zset h 120 0 (0, (m : Int))) 120 1 (0, (b : Int))) 120 2 (0, (k : Int))) 120 3 (0, 1)) 0 0 (0, 0), some (0, (d : Int)))) :
    vP D T N 178 49 h [some (2, 0), some (0, x), none] [(0, (d : Int))] Q := by
  refine v_store1 [some (2, 0), some (0, x), some (0, (d : Int))] (hz_X11_run hT _ _ rfl) ⟨rfl, Nat.ne_of_beq_eq_false rfl⟩ (Nat.le_of_ble_eq_true rfl) rfl ?_
  refine v_load (v := (2, 0)) (hz_X11_run hT _ _ rfl) rfl rfl ?_
  refine v_getR (c := 120) (r := 0) (hz_X11_run hT _ _ rfl) rfl rfl rfl ?_
  refine v_push (0) (hz_X11_run hT _ _ rfl) rfl ?_
  refine v_load (v := (2, 0)) (hz_X11_run hT _ _ rfl) rfl rfl ?_
  refine v_getR (c := 117) (r := 0) (hz_X11_run hT _ _ rfl) rfl rfl rfl ?_
  refine v_getf (v := (0, (m : Int))) (r := 117) (hz_X11_run hT _ _ rfl) rfl rfl (fun _ => e8) ?_
  refine v_ast (r := 120) (hz_X11_run hT _ _ rfl) rfl rfl (fun ha1 hb2 hf3 => ?_)
  refine v_load (v := (2, 0)) (hz_X11_run hT _ _ rfl) rfl rfl ?_
  refine v_getR (c := 120) (r := 0) (hz_X11_run hT _ _ rfl) rfl rfl rfl ?_
  refine v_push (1) (hz_X11_run hT _ _ rfl) rfl ?_
  refine v_load (v := (2, 0)) (hz_X11_run hT _ _ rfl) rfl rfl ?_
  refine v_getR (c := 117) (r := 0) (hz_X11_run hT _ _ rfl) rfl rfl rfl ?_
  refine v_getf (v := (0, (b : Int))) (r := 117) (hz_X11_run hT _ _ rfl) rfl rfl (fun _ => Eq.trans (zset_ne (fun c => absurd c.1 (by decide))) (e9)) ?_
  refine v_ast (r := 120) (hz_X11_run hT _ _ rfl) rfl rfl (fun ha4 hb5 hf6 => ?_)
  refine v_load (v := (2, 0)) (hz_X11_run hT _ _ rfl) rfl rfl ?_
  refine v_getR (c := 120) (r := 0) (hz_X11_run hT _ _ rfl) rfl rfl rfl ?_
  refine v_push (2) (hz_X11_run hT _ _ rfl) rfl ?_
  refine v_load (v := (2, 0)) (hz_X11_run hT _ _ rfl) rfl rfl ?_
  refine v_getR (c := 117) (r := 0) (hz_X11_run hT _ _ rfl) rfl rfl rfl ?_
  refine v_getf (v := (0, (k : Int))) (r := 117) (hz_X11_run hT _ _ rfl) rfl rfl (fun _ => Eq.trans (Eq.trans (zset_ne (fun c => absurd c.1 (by decide))) (zset_ne (fun c => absurd c.1 (by decide)))) (e10)) ?_
  refine v_ast (r := 120) (hz_X11_run hT _ _ rfl) rfl rfl (fun ha7 hb8 hf9 => ?_)
  refine v_load (v := (2, 0)) (hz_X11_run hT _ _ rfl) rfl rfl ?_
  refine v_getR (c := 120) (r := 0) (hz_X11_run hT _ _ rfl) rfl rfl rfl ?_
  refine v_push (3) (hz_X11_run hT _ _ rfl) rfl ?_
  refine v_load (v := (2, 0)) (hz_X11_run hT _ _ rfl) rfl rfl ?_
  refine v_getR (c := 117) (r := 0) (hz_X11_run hT _ _ rfl) rfl rfl rfl ?_
  refine v_getf (v := (0, 1)) (r := 117) (hz_X11_run hT _ _ rfl) rfl rfl (fun _ => Eq.trans (Eq.trans (zset_ne (fun c => absurd c.1 (by decide))) (Eq.trans (zset_ne (fun c => absurd c.1 (by decide))) (zset_ne (fun c => absurd c.1 (by decide))))) (e11)) ?_
  refine v_if (hz_X11_run hT _ _ rfl) (fun hc10 => absurd (show (1 : Int) = 0 from hc10) (by decide)) (fun _ => ?_)
  refine v_push (1) (hz_X11_run hT _ _ rfl) rfl ?_
  refine v_goto (hz_X11_run hT _ _ rfl) ?_
  refine v_ast (r := 120) (hz_X11_run hT _ _ rfl) rfl rfl (fun ha11 hb12 hf13 => ?_)
  refine v_load (v := (2, 0)) (hz_X11_run hT _ _ rfl) rfl rfl ?_
  refine v_load (v := (0, (d : Int))) (hz_X11_run hT _ _ rfl) rfl rfl ?_
  refine v_call (w := 2) [some (2, 0), some (0, (d : Int))] hO (hz_X11_run hT _ _ rfl) rfl rfl ?_
  refine v_load (v := (2, 0)) (hi_X11_answer_0 hT) rfl rfl ?_
  refine v_push (0) (hi_X11_answer_1 hT) rfl ?_
  refine v_putf (r := 0) hO (hi_X11_answer_2 hT) rfl (fun hf14 => ?_)
  refine v_load (v := (0, (d : Int))) (hi_X11_answer_5 hT) rfl rfl ?_
  refine v_ret (hi_X11_answer_6 hT) (Or.inl rfl) ?_
  show vP D T N 178 115 (zset (zset (zset (zset (zset h 120 0 (0, (m : Int))) 120 1 (0, (b : Int))) 120 2 (0, (k : Int))) 120 3 (0, 1)) 0 0 (0, 0)) [some (2, 0), some (0, x), some (0, (d : Int))] [(0, (d : Int))] _
  refine v_ret (hz_X11_run hT _ _ rfl) (Or.inl rfl) ?_
  exact k0 
theorem cx_dfL_24 {D : zD} {T : zT} (hT : hTab T) (hO : vOK T) {N : Nat} {h : zH} {Q : zR → Prop} {P : PT} {j t : Nat} (hP : cP 24 P h) (hb : fB P) (hj : j < 3) (ht : t < 3) (k : Q (h, some (0, ((uS P j t ((P 0 0).toNat * (P 0 1).toNat) : Nat) : Int)))) : ∀ (r q m : Nat), q + r = 48 → m = sC P (fun q => if P 3 (48 * j + q) = P 3 (48 * t + q) then 0 else 1) q → vP D T N 34 5 h [some (2, 24), some (0, (j : Int)), some (0, (t : Int)), some (0, (m : Int)), some (0, (q : Int))] [] Q
  | 0, q, m, hq, hm => by
    have : q = 48 := hq
    subst this
    rw [uS_sR, ← sC_sR hb.1, ← hm] at k
    exact vP_dn (vP_hv (fun hv => qk_df9_24 hT hO hv k))
  | r + 1, q, m, hq, hm => by
    have b1 := sC_le (P := P) (f := fun q => if P 3 (48 * j + q) = P 3 (48 * t + q) then 0 else 1) (fun q => by split <;> omega) q
    have ih := cx_dfL_24 (D := D) (N := N) hT hO hP hb hj ht k r (q + 1)
    refine vP_dn (vP_hv (fun hv => qk_df5_24 hT hO hv hP hb hj ht (by omega) (by omega) (fun g c => ih m (by omega) ?_) (fun g c => ih (m + 1) (by omega) ?_) (fun g => ih m (by omega) ?_)))
    · show m = sC P _ q + (if gIx P q = 1 then (if P 3 (48 * j + q) = P 3 (48 * t + q) then 0 else 1) else 0)
      rw [if_pos (gIx_y g), if_pos c, ← hm]
      rfl
    · show m + 1 = sC P _ q + (if gIx P q = 1 then (if P 3 (48 * j + q) = P 3 (48 * t + q) then 0 else 1) else 0)
      rw [if_pos (gIx_y g), if_neg c, ← hm]
    · show m = sC P _ q + (if gIx P q = 1 then (if P 3 (48 * j + q) = P 3 (48 * t + q) then 0 else 1) else 0)
      rw [if_neg (fun e => by rw [gIx_n (by omega) g] at e; exact absurd e (by decide)), ← hm]
      rfl
theorem cx_df_24 {D : zD} {T : zT} (hT : hTab T) (hO : vOK T) {N : Nat} {h : zH} {Q : zR → Prop} {P : PT} {j t : Nat} (hP : cP 24 P h) (hb : fB P) (hj : j < 3) (ht : t < 3) (k : Q (h, some (0, ((uS P j t ((P 0 0).toNat * (P 0 1).toNat) : Nat) : Int)))) : vP D T N 34 0 h [some (2, 24), some (0, (j : Int)), some (0, (t : Int)), none, none] [] Q := vP_hv (fun hv => qk_df0_24 hT hO hv (cx_dfL_24 hT hO hP hb hj ht k 48 0 0 rfl rfl))
section CT_24
variable {D : zD} {T : zT} {N : Nat} {h : zH} {P : PT}
theorem cx_bite_24 (hT : hTab T) (hO : vOK T) (hP : cP 24 P h) (hb : fB P) (e7 : h 0 7 = (2, 24)) (x y z : Int) : vP D T N 146 0 h [some (2, 0), some (0, x), some (0, y), some (0, z), none] [] (fun r => cP 24 (btP P x y z) r.1 ∧ cTF 24 h r.1 ∧ r.2 = some (0, btV P x y z)) := by
  have lb := hb.1
  have l3 := lb.2.2.1.2
  have no : ∀ v : Int, ¬ (okC P x y z ∧ P 3 (cI x y z) ≠ 1) → cP 24 (btP P x y z) (zset h 0 0 (0, v)) ∧ cTF 24 h (zset h 0 0 (0, v)) ∧ (some ((0, -1) : zV)) = some (0, btV P x y z) := fun v c => by
    unfold btP btV
    rw [if_neg c, if_neg c]
    exact ⟨hP.st (by decide), cTF.rfl.st, rfl⟩
  refine vP_hv (fun hv => qt_bite0_24 (P := P) hT hO x y z hv e7 hP.1.1 hP.1.2.1 hP.1.2.2.1 hP.1.2.2.2.1 lb ?k0 ?k1 ?k2 ?k3 ?k4 ?k5 ?k6)
  case k3 =>
    intro c1 c2 c3 c4 c5 c6
    obtain ⟨j, rfl⟩ : ∃ j : Nat, x = (j : Int) := ⟨x.toNat, by omega⟩
    obtain ⟨u, rfl⟩ : ∃ u : Nat, y = (u : Int) := ⟨y.toNat, by omega⟩
    obtain ⟨v, rfl⟩ : ∃ v : Nat, z = (v : Int) := ⟨z.toNat, by omega⟩
    have w8 := lb.1.2
    have r6 := lb.2.1.2
    refine vP_hv (fun hv => qt_bite19_24 hT hO hv e7 (by omega) (by omega) ?_)
    rw [show ((v : Int) * 8) + (u : Int) = ((8 * v + u : Nat) : Int) from by omega]
    refine cb_eat_24 hT hO _ _ j (8 * v + u) rfl rfl (by omega) (by omega) hP hb (fun c => ?_) (fun c g hP2 f => ?_)
    · exact vP_hv (fun hv => qt_bite36n hT hO _ hv (no 9 (fun d => d.2 c)))
    · have e1 : btP P (j : Int) (u : Int) (v : Int) = pBite P j (8 * v + u) := if_pos ⟨⟨c1, c2, c3, c4, c5, c6⟩, c⟩
      have e2 : btV P (j : Int) (u : Int) (v : Int) = gCr P (8 * v + u) := if_pos ⟨⟨c1, c2, c3, c4, c5, c6⟩, c⟩
      rw [e1, e2]
      exact vP_hv (fun hv => qt_bite36y_24 hT hO hv ((f 0 7 (by omega)).trans e7) hP2 ((hb.s3 (by decide)).s04) (by omega) ⟨hP2.st (by decide), f.tf.st, rfl⟩)
  all_goals
    intros
    exact no 2 (by rintro ⟨⟨o1, o2, o3, o4, o5, o6⟩, _⟩; omega)
theorem cx_mould_24 (hT : hTab T) (hO : vOK T) (hP : cP 24 P h) (hb : fB P) (e7 : h 0 7 = (2, 24)) (x y z : Int) : vP D T N 168 0 h [some (2, 0), some (0, x), some (0, y), some (0, z)] [] (fun r => cP 24 (moP P x y z) r.1 ∧ cTF 24 h r.1 ∧ r.2 = some (0, moV P x y z)) := by
  have lb := hb.1
  have l3 := lb.2.2.1.2
  have no : ∀ v : Int, ¬ (okC P x y z ∧ (P 3 (cI x y z) = 0)) → cP 24 (moP P x y z) (zset h 0 0 (0, v)) ∧ cTF 24 h (zset h 0 0 (0, v)) ∧ (some ((0, 0) : zV)) = some (0, moV P x y z) := fun v c => by
    unfold moP moV
    rw [if_neg c, if_neg c]
    exact ⟨hP.st (by decide), cTF.rfl.st, rfl⟩
  refine vP_hv (fun hv => qt_mould0_24 (P := P) hT hO x y z hv e7 hP.1.1 hP.1.2.1 hP.1.2.2.1 hP.1.2.2.2.1 lb ?k0 ?k1 ?k2 ?k3 ?k4 ?k5 ?k6)
  case k3 =>
    intro c1 c2 c3 c4 c5 c6
    obtain ⟨j, rfl⟩ : ∃ j : Nat, x = (j : Int) := ⟨x.toNat, by omega⟩
    obtain ⟨u, rfl⟩ : ∃ u : Nat, y = (u : Int) := ⟨y.toNat, by omega⟩
    obtain ⟨v, rfl⟩ : ∃ v : Nat, z = (v : Int) := ⟨z.toNat, by omega⟩
    have w8 := lb.1.2
    have r6 := lb.2.1.2
    have bs := hb.2.2.1 (48 * j + (8 * v + u)) (by omega)
    refine vP_hv (fun hv => qt_mould19_24 hT hO hv e7 (by omega) (by omega) ?_)
    refine cb_mo_24 hT hO _ _ j (8 * v + u) rfl (by omega) (by omega) (by omega) hP hb (fun c => ?_) (fun c g hP2 f => ?_)
    · exact vP_hv (fun hv => qt_mould32_0 hT hO hv (no 9 (fun d => by have d := d.2; have d : (P 3 (48 * j + (8 * v + u)) = 0) := d; omega)))
    · have cc : (P 3 (48 * j + (8 * v + u)) = 0) := by omega
      have e1 : moP P (j : Int) (u : Int) (v : Int) = pSt P j (8 * v + u) 2 := if_pos ⟨⟨c1, c2, c3, c4, c5, c6⟩, cc⟩
      have e2 : moV P (j : Int) (u : Int) (v : Int) = 1 := if_pos ⟨⟨c1, c2, c3, c4, c5, c6⟩, cc⟩
      rw [e1, e2]
      exact vP_hv (fun hv => qt_mould32_1 hT hO hv ⟨hP2.st (by decide), f.tf.st, rfl⟩)
  all_goals
    intros
    exact no 2 (by rintro ⟨⟨o1, o2, o3, o4, o5, o6⟩, _⟩; omega)
theorem cx_honey_24 (hT : hTab T) (hO : vOK T) (hP : cP 24 P h) (hb : fB P) (e7 : h 0 7 = (2, 24)) (x y z : Int) : vP D T N 160 0 h [some (2, 0), some (0, x), some (0, y), some (0, z)] [] (fun r => cP 24 (hoP P x y z) r.1 ∧ cTF 24 h r.1 ∧ r.2 = some (0, hoV P x y z)) := by
  have lb := hb.1
  have l3 := lb.2.2.1.2
  have no : ∀ v : Int, ¬ (okC P x y z ∧ (P 3 (cI x y z) = 0 ∨ P 3 (cI x y z) = 2)) → cP 24 (hoP P x y z) (zset h 0 0 (0, v)) ∧ cTF 24 h (zset h 0 0 (0, v)) ∧ (some ((0, 0) : zV)) = some (0, hoV P x y z) := fun v c => by
    unfold hoP hoV
    rw [if_neg c, if_neg c]
    exact ⟨hP.st (by decide), cTF.rfl.st, rfl⟩
  refine vP_hv (fun hv => qt_honey0_24 (P := P) hT hO x y z hv e7 hP.1.1 hP.1.2.1 hP.1.2.2.1 hP.1.2.2.2.1 lb ?k0 ?k1 ?k2 ?k3 ?k4 ?k5 ?k6)
  case k3 =>
    intro c1 c2 c3 c4 c5 c6
    obtain ⟨j, rfl⟩ : ∃ j : Nat, x = (j : Int) := ⟨x.toNat, by omega⟩
    obtain ⟨u, rfl⟩ : ∃ u : Nat, y = (u : Int) := ⟨y.toNat, by omega⟩
    obtain ⟨v, rfl⟩ : ∃ v : Nat, z = (v : Int) := ⟨z.toNat, by omega⟩
    have w8 := lb.1.2
    have r6 := lb.2.1.2
    have bs := hb.2.2.1 (48 * j + (8 * v + u)) (by omega)
    refine vP_hv (fun hv => qt_honey19_24 hT hO hv e7 (by omega) (by omega) ?_)
    refine cb_ho_24 hT hO _ _ j (8 * v + u) rfl (by omega) (by omega) (by omega) hP hb (fun c => ?_) (fun c g hP2 f => ?_)
    · exact vP_hv (fun hv => qt_honey32_0 hT hO hv (no 9 (fun d => by have d := d.2; have d : (P 3 (48 * j + (8 * v + u)) = 0 ∨ P 3 (48 * j + (8 * v + u)) = 2) := d; omega)))
    · have cc : (P 3 (48 * j + (8 * v + u)) = 0 ∨ P 3 (48 * j + (8 * v + u)) = 2) := by omega
      have e1 : hoP P (j : Int) (u : Int) (v : Int) = pSt P j (8 * v + u) 3 := if_pos ⟨⟨c1, c2, c3, c4, c5, c6⟩, cc⟩
      have e2 : hoV P (j : Int) (u : Int) (v : Int) = 1 := if_pos ⟨⟨c1, c2, c3, c4, c5, c6⟩, cc⟩
      rw [e1, e2]
      exact vP_hv (fun hv => qt_honey32_1 hT hO hv ⟨hP2.st (by decide), f.tf.st, rfl⟩)
  all_goals
    intros
    exact no 2 (by rintro ⟨⟨o1, o2, o3, o4, o5, o6⟩, _⟩; omega)
theorem cx_clean_24 (hT : hTab T) (hO : vOK T) (hP : cP 24 P h) (hb : fB P) (e7 : h 0 7 = (2, 24)) (x y z : Int) : vP D T N 149 0 h [some (2, 0), some (0, x), some (0, y), some (0, z)] [] (fun r => cP 24 (clP P x y z) r.1 ∧ cTF 24 h r.1 ∧ r.2 = some (0, clV P x y z)) := by
  have lb := hb.1
  have l3 := lb.2.2.1.2
  have no : ∀ v : Int, ¬ (okC P x y z ∧ (2 ≤ P 3 (cI x y z))) → cP 24 (clP P x y z) (zset h 0 0 (0, v)) ∧ cTF 24 h (zset h 0 0 (0, v)) ∧ (some ((0, 0) : zV)) = some (0, clV P x y z) := fun v c => by
    unfold clP clV
    rw [if_neg c, if_neg c]
    exact ⟨hP.st (by decide), cTF.rfl.st, rfl⟩
  refine vP_hv (fun hv => qt_clean0_24 (P := P) hT hO x y z hv e7 hP.1.1 hP.1.2.1 hP.1.2.2.1 hP.1.2.2.2.1 lb ?k0 ?k1 ?k2 ?k3 ?k4 ?k5 ?k6)
  case k3 =>
    intro c1 c2 c3 c4 c5 c6
    obtain ⟨j, rfl⟩ : ∃ j : Nat, x = (j : Int) := ⟨x.toNat, by omega⟩
    obtain ⟨u, rfl⟩ : ∃ u : Nat, y = (u : Int) := ⟨y.toNat, by omega⟩
    obtain ⟨v, rfl⟩ : ∃ v : Nat, z = (v : Int) := ⟨z.toNat, by omega⟩
    have w8 := lb.1.2
    have r6 := lb.2.1.2
    have bs := hb.2.2.1 (48 * j + (8 * v + u)) (by omega)
    refine vP_hv (fun hv => qt_clean19_24 hT hO hv e7 (by omega) (by omega) ?_)
    refine cb_wi_24 hT hO _ _ j (8 * v + u) rfl (by omega) (by omega) (by omega) hP hb (fun c => ?_) (fun c g hP2 f => ?_)
    · exact vP_hv (fun hv => qt_clean32_0 hT hO hv (no 9 (fun d => by have d := d.2; have d : (2 ≤ P 3 (48 * j + (8 * v + u))) := d; omega)))
    · have cc : (2 ≤ P 3 (48 * j + (8 * v + u))) := by omega
      have e1 : clP P (j : Int) (u : Int) (v : Int) = pSt P j (8 * v + u) 0 := if_pos ⟨⟨c1, c2, c3, c4, c5, c6⟩, cc⟩
      have e2 : clV P (j : Int) (u : Int) (v : Int) = 1 := if_pos ⟨⟨c1, c2, c3, c4, c5, c6⟩, cc⟩
      rw [e1, e2]
      exact vP_hv (fun hv => qt_clean32_1 hT hO hv ⟨hP2.st (by decide), f.tf.st, rfl⟩)
  all_goals
    intros
    exact no 2 (by rintro ⟨⟨o1, o2, o3, o4, o5, o6⟩, _⟩; omega)
theorem cx_steam_24 (hT : hTab T) (hO : vOK T) (hP : cP 24 P h) (hb : fB P) (e7 : h 0 7 = (2, 24)) (x y : Int) : vP D T N 182 0 h [some (2, 0), some (0, x), some (0, y), none] [] (fun r => cP 24 (ssP P x y) r.1 ∧ cTF 24 h r.1 ∧ r.2 = some (0, ssV P x y)) := by
  have lb := hb.1
  have l3 := lb.2.2.1.2
  have no : ∀ v : Int, ¬ (okS P x y ∧ x ≠ y) → cP 24 (ssP P x y) (zset h 0 0 (0, v)) ∧ cTF 24 h (zset h 0 0 (0, v)) ∧ (some ((0, -1) : zV)) = some (0, ssV P x y) := fun v c => by
    unfold ssP ssV
    rw [if_neg c, if_neg c]
    exact ⟨hP.st (by decide), cTF.rfl.st, rfl⟩
  refine vP_hv (fun hv => qt_steam0_24 (P := P) hT hO x y hv e7 hP.1.1 hP.1.2.1 hP.1.2.2.1 hP.1.2.2.2.1 lb ?k0 ?k1 ?k2 ?k3 ?k4 ?k5)
  case k2 =>
    intro c1 c2 c3 c4 c5
    exact no 5 (fun d => d.2 c5)
  case k3 =>
    intro c1 c2 c3 c4 c5
    obtain ⟨j, rfl⟩ : ∃ j : Nat, x = (j : Int) := ⟨x.toNat, by omega⟩
    obtain ⟨t, rfl⟩ : ∃ t : Nat, y = (t : Int) := ⟨y.toNat, by omega⟩
    have e1 : ssP P (j : Int) (t : Int) = pSteam P j t := if_pos ⟨⟨c1, c2, c3, c4⟩, c5⟩
    have e2 : ssV P (j : Int) (t : Int) = ((uS P j t ((P 0 0).toNat * (P 0 1).toNat) : Nat) : Int) := if_pos ⟨⟨c1, c2, c3, c4⟩, c5⟩
    rw [e1, e2]
    refine vP_hv (fun hv => qt_steam39_24 hT hO hv e7 ?_)
    refine cx_df_24 hT hO hP hb (by omega) (by omega) ?_
    refine vP_hv (fun hv => qt_steam48_24 hT hO _ hv e7 ?_)
    refine cb_so_24 hT hO _ _ j t rfl rfl (by omega) (by omega) hP (fun g hP2 f => ?_)
    exact vP_hv (fun hv => qt_steam58 hT hO _ hv ⟨hP2.st (by decide), f.tf.st, rfl⟩)
  all_goals
    intros
    exact no 2 (by rintro ⟨⟨o1, o2, o3, o4⟩, _⟩; omega)
theorem cx_march_24 (hT : hTab T) (hO : vOK T) (hP : cP 24 P h) (hb : fB P) (e7 : h 0 7 = (2, 24)) (x : Int) : vP D T N 164 0 h [some (2, 0), some (0, x), none] [] (fun r => cP 24 (maP P x) r.1 ∧ cTF 24 h r.1 ∧ r.2 = some (0, maV P x)) := by
  have lb := hb.1
  have l6 := lb.2.2.2.2
  have no : ∀ (g : zH) (v : Int), cP 24 P g → cTF 24 h g → ¬ (okM P x ∧ mC P x.toNat ≠ -1) → cP 24 (maP P x) (zset g 0 0 (0, v)) ∧ cTF 24 h (zset g 0 0 (0, v)) ∧ (some ((0, -1) : zV)) = some (0, maV P x) := fun g v hg f c => by
    unfold maP maV
    rw [if_neg c, if_neg c]
    exact ⟨hg.st (by decide), f.st, rfl⟩
  refine vP_hv (fun hv => qt_march0_24 (P := P) hT hO x hv e7 hP.1.1 hP.1.2.1 hP.1.2.2.1 hP.1.2.2.2.1 lb ?k0 ?k1 ?k2)
  case k1 =>
    intro c1 c2
    obtain ⟨a, rfl⟩ : ∃ a : Nat, x = (a : Int) := ⟨x.toNat, by omega⟩
    refine vP_hv (fun hv => qt_march17_24 hT hO hv e7 ?_)
    refine cx_fw_24 hT hO _ a rfl hP hb c2 (fun g w1 _ w3 => ?_)
    have F : cTF 24 h g := fun i k hn => w1 i k (fun e => hn (by omega))
    have hP1 : cP 24 P g := hP.eq (fun i k h1 h2 => w1 i k (by omega))
    by_cases c : mC P a = -1
    · have c' : yCost P (gCo P (P 8 a).toNat) (P 6 a).toNat (P 7 a).toNat = -1 := c
      rw [c']
      exact vP_hv (fun hv => qt_march29n hT hO hv (no g 9 hP1 F (fun d => d.2 c)))
    · have c0 := mC_n hb c2 c
      obtain ⟨n47, hg⟩ := mP_ok hb c2 c0
      obtain ⟨_, ⟨_, g6⟩, _⟩ := hb.2.2.2 a c2
      have hp := w3.2 ((yCost_f g6).mp c0)
      have e1 : maP P (a : Int) = pGo P a (mP P a) (mS P a) := if_pos ⟨⟨c1, c2⟩, c⟩
      have e2 : maV P (a : Int) = ((mS P a : Nat) : Int) := if_pos ⟨⟨c1, c2⟩, c⟩
      rw [e1, e2]
      show vP D T N 164 29 g [some (2, 0), some (0, (a : Int)), none] [(0, mC P a)] _
      refine vP_hv (fun hv => qt_march29_24 hT hO (mC P a) hv ((w1 0 7 (by omega)).trans e7) c ?_)
      refine cx_ld_24 hT hO _ a rfl hP1 hb c2 n47 hp hg (fun g2 hP2 f2 => ?_)
      have e7' : g2 100 7 = (0, ((mN P a : Nat) : Int)) := (f2 100 7 (by omega)).trans hp.2.1
      have hP3 : ∀ v : zV, cP 24 (pGo P a (mP P a) (mS P a)) (zset g2 0 18 v) := fun v => hP2.eq (fun i k h1 h2 => zset_ne (fun e => by omega))
      have F3 : ∀ v : zV, cTF 24 h (zset g2 0 18 v) := fun v i k hn => (zset_ne (fun e => hn (by omega))).trans ((f2 i k (fun e => hn (by omega))).trans (F i k hn))
      exact vP_hv (fun hv => qt_march52 (s := mS P a) hT hO hv e7' (fun _ => ⟨(hP3 _).st (by decide), (F3 _).st, rfl⟩) (fun _ => ⟨(hP3 _).st (by decide), (F3 _).st, rfl⟩))
  all_goals
    intros
    exact no h 2 hP cTF.rfl (by rintro ⟨⟨o1, o2⟩, _⟩; omega)
theorem cx_hand_24 (hT : hTab T) (hO : vOK T) (hP : cP 24 P h) (hb : fB P) (e7 : h 0 7 = (2, 24)) (x y : Int) : vP D T N 158 0 h [some (2, 0), some (0, x), some (0, y)] [] (fun r => cP 24 (haP P x y) r.1 ∧ cTF 24 h r.1 ∧ r.2 = some (0, haV P x y)) := by
  have lb := hb.1
  have l6 := lb.2.2.2.2
  have no : ∀ v : Int, ¬ okH P x y → cP 24 (haP P x y) (zset h 0 0 (0, v)) ∧ cTF 24 h (zset h 0 0 (0, v)) ∧ (some ((0, 0) : zV)) = some (0, haV P x y) := fun v c => by
    unfold haP haV
    rw [if_neg c, if_neg c]
    exact ⟨hP.st (by decide), cTF.rfl.st, rfl⟩
  refine vP_hv (fun hv => qt_hand0_24 (P := P) hT hO x y hv e7 hP.1.1 hP.1.2.1 hP.1.2.2.1 hP.1.2.2.2.1 lb ?k0 ?k1 ?k2 ?k3 ?k4)
  case k2 =>
    intro c1 c2 c3 c4
    obtain ⟨a, rfl⟩ : ∃ a : Nat, x = (a : Int) := ⟨x.toNat, by omega⟩
    obtain ⟨j, rfl⟩ : ∃ j : Nat, y = (j : Int) := ⟨y.toNat, by omega⟩
    have e1 : haP P (a : Int) (j : Int) = pset P 8 a (j : Int) := if_pos ⟨c1, c2, c3, c4⟩
    have e2 : haV P (a : Int) (j : Int) = 1 := if_pos ⟨c1, c2, c3, c4⟩
    rw [e1, e2]
    refine vP_hv (fun hv => qt_hand28_24 hT hO hv e7 (by omega) (fun _ _ => ?_))
    rw [show ((a : Int)).toNat = a from by omega]
    exact ⟨hP.s8.st (by decide), (cTF.st (fun i k hn => zset_ne (fun e => hn (by omega)))), rfl⟩
  all_goals
    intros
    exact no 2 (by rintro ⟨o1, o2, o3, o4⟩; omega)
end CT_24
