/-! THE REFERENCE, where it stands in the tokens; what it blames; the LAND it reads (block 4) -/
def rX (B : Nat → Int) (n m : Nat) (τ : PT) (i : Nat) (h : zH) : Prop := rS B n i h ∧ i ≤ m ∧ Tks B n m τ
def rB (e : Er) (h : zH) : Prop := h 121 12 = (0, e.1) ∧ 0 < e.1 ∧ h 121 13 = (0, e.2)
section RX
variable {B : Nat → Int} {n m i : Nat} {τ : PT} {h : zH}
theorem rX.b (g : rX B n m τ i h) : h 121 12 = (0, 0) := g.1.2.1
theorem rX.all (g : rX B n m τ i h) : ∃ (k : Int) (s e : Nat) (v : Int), TS B n i k s e ∧ VC B k s e v ∧ τ 0 i = k ∧ τ 1 i = (s : Int) ∧ τ 2 i = (e : Int) ∧ τ 3 i = v ∧ τ 4 i = wv B s (e - s) ∧ NT B k s e h := by
  obtain ⟨⟨_, _, k, s, e, h1, h2⟩, hi, hK⟩ := g
  obtain ⟨k', s', e', v, a1, a2, a3, a4, a5, a6, a7, _⟩ := hK.2.1 i hi
  obtain ⟨e1, e2, e3⟩ := a1.uniq h1
  subst e1 e2 e3
  exact ⟨_, _, _, v, h1, a2, a3, a4, a5, a6, a7, h2⟩
theorem rX.tk (g : rX B n m τ i h) : h 121 14 = (0, τ 0 i) := by
  obtain ⟨k, s, e, v, _, _, a3, _, _, _, _, a8⟩ := g.all
  rw [a3]; exact a8.1
theorem rX.ps (g : rX B n m τ i h) : h 121 15 = (0, τ 1 i) := by
  obtain ⟨k, s, e, v, _, _, _, a4, _, _, _, a8⟩ := g.all
  rw [a4]; exact a8.2.1
theorem rX.ln (g : rX B n m τ i h) (h1 : τ 0 i = 1) : h 121 18 = (0, τ 2 i - τ 1 i) := by
  obtain ⟨k, s, e, v, _, _, a3, a4, a5, _, _, a8⟩ := g.all
  rw [a4, a5]
  exact (a8.2.2.2.1 (a3.symm.trans h1)).1
theorem rX.wd (g : rX B n m τ i h) (h1 : τ 0 i = 1) : h 121 19 = (1, τ 4 i) := by
  obtain ⟨k, s, e, v, _, _, a3, _, _, _, a7, a8⟩ := g.all
  rw [a7]
  exact (a8.2.2.2.1 (a3.symm.trans h1)).2
theorem rX.n2 (g : rX B n m τ i h) (h1 : τ 0 i = 2) : h 121 17 = (0, τ 3 i) := by
  obtain ⟨k, s, e, v, _, a2, a3, _, _, a6, _, a8⟩ := g.all
  have ek := a3.symm.trans h1
  rw [a6, a2.2.1 ek]
  exact a8.2.2.2.2.1 ek
theorem rX.n3 (g : rX B n m τ i h) (h1 : τ 0 i = 3) : h 121 17 = (0, τ 3 i) := by
  obtain ⟨k, s, e, v, _, a2, a3, _, _, a6, _, a8⟩ := g.all
  have ek := a3.symm.trans h1
  rw [a6, a2.2.2 ek]
  exact a8.2.2.2.2.2 ek
theorem rX.eq {h' : zH} (f : ∀ a b, (a = 121 ∧ 9 ≤ b ∧ b ≤ 19) ∨ a = 125 → h' a b = h a b) (g : rX B n m τ i h) : rX B n m τ i h' := by
  obtain ⟨⟨⟨x1, x2, x3⟩, hb, k, s, e, h1, n1, n2, n3, n4, n5, n6⟩, hi, hK⟩ := g
  have f1 : ∀ b, 9 ≤ b → b ≤ 19 → h' 121 b = h 121 b := fun b b1 b2 => f 121 b (Or.inl ⟨rfl, b1, b2⟩)
  exact ⟨⟨⟨(f1 9 (by decide) (by decide)).trans x1, x2, fun q hq => (f 125 q (Or.inr rfl)).trans (x3 q hq)⟩, (f1 12 (by decide) (by decide)).trans hb, k, s, e, h1, (f1 14 (by decide) (by decide)).trans n1, (f1 15 (by decide) (by decide)).trans n2, (f1 16 (by decide) (by decide)).trans n3, fun c => ⟨(f1 18 (by decide) (by decide)).trans (n4 c).1, (f1 19 (by decide) (by decide)).trans (n4 c).2⟩, fun c => (f1 17 (by decide) (by decide)).trans (n5 c), fun c => (f1 17 (by decide) (by decide)).trans (n6 c)⟩, hi, hK⟩
theorem rX.z {r k : Nat} {v : zV} (hr : r ≠ 121 ∧ r ≠ 125) (g : rX B n m τ i h) : rX B n m τ i (zset h r k v) := g.eq (fun a b c => zset_ne (fun d => by omega))
theorem rX.zf {k : Nat} {v : zV} (hk : k < 9 ∨ 19 < k) (g : rX B n m τ i h) : rX B n m τ i (zset h 121 k v) := g.eq (fun a b c => zset_ne (fun d => by omega))
theorem rB.z {e : Er} {r k : Nat} {v : zV} (hr : r ≠ 121) (g : rB e h) : rB e (zset h r k v) := ⟨(zset_ne (fun c => hr c.1.symm)).trans g.1, g.2.1, (zset_ne (fun c => hr c.1.symm)).trans g.2.2⟩
theorem rB.zf {e : Er} {k : Nat} {v : zV} (hk : k < 9 ∨ 19 < k) (g : rB e h) : rB e (zset h 121 k v) := ⟨(zset_ne (fun c => by omega)).trans g.1, g.2.1, (zset_ne (fun c => by omega)).trans g.2.2⟩
theorem rB_e {f p : Int} (g : rBl f p h) : rB (f, p) h := g
theorem eF_k {f : Int} (h1 : τ 0 i = 1) : eF τ i f = (f, τ 1 i) := by
  unfold eF
  rw [fk_n (by omega)]
end RX
section RC
variable {D : zD} {T : zT} {N : Nat} {h : zH} {Q : zR → Prop} {B : Nat → Int} {n m i : Nat} {τ : PT}
theorem rx_next (hT : hTab T) (hO : vOK T) (hX : rX B n m τ i h) (h0 : τ 0 i ≠ 0) (h4 : τ 0 i ≠ 4) (k : ∀ g, qF h g → rX B n m τ (i + 1) g → Q (g, none)) : vP D T N 284 0 h [some (2, 121), none] [] Q := by
  have e := congrArg Prod.snd hX.tk
  refine vP_Q (fun r hr => ?_) (rS_next hT hO hX.1 (by rw [e]; exact h0) (by rw [e]; exact h4))
  obtain ⟨g, v⟩ := r
  obtain ⟨h1, h2, h3⟩ := hr
  have h1 : v = none := h1
  subst h1
  exact k g h3 ⟨h2, tk_n hX.2.2 hX.2.1 h0 h4, hX.2.2⟩
theorem rx_must (hT : hTab T) (hO : vOK T) (b : Int) (hX : rX B n m τ i h) (hb : b ≠ 0 → τ 0 i ≠ 0 ∧ τ 0 i ≠ 4) (k1 : ∀ g, qF h g → b ≠ 0 → rX B n m τ (i + 1) g → Q (g, none)) (k2 : ∀ g, qF h g → b = 0 → rB (eF τ i 2) g → Q (g, none)) : vP D T N 282 0 h [some (2, 121), some (0, b)] [] Q := by
  have e := congrArg Prod.snd hX.tk
  have e2 := congrArg Prod.snd hX.ps
  have e : (h 121 14).2 = τ 0 i := e
  have e2 : (h 121 15).2 = τ 1 i := e2
  refine vP_Q (fun r hr => ?_) (r_must hT hO b hX.1 (fun c => by rw [e]; exact hb c))
  obtain ⟨g, v⟩ := r
  obtain ⟨h1, h2, h3⟩ := hr
  have h1 : v = none := h1
  subst h1
  rcases h3 with ⟨c, d⟩ | ⟨c, d⟩
  · exact k1 g h2 c ⟨d, tk_n hX.2.2 hX.2.1 (hb c).1 (hb c).2, hX.2.2⟩
  · rw [e, e2] at d
    exact k2 g h2 c d
theorem rx_mustB (hT : hTab T) (hO : vOK T) (b : Int) {e : Er} (hB : rB e h) (k : Q (h, none)) : vP D T N 282 0 h [some (2, 121), some (0, b)] [] Q := vP_Q (fun r hr => by
  have hr : r = (h, none) := hr
  rw [hr]
  exact k) (r_mustB hT hO b (by rw [hB.1]; exact hB.2.1))
theorem rx_num (hT : hTab T) (hO : vOK T) (u v : Int) (hX : rX B n m τ i h) (k1 : ∀ g x, qF h g → pNum τ u v i = .inr (x, i + 1) → u ≤ x → x ≤ v → rX B n m τ (i + 1) g → Q (g, some (0, x))) (k2 : ∀ g e, qF h g → pNum τ u v i = .inl e → rB e g → Q (g, some (0, 0))) : vP D T N 300 0 h [some (2, 121), some (0, u), some (0, v), none] [] Q := by
  have e : (h 121 14).2 = τ 0 i := congrArg Prod.snd hX.tk
  have e2 : (h 121 15).2 = τ 1 i := congrArg Prod.snd hX.ps
  refine vP_Q (fun r hr => ?_) (r_num hT hO u v hX.1)
  obtain ⟨g, w⟩ := r
  obtain ⟨h2, h3⟩ := hr
  rw [e, e2] at h3
  rcases h3 with ⟨c, d1, d2, d3, d4⟩ | ⟨c, d1, d3, d4⟩ | ⟨c, d3, d4⟩
  · have e3 : (h 121 17).2 = τ 3 i := congrArg Prod.snd (hX.n2 c)
    rw [e3] at d1 d2 d3
    have d3 : w = some (0, τ 3 i) := d3
    subst d3
    exact k1 g _ h2 (pNum_y c d1 d2) d1 d2 ⟨d4, tk_n hX.2.2 hX.2.1 (by omega) (by omega), hX.2.2⟩
  · have e3 : (h 121 17).2 = τ 3 i := congrArg Prod.snd (hX.n2 c)
    rw [e3] at d1
    have d3 : w = some (0, 0) := d3
    subst d3
    exact k2 g _ h2 (pNum_o c d1) d4
  · have d3 : w = some (0, 0) := d3
    subst d3
    exact k2 g _ h2 (pNum_n c) d4
theorem rx_numB (hT : hTab T) (hO : vOK T) (u v : Int) {e : Er} (hB : rB e h) (k : Q (h, some (0, 0))) : vP D T N 300 0 h [some (2, 121), some (0, u), some (0, v), none] [] Q := vP_Q (fun r hr => by
  have hr : r = (h, some (0, 0)) := hr
  rw [hr]
  exact k) (r_numB hT hO u v (by rw [hB.1]; exact hB.2.1))
end RC
theorem mulb {w y : Int} (h1 : 0 ≤ w ∧ w ≤ 8) (h2 : 0 ≤ y ∧ y ≤ 8) : 0 ≤ w * y ∧ w * y ≤ 64 := by
  refine ⟨Int.mul_nonneg h1.1 h2.1, ?_⟩
  exact Int.le_trans (Int.mul_le_mul h1.2 h2.2 h2.1 (by decide)) (by decide)
theorem hq_mulB {w y : Int} (h1 : 0 ≤ w ∧ w ≤ 8) (h2 : 0 ≤ y ∧ y ≤ 8) : (zf32 2 (Int32.ofInt w) (Int32.ofInt y)).toInt = w * y := by
  have := mulb h1 h2
  exact hq_mul (by omega) (by omega)
theorem hq_addB {w y x : Int} (h1 : 0 ≤ w ∧ w ≤ 8) (h2 : 0 ≤ y ∧ y ≤ 8) (h3 : 0 ≤ x ∧ x ≤ 8) : (zf32 0 (Int32.ofInt (w * y)) (Int32.ofInt x)).toInt = w * y + x := by
  have := mulb h1 h2
  exact hq_add (by omega) (by omega)
theorem cellb {w r x y : Int} (h1 : 0 ≤ w ∧ w ≤ 8) (h2 : 0 ≤ r ∧ r ≤ 6) (x1 : 0 ≤ x) (x2 : x ≤ w - 1) (y1 : 0 ≤ y) (y2 : y ≤ r - 1) : 0 ≤ w * y ∧ w * y + x ≤ 47 := by
  have a : w * y ≤ 8 * y := Int.mul_le_mul_of_nonneg_right h1.2 y1
  exact ⟨Int.mul_nonneg h1.1 y1, by omega⟩
theorem cell_inj {w x y x' y' : Int} (x1 : 0 ≤ x) (x2 : x < w) (a1 : 0 ≤ x') (a2 : x' < w) (e : w * y + x = w * y' + x') : x = x' ∧ y = y' := by
  have hy : y = y' := by
    rcases Int.lt_trichotomy y y' with c | c | c
    · have := Int.mul_le_mul_of_nonneg_left (show y + 1 ≤ y' by omega) (show 0 ≤ w by omega)
      rw [Int.mul_add, Int.mul_one] at this
      omega
    · exact c
    · have := Int.mul_le_mul_of_nonneg_left (show y' + 1 ≤ y by omega) (show 0 ≤ w by omega)
      rw [Int.mul_add, Int.mul_one] at this
      omega
  subst hy
  exact ⟨by omega, rfl⟩
/-! THE REFERENCE'S LAND THAT IS BEING READ (block 4) -/
def cc (w c : Int) : Int := w * (c / 8) + c % 8
theorem cc_eq {w x y : Int} (x1 : 0 ≤ x) (x2 : x < 8) : cc w (y * 8 + x) = w * y + x := by
  unfold cc
  rw [show (y * 8 + x) / 8 = y from by omega, show (y * 8 + x) % 8 = x from by omega]
def rZ (j : Nat) : Prop := j = 4 ∨ (101 ≤ j ∧ j < 245) ∨ (269 ≤ j ∧ j < 277)
def rL (P : PT) (h : zH) : Prop := (h 126 2200 = (0, P 0 0) ∧ h 126 2201 = (0, P 0 1) ∧ h 126 2202 = (0, P 0 2) ∧ h 126 2203 = (0, P 0 3) ∧ h 121 24 = (0, P 0 9)) ∧ (∀ x y : Int, 0 ≤ x → x < P 0 0 → 0 ≤ y → y < 6 → h 126 (2205 + (P 0 0 * y + x)).toNat = (0, P 1 (pCl x y)) ∧ h 126 (2253 + (P 0 0 * y + x)).toNat = (0, P 2 (pCl x y))) ∧ (∀ k : Nat, (k : Int) < P 0 3 → h 128 (24 + k) = (1, P 4 k) ∧ h 126 (2457 + k) = (0, cc (P 0 0) (P 5 k)) ∧ h 126 (2445 + k) = (0, cc (P 0 0) (P 6 k)) ∧ h 126 (2451 + k) = (0, cc (P 0 0) (P 7 k)) ∧ h 126 (2463 + k) = (0, P 8 k)) ∧ (∀ j, rZ j → h 126 (2200 + j) = (0, 0))
section RL
variable {P : PT} {h h' : zH}
theorem rL.w (g : rL P h) : h 126 2200 = (0, P 0 0) := g.1.1
theorem rL.ro (g : rL P h) : h 126 2201 = (0, P 0 1) := g.1.2.1
theorem rL.c (g : rL P h) : h 126 2202 = (0, P 0 2) := g.1.2.2.1
theorem rL.m (g : rL P h) : h 126 2203 = (0, P 0 3) := g.1.2.2.2.1
theorem rL.d (g : rL P h) : h 121 24 = (0, P 0 9) := g.1.2.2.2.2
theorem rL.eq (f : ∀ a b, a = 126 ∨ a = 128 ∨ (a = 121 ∧ b = 24) → h' a b = h a b) (g : rL P h) : rL P h' := by
  obtain ⟨⟨a0, a1, a2, a3, a4⟩, b1, b2, b3⟩ := g
  have f6 : ∀ b, h' 126 b = h 126 b := fun b => f 126 b (Or.inl rfl)
  have f8 : ∀ b, h' 128 b = h 128 b := fun b => f 128 b (Or.inr (Or.inl rfl))
  refine ⟨⟨(f6 _).trans a0, (f6 _).trans a1, (f6 _).trans a2, (f6 _).trans a3, (f 121 24 (Or.inr (Or.inr ⟨rfl, rfl⟩))).trans a4⟩, fun x y x1 x2 y1 y2 => ?_, fun k hk => ?_, fun j hj => (f6 _).trans (b3 j hj)⟩
  · rw [f6, f6]; exact b1 x y x1 x2 y1 y2
  · rw [f6, f6, f6, f6, f8]; exact b2 k hk
theorem rL.qf (g : rL P h) (f : qF h h') : rL P h' := g.eq (fun a b c => f a b (fun d => by omega))
/-- so many places the rises of a LAND take -/
theorem cell47 {w x y : Int} (w8 : w ≤ 8) (x1 : 0 ≤ x) (x2 : x < w) (y1 : 0 ≤ y) (y2 : y < 6) : 0 ≤ w * y ∧ w * y + x ≤ 47 := cellb (r := 6) ⟨by omega, w8⟩ ⟨by decide, by decide⟩ x1 (by omega) y1 (by omega)
theorem rL.rise {x y v : Int} (w8 : P 0 0 ≤ 8) (x1 : 0 ≤ x) (x2 : x < P 0 0) (y1 : 0 ≤ y) (y2 : y < 6) (g : rL P h) : rL (pset P 2 (pCl x y) v) (zset h 126 (2253 + (P 0 0 * y + x)).toNat (0, v)) := by
  obtain ⟨⟨a0, a1, a2, a3, a4⟩, b1, b2, b3⟩ := g
  have cb := cell47 w8 x1 x2 y1 y2
  have p0 : ∀ a k, a ≠ 2 → pset P 2 (pCl x y) v a k = P a k := fun a k ha => pset_ne (fun c => ha c.1)
  have z : ∀ b, (b < 2253 ∨ 2300 < b) → zset h 126 (2253 + (P 0 0 * y + x)).toNat (0, v) 126 b = h 126 b := fun b hb => zset_ne (fun c => by omega)
  have z8 : ∀ a b, a ≠ 126 → zset h 126 (2253 + (P 0 0 * y + x)).toNat (0, v) a b = h a b := fun a b ha => zset_ne (fun c => ha c.1)
  refine ⟨⟨(z _ (by decide)).trans a0, (z _ (by decide)).trans a1, (z _ (by decide)).trans a2, (z _ (by decide)).trans a3, (z8 _ _ (by decide)).trans a4⟩, fun x' y' x1' x2' y1' y2' => ?_, fun k hk => ?_, fun j hj => ?_⟩
  · have x2' : x' < P 0 0 := x2'
    have cb' := cell47 w8 x1' x2' y1' y2'
    obtain ⟨c1, c2⟩ := b1 x' y' x1' x2' y1' y2'
    refine ⟨?_, ?_⟩
    · show zset h 126 _ (0, v) 126 (2205 + (P 0 0 * y' + x')).toNat = (0, pset P 2 (pCl x y) v 1 (pCl x' y'))
      rw [z _ (by omega), p0 _ _ (by decide)]
      exact c1
    · show zset h 126 _ (0, v) 126 (2253 + (P 0 0 * y' + x')).toNat = (0, pset P 2 (pCl x y) v 2 (pCl x' y'))
      by_cases e : P 0 0 * y + x = P 0 0 * y' + x'
      · obtain ⟨e1, e2⟩ := cell_inj x1 x2 x1' x2' e
        rw [← e, ← e1, ← e2, zset_same, pset_same]
      · rw [zset_ne (fun c => e (by omega)), pset_ne (fun c => ?_)]
        · exact c2
        · have c3 := c.2
          unfold pCl at c3
          have e1 : y = y' := by omega
          have e2 : x = x' := by omega
          exact e (by rw [e1, e2])
  · have hk : (k : Int) < P 0 3 := hk
    obtain ⟨c1, c2, c3, c4, c5⟩ := b2 k hk
    refine ⟨(z8 _ _ (by decide)).trans ?_, (z _ (by omega)).trans ?_, (z _ (by omega)).trans ?_, (z _ (by omega)).trans ?_, (z _ (by omega)).trans ?_⟩
    · rw [p0 _ _ (by decide)]; exact c1
    · rw [p0 _ _ (by decide), p0 _ _ (by decide)]; exact c2
    · rw [p0 _ _ (by decide), p0 _ _ (by decide)]; exact c3
    · rw [p0 _ _ (by decide), p0 _ _ (by decide)]; exact c4
    · rw [p0 _ _ (by decide)]; exact c5
  · unfold rZ at hj
    rw [z _ (by omega)]
    exact b3 j hj
theorem rL.d9 {v : Int} (g : rL P h) : rL (pset P 0 9 v) (zset h 121 24 (0, v)) := by
  obtain ⟨⟨a0, a1, a2, a3, a4⟩, b1, b2, b3⟩ := g
  have z : ∀ a b, a ≠ 121 → zset h 121 24 (0, v) a b = h a b := fun a b ha => zset_ne (fun c => ha c.1)
  have q : ∀ a k, ¬ (a = 0 ∧ k = 9) → pset P 0 9 v a k = P a k := fun a k hk => pset_ne hk
  refine ⟨⟨?_, ?_, ?_, ?_, ?_⟩, fun x y x1 x2 y1 y2 => ?_, fun k hk => ?_, fun j hj => ?_⟩
  · rw [z _ _ (by decide), q _ _ (by decide)]; exact a0
  · rw [z _ _ (by decide), q _ _ (by decide)]; exact a1
  · rw [z _ _ (by decide), q _ _ (by decide)]; exact a2
  · rw [z _ _ (by decide), q _ _ (by decide)]; exact a3
  · rw [zset_same, pset_same]
  · rw [q 0 0 (by decide)] at x2 ⊢
    rw [z _ _ (by decide), z _ _ (by decide), q _ _ (by omega), q _ _ (by omega)]
    exact b1 x y x1 x2 y1 y2
  · rw [q 0 3 (by decide)] at hk
    rw [z _ _ (by decide), z _ _ (by decide), z _ _ (by decide), z _ _ (by decide), z _ _ (by decide), q 0 0 (by decide), q _ _ (by omega), q _ _ (by omega), q _ _ (by omega), q _ _ (by omega), q _ _ (by omega)]
    exact b2 k hk
  · rw [z _ _ (by decide)]; exact b3 j hj
theorem rL.f {k : Nat} {v : Int} (hk : k = 1 ∨ k = 2) (g : rL P h) : rL (pset P 0 k v) (zset h 126 (2200 + k) (0, v)) := by
  obtain ⟨⟨a0, a1, a2, a3, a4⟩, b1, b2, b3⟩ := g
  have z : ∀ a b, ¬ (a = 126 ∧ b = 2200 + k) → zset h 126 (2200 + k) (0, v) a b = h a b := fun a b ha => zset_ne ha
  have q : ∀ a j, ¬ (a = 0 ∧ j = k) → pset P 0 k v a j = P a j := fun a j hj => pset_ne hj
  refine ⟨⟨?_, ?_, ?_, ?_, ?_⟩, fun x y x1 x2 y1 y2 => ?_, fun j hj => ?_, fun j hj => ?_⟩
  · rw [z _ _ (by omega), q _ _ (by omega)]; exact a0
  · by_cases e : k = 1
    · subst e; rw [pset_same]; exact zset_same
    · rw [z _ _ (by omega), q _ _ (by omega)]; exact a1
  · by_cases e : k = 2
    · subst e; rw [pset_same]; exact zset_same
    · rw [z _ _ (by omega), q _ _ (by omega)]; exact a2
  · rw [z _ _ (by omega), q _ _ (by omega)]; exact a3
  · rw [z _ _ (by omega), q _ _ (by omega)]; exact a4
  · rw [q 0 0 (by omega)] at x2 ⊢
    have h0 := Int.mul_nonneg (show 0 ≤ P 0 0 by omega) y1
    rw [z _ _ (by omega), z _ _ (by omega), q _ _ (by omega), q _ _ (by omega)]
    exact b1 x y x1 x2 y1 y2
  · rw [q 0 3 (by omega)] at hj
    rw [z _ _ (by omega), z _ _ (by omega), z _ _ (by omega), z _ _ (by omega), z _ _ (by omega), q 0 0 (by omega), q _ _ (by omega), q _ _ (by omega), q _ _ (by omega), q _ _ (by omega), q _ _ (by omega)]
    exact b2 j hj
  · unfold rZ at hj
    rw [z _ _ (by omega)]; exact b3 j hj
theorem pset_29 {v : Int} : pset (pset P 0 9 1) 0 2 v = pset (pset P 0 2 v) 0 9 1 := by
  funext a b
  unfold pset
  by_cases c : a = 0 ∧ b = 2
  · rw [if_pos c, if_neg (fun d => by omega), if_pos c]
  · rw [if_neg c]
    by_cases d : a = 0 ∧ b = 9
    · rw [if_pos d, if_pos d]
    · rw [if_neg d, if_neg d, if_neg c]
theorem rL.c29 {v : Int} (g : rL (pset P 0 9 1) h) : rL (pset (pset P 0 2 v) 0 9 1) (zset h 126 2202 (0, v)) := by
  rw [← pset_29]
  exact g.f (k := 2) (Or.inr rfl)
def rW (nm : Int) (P : PT) (h : zH) : Prop := rL P h ∧ h 128 (24 + P 0 3).toNat = (1, nm)
theorem rW.qf {nm : Int} (g : rW nm P h) (f : qF h h') : rW nm P h' := ⟨g.1.qf f, (f 128 _ (fun c => by omega)).trans g.2⟩
theorem rL.wr {nm : Int} (m0 : 0 ≤ P 0 3) (g : rL P h) : rW nm P (zset h 128 (24 + P 0 3).toNat (1, nm)) := by
  refine ⟨?_, zset_same⟩
  obtain ⟨⟨a0, a1, a2, a3, a4⟩, b1, b2, b3⟩ := g
  have z : ∀ a b, a ≠ 128 → zset h 128 (24 + P 0 3).toNat (1, nm) a b = h a b := fun a b ha => zset_ne (fun c => ha c.1)
  refine ⟨⟨(z _ _ (by decide)).trans a0, (z _ _ (by decide)).trans a1, (z _ _ (by decide)).trans a2, (z _ _ (by decide)).trans a3, (z _ _ (by decide)).trans a4⟩, fun x y x1 x2 y1 y2 => ?_, fun k hk => ?_, fun j hj => (z _ _ (by decide)).trans (b3 j hj)⟩
  · rw [z _ _ (by decide), z _ _ (by decide)]; exact b1 x y x1 x2 y1 y2
  · rw [zset_ne (fun c => by omega), z _ _ (by decide), z _ _ (by decide), z _ _ (by decide), z _ _ (by decide)]; exact b2 k hk
theorem rW.add {nm x y x' y' b : Int} (m0 : 0 ≤ P 0 3 ∧ P 0 3 < 6) (w8 : P 0 0 ≤ 8) (x1 : 0 ≤ x) (x2 : x < P 0 0) (x1' : 0 ≤ x') (x2' : x' < P 0 0) (g : rW nm P h) : rL (pAdd P nm (y * 8 + x) (y' * 8 + x') b) (zset (zset (zset (zset (zset h 126 (2445 + P 0 3).toNat (0, P 0 0 * y + x)) 126 (2457 + P 0 3).toNat (0, P 0 0 * y + x)) 126 (2451 + P 0 3).toNat (0, P 0 0 * y' + x')) 126 (2463 + P 0 3).toNat (0, b)) 126 2203 (0, P 0 3 + 1)) := by
  obtain ⟨⟨⟨a0, a1, a2, a3, a4⟩, b1, b2, b3⟩, hw⟩ := g
  have z8 : ∀ a b', a ≠ 126 → zset (zset (zset (zset (zset h 126 (2445 + P 0 3).toNat (0, P 0 0 * y + x)) 126 (2457 + P 0 3).toNat (0, P 0 0 * y + x)) 126 (2451 + P 0 3).toNat (0, P 0 0 * y' + x')) 126 (2463 + P 0 3).toNat (0, b)) 126 2203 (0, P 0 3 + 1) a b' = h a b' := fun a b' ha => by
    rw [zset_ne (fun c => ha c.1), zset_ne (fun c => ha c.1), zset_ne (fun c => ha c.1), zset_ne (fun c => ha c.1), zset_ne (fun c => ha c.1)]
  have z : ∀ b', (b' < 2445 ∨ 2468 < b') → b' ≠ 2203 → zset (zset (zset (zset (zset h 126 (2445 + P 0 3).toNat (0, P 0 0 * y + x)) 126 (2457 + P 0 3).toNat (0, P 0 0 * y + x)) 126 (2451 + P 0 3).toNat (0, P 0 0 * y' + x')) 126 (2463 + P 0 3).toNat (0, b)) 126 2203 (0, P 0 3 + 1) 126 b' = h 126 b' := fun b' h1 h2 => by
    rw [zset_ne (fun c => h2 c.2), zset_ne (fun c => by omega), zset_ne (fun c => by omega), zset_ne (fun c => by omega), zset_ne (fun c => by omega)]
  refine ⟨⟨?_, ?_, ?_, ?_, ?_⟩, fun xx yy xx1 xx2 yy1 yy2 => ?_, fun k hk => ?_, fun j hj => ?_⟩
  · rw [z _ (by decide) (by decide), pAdd_0 (by decide) (by decide)]; exact a0
  · rw [z _ (by decide) (by decide), pAdd_0 (by decide) (by decide)]; exact a1
  · rw [z _ (by decide) (by decide), pAdd_0 (by decide) (by decide)]; exact a2
  · rw [zset_same, pAdd_3]
  · rw [z8 _ _ (by decide), pAdd_0 (by decide) (by decide)]; exact a4
  · rw [pAdd_0 (by decide) (by decide)] at xx2 ⊢
    have cb := cell47 w8 xx1 xx2 yy1 yy2
    rw [z _ (by omega) (by omega), z _ (by omega) (by omega), pAdd_0 (by decide) (by omega), pAdd_0 (by decide) (by omega)]
    exact b1 xx yy xx1 xx2 yy1 yy2
  · rw [pAdd_3] at hk
    rw [pAdd_0 (by decide) (by decide)]
    by_cases e : k = (P 0 3).toNat
    · obtain ⟨k4, k5, k6, k7, k8, k9⟩ := pAdd_k (P := P) (nm := nm) (hm := y * 8 + x) (gl := y' * 8 + x') (b := b)
      subst e
      rw [k4, k5, k6, k7, k8, cc_eq x1 (by omega), cc_eq x1' (by omega)]
      refine ⟨?_, ?_, ?_, ?_, ?_⟩
      · rw [z8 _ _ (by decide), show 24 + (P 0 3).toNat = (24 + P 0 3).toNat from by omega]; exact hw
      · rw [zset_ne (fun c => by omega), zset_ne (fun c => by omega), zset_ne (fun c => by omega), show 2457 + (P 0 3).toNat = (2457 + P 0 3).toNat from by omega, zset_same]
      · rw [zset_ne (fun c => by omega), zset_ne (fun c => by omega), zset_ne (fun c => by omega), zset_ne (fun c => by omega), show 2445 + (P 0 3).toNat = (2445 + P 0 3).toNat from by omega, zset_same]
      · rw [zset_ne (fun c => by omega), zset_ne (fun c => by omega), show 2451 + (P 0 3).toNat = (2451 + P 0 3).toNat from by omega, zset_same]
      · rw [zset_ne (fun c => by omega), show 2463 + (P 0 3).toNat = (2463 + P 0 3).toNat from by omega, zset_same]
    · rw [pAdd_n e (by decide), pAdd_n e (by decide), pAdd_n e (by decide), pAdd_n e (by decide), pAdd_n e (by decide), z8 _ _ (by decide)]
      obtain ⟨c1, c2, c3, c4, c5⟩ := b2 k (by omega)
      refine ⟨c1, ?_, ?_, ?_, ?_⟩
      · rw [zset_ne (fun c => by omega), zset_ne (fun c => by omega), zset_ne (fun c => by omega), zset_ne (fun c => by omega), zset_ne (fun c => by omega)]; exact c2
      · rw [zset_ne (fun c => by omega), zset_ne (fun c => by omega), zset_ne (fun c => by omega), zset_ne (fun c => by omega), zset_ne (fun c => by omega)]; exact c3
      · rw [zset_ne (fun c => by omega), zset_ne (fun c => by omega), zset_ne (fun c => by omega), zset_ne (fun c => by omega), zset_ne (fun c => by omega)]; exact c4
      · rw [zset_ne (fun c => by omega), zset_ne (fun c => by omega), zset_ne (fun c => by omega), zset_ne (fun c => by omega), zset_ne (fun c => by omega)]; exact c5
  · unfold rZ at hj
    rw [z _ (by omega) (by omega)]; exact b3 j hj
end RL
def rF (h0 h : zH) : Prop := ∀ a b, ¬ ((a = 121 ∧ ((12 ≤ b ∧ b ≤ 19) ∨ b = 24)) ∨ (a = 126 ∧ 2200 ≤ b) ∨ (a = 128 ∧ 24 ≤ b)) → h a b = h0 a b
theorem rF.rfl {h : zH} : rF h h := fun _ _ _ => Eq.refl _
theorem rF.t {h0 h h' : zH} (g : rF h0 h) (f : qF h h') : rF h0 h' := fun a b hn => (f a b (fun c => hn (by omega))).trans (g a b hn)
theorem rF.z {a b : Nat} {v : zV} {h0 h : zH} (ha : (a = 121 ∧ b = 24) ∨ (a = 126 ∧ 2200 ≤ b) ∨ (a = 128 ∧ 24 ≤ b)) (g : rF h0 h) : rF h0 (zset h a b v) := fun x y hn => (zset_ne (fun c => hn (by omega))).trans (g x y hn)
theorem rF.trans {h0 h h' : zH} (g : rF h0 h) (f : rF h h') : rF h0 h' := fun a b hn => (f a b hn).trans (g a b hn)
def rRd (B : Nat → Int) (n m : Nat) (τ : PT) (F : Er ⊕ (PT × Nat)) (h0 : zH) (x : zR) : Prop := x.2 = none ∧ ((∃ e, F = .inl e ∧ rB e x.1 ∧ rF h0 x.1) ∨ (∃ P j, F = .inr (P, j) ∧ rX B n m τ j x.1 ∧ rL P x.1 ∧ rF h0 x.1 ∧ lB P))
section RR
variable {B : Nat → Int} {n m : Nat} {τ : PT} {F : Er ⊕ (PT × Nat)} {h0 g : zH}
theorem rRd_n {e : Er} (hF : F = .inl e) (hc : rB e g) (hf : rF h0 g) : rRd B n m τ F h0 (g, none) := ⟨rfl, Or.inl ⟨e, hF, hc, hf⟩⟩
theorem rRd_y {P : PT} {j : Nat} (hF : F = .inr (P, j)) (hX : rX B n m τ j g) (hL : rL P g) (hf : rF h0 g) (hb : lB P) : rRd B n m τ F h0 (g, none) := ⟨rfl, Or.inr ⟨P, j, hF, hX, hL, hf, hb⟩⟩
theorem rRd_k {D : zD} {T : zT} {N mi pc : Nat} {l : List (Option zV)} {S : List zV} {Q : zR → Prop} (H : vP D T N mi pc g l S (rRd B n m τ F g)) (k1 : ∀ g' P j, rF g g' → F = .inr (P, j) → rX B n m τ j g' → rL P g' → lB P → Q (g', none)) (k2 : ∀ g' e, rF g g' → F = .inl e → rB e g' → Q (g', none)) : vP D T N mi pc g l S Q := vP_Q (fun x hx => by
  obtain ⟨g', v⟩ := x
  obtain ⟨h0, h1⟩ := hx
  have h0 : v = none := h0
  subst h0
  rcases h1 with ⟨e, h1, h3, h4⟩ | ⟨P, j, h1, h3, h4, h5, h6⟩
  · exact k2 g' e h4 h1 h3
  · exact k1 g' P j h5 h1 h3 h4 h6) H
end RR
