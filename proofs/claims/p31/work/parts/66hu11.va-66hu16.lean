section
/-! WHAT BITES AND THE REST MAKE OF A LAND, PURE -/
def wA (x y : Int) : Int := (zf32 0 (Int32.ofInt x) (Int32.ofInt y)).toInt
def pSt (P : PT) (j q : Nat) (v : Int) : PT := pset P 3 (48 * j + q) v
def pBite (P : PT) (j q : Nat) : PT := pset (pSt P j q 1) 0 4 (wA (P 0 4) (gCr P q))
def pSteam (P : PT) (j t : Nat) : PT := fun a b => if a = 3 ∧ 48 * t ≤ b ∧ b < 48 * t + 48 then P 3 (48 * j + (b - 48 * t)) else P a b
def pHome (P : PT) : PT := fun a b => if a = 6 then P 5 b else P a b
def cFr (c : Nat) (h g : zH) : Prop := ∀ a b, ¬ (c ≤ a ∧ a ≤ c + 9) → g a b = h a b
def bFr (h g : zH) : Prop := ∀ a b, ¬ (a = 126 ∧ b < 275) → g a b = h a b
theorem cFr.z {c a b : Nat} {v : zV} {h g : zH} (ha : c ≤ a ∧ a ≤ c + 9) (f : cFr c h g) : cFr c h (zset g a b v) := fun x y hn => (zset_ne (fun e => hn (by omega))).trans (f x y hn)
theorem cFr.trans {c : Nat} {h g g2 : zH} (f : cFr c h g) (f2 : cFr c g g2) : cFr c h g2 := fun x y hn => (f2 x y hn).trans (f x y hn)
theorem bFr.z {b : Nat} {v : zV} {h g : zH} (hb : b < 275) (f : bFr h g) : bFr h (zset g 126 b v) := fun x y hn => (zset_ne (fun e => hn ⟨e.1, by omega⟩)).trans (f x y hn)
theorem bFr.trans {h g g2 : zH} (f : bFr h g) (f2 : bFr g g2) : bFr h g2 := fun x y hn => (f2 x y hn).trans (f x y hn)
section CP8
variable {r : Nat} {P : PT} {h : zH}
theorem cP.s3 (g : cP r P h) {i : Nat} {v : Int} : cP r (pset P 3 i v) (zset h (r + 3) i (0, v)) := by
  obtain ⟨⟨a0, a1, a2, a3, a4⟩, b1, b2, b3, b4⟩ := g
  refine ⟨⟨(zset_ne (by omega)).trans a0, (zset_ne (by omega)).trans a1, (zset_ne (by omega)).trans a2, (zset_ne (by omega)).trans a3, (zset_ne (by omega)).trans a4⟩, fun k hk => (zset_ne (by omega)).trans (b1 k hk), fun k hk => (zset_ne (by omega)).trans (b2 k hk), fun k hk => ?_, fun k hk => ?_⟩
  · show zset h (r + 3) i (0, v) (r + 3) k = (0, if 3 = 3 ∧ k = i then v else P 3 k)
    by_cases c : k = i
    · rw [c, if_pos ⟨rfl, rfl⟩]; exact zset_same
    · rw [if_neg (fun e => c e.2)]; exact (zset_ne (fun e => c e.2)).trans (b3 k hk)
  · obtain ⟨c4, c5, c6, c7, c8, c9⟩ := b4 k hk
    exact ⟨(zset_ne (by omega)).trans c4, (zset_ne (by omega)).trans c5, (zset_ne (by omega)).trans c6, (zset_ne (by omega)).trans c7, (zset_ne (by omega)).trans c8, (zset_ne (by omega)).trans c9⟩
theorem cP.s04 (g : cP r P h) {v : Int} : cP r (pset P 0 4 v) (zset h r 4 (0, v)) := by
  obtain ⟨⟨a0, a1, a2, a3, a4⟩, b1, b2, b3, b4⟩ := g
  refine ⟨⟨(zset_ne (by omega)).trans a0, (zset_ne (by omega)).trans a1, (zset_ne (by omega)).trans a2, (zset_ne (by omega)).trans a3, zset_same⟩, fun k hk => (zset_ne (by omega)).trans (b1 k hk), fun k hk => (zset_ne (by omega)).trans (b2 k hk), fun k hk => (zset_ne (by omega)).trans (b3 k hk), fun k hk => ?_⟩
  obtain ⟨c4, c5, c6, c7, c8, c9⟩ := b4 k hk
  exact ⟨(zset_ne (by omega)).trans c4, (zset_ne (by omega)).trans c5, (zset_ne (by omega)).trans c6, (zset_ne (by omega)).trans c7, (zset_ne (by omega)).trans c8, (zset_ne (by omega)).trans c9⟩
theorem cP.s6 (g : cP r P h) {i : Nat} {v : Int} : cP r (pset P 6 i v) (zset h (r + 6) i (0, v)) := by
  obtain ⟨⟨a0, a1, a2, a3, a4⟩, b1, b2, b3, b4⟩ := g
  refine ⟨⟨(zset_ne (by omega)).trans a0, (zset_ne (by omega)).trans a1, (zset_ne (by omega)).trans a2, (zset_ne (by omega)).trans a3, (zset_ne (by omega)).trans a4⟩, fun k hk => (zset_ne (by omega)).trans (b1 k hk), fun k hk => (zset_ne (by omega)).trans (b2 k hk), fun k hk => (zset_ne (by omega)).trans (b3 k hk), fun k hk => ?_⟩
  obtain ⟨c4, c5, c6, c7, c8, c9⟩ := b4 k hk
  refine ⟨(zset_ne (by omega)).trans c4, (zset_ne (by omega)).trans c5, ?_, (zset_ne (by omega)).trans c7, (zset_ne (by omega)).trans c8, (zset_ne (by omega)).trans c9⟩
  show zset h (r + 6) i (0, v) (r + 6) k = (0, if 6 = 6 ∧ k = i then v else P 6 k)
  by_cases c : k = i
  · rw [c, if_pos ⟨rfl, rfl⟩]; exact zset_same
  · rw [if_neg (fun e => c e.2)]; exact (zset_ne (fun e => c e.2)).trans c6
theorem cP.s8 (g : cP r P h) {i : Nat} {v : Int} : cP r (pset P 8 i v) (zset h (r + 8) i (0, v)) := by
  obtain ⟨⟨a0, a1, a2, a3, a4⟩, b1, b2, b3, b4⟩ := g
  refine ⟨⟨(zset_ne (by omega)).trans a0, (zset_ne (by omega)).trans a1, (zset_ne (by omega)).trans a2, (zset_ne (by omega)).trans a3, (zset_ne (by omega)).trans a4⟩, fun k hk => (zset_ne (by omega)).trans (b1 k hk), fun k hk => (zset_ne (by omega)).trans (b2 k hk), fun k hk => (zset_ne (by omega)).trans (b3 k hk), fun k hk => ?_⟩
  obtain ⟨c4, c5, c6, c7, c8, c9⟩ := b4 k hk
  refine ⟨(zset_ne (by omega)).trans c4, (zset_ne (by omega)).trans c5, (zset_ne (by omega)).trans c6, (zset_ne (by omega)).trans c7, ?_, (zset_ne (by omega)).trans c9⟩
  show zset h (r + 8) i (0, v) (r + 8) k = (0, if 8 = 8 ∧ k = i then v else P 8 k)
  by_cases c : k = i
  · rw [c, if_pos ⟨rfl, rfl⟩]; exact zset_same
  · rw [if_neg (fun e => c e.2)]; exact (zset_ne (fun e => c e.2)).trans c8
theorem cP.s9 (g : cP r P h) {i : Nat} {v : Int} : cP r (pset P 9 i v) (zset h (r + 9) i (0, v)) := by
  obtain ⟨⟨a0, a1, a2, a3, a4⟩, b1, b2, b3, b4⟩ := g
  refine ⟨⟨(zset_ne (by omega)).trans a0, (zset_ne (by omega)).trans a1, (zset_ne (by omega)).trans a2, (zset_ne (by omega)).trans a3, (zset_ne (by omega)).trans a4⟩, fun k hk => (zset_ne (by omega)).trans (b1 k hk), fun k hk => (zset_ne (by omega)).trans (b2 k hk), fun k hk => (zset_ne (by omega)).trans (b3 k hk), fun k hk => ?_⟩
  obtain ⟨c4, c5, c6, c7, c8, c9⟩ := b4 k hk
  refine ⟨(zset_ne (by omega)).trans c4, (zset_ne (by omega)).trans c5, (zset_ne (by omega)).trans c6, (zset_ne (by omega)).trans c7, (zset_ne (by omega)).trans c8, ?_⟩
  show zset h (r + 9) i (0, v) (r + 9) k = (0, if 9 = 9 ∧ k = i then v else P 9 k)
  by_cases c : k = i
  · rw [c, if_pos ⟨rfl, rfl⟩]; exact zset_same
  · rw [if_neg (fun e => c e.2)]; exact (zset_ne (fun e => c e.2)).trans c9
theorem cP.steam (g : cP r P h) {j t : Nat} (hj : j < 3) (ht : t < 3) : cP r (pSteam P j t) (zcopy h (r + 3) (48 * j) (r + 3) (48 * t) 48) := by
  obtain ⟨⟨a0, a1, a2, a3, a4⟩, b1, b2, b3, b4⟩ := g
  have n : ∀ a k, a ≠ r + 3 → zcopy h (r + 3) (48 * j) (r + 3) (48 * t) 48 a k = h a k := fun a k ha => vcopy_ne (fun c => ha c.1)
  refine ⟨⟨(n _ _ (by omega)).trans a0, (n _ _ (by omega)).trans a1, (n _ _ (by omega)).trans a2, (n _ _ (by omega)).trans a3, (n _ _ (by omega)).trans a4⟩, fun k hk => (n _ _ (by omega)).trans (b1 k hk), fun k hk => (n _ _ (by omega)).trans (b2 k hk), fun k hk => ?_, fun k hk => ?_⟩
  · show (if r + 3 = r + 3 ∧ 48 * t ≤ k ∧ k < 48 * t + 48 then h (r + 3) (48 * j + (k - 48 * t)) else h (r + 3) k) = (0, if 3 = 3 ∧ 48 * t ≤ k ∧ k < 48 * t + 48 then P 3 (48 * j + (k - 48 * t)) else P 3 k)
    by_cases c : 48 * t ≤ k ∧ k < 48 * t + 48
    · rw [if_pos ⟨rfl, c⟩, if_pos ⟨rfl, c⟩]; exact b3 _ (by omega)
    · rw [if_neg (fun e => c e.2), if_neg (fun e => c e.2)]; exact b3 k hk
  · obtain ⟨c4, c5, c6, c7, c8, c9⟩ := b4 k hk
    exact ⟨(n _ _ (by omega)).trans c4, (n _ _ (by omega)).trans c5, (n _ _ (by omega)).trans c6, (n _ _ (by omega)).trans c7, (n _ _ (by omega)).trans c8, (n _ _ (by omega)).trans c9⟩
theorem cP.home (g : cP r P h) (l6 : P 0 3 ≤ 6) : cP r (pHome P) (zcopy h (r + 5) 0 (r + 6) 0 6) := by
  obtain ⟨⟨a0, a1, a2, a3, a4⟩, b1, b2, b3, b4⟩ := g
  have n : ∀ a k, a ≠ r + 6 → zcopy h (r + 5) 0 (r + 6) 0 6 a k = h a k := fun a k ha => vcopy_ne (fun c => ha c.1)
  refine ⟨⟨(n _ _ (by omega)).trans a0, (n _ _ (by omega)).trans a1, (n _ _ (by omega)).trans a2, (n _ _ (by omega)).trans a3, (n _ _ (by omega)).trans a4⟩, fun k hk => (n _ _ (by omega)).trans (b1 k hk), fun k hk => (n _ _ (by omega)).trans (b2 k hk), fun k hk => (n _ _ (by omega)).trans (b3 k hk), fun k hk => ?_⟩
  have hk : (k : Int) < P 0 3 := hk
  obtain ⟨c4, c5, c6, c7, c8, c9⟩ := b4 k hk
  refine ⟨(n _ _ (by omega)).trans c4, (n _ _ (by omega)).trans c5, ?_, (n _ _ (by omega)).trans c7, (n _ _ (by omega)).trans c8, (n _ _ (by omega)).trans c9⟩
  show (if r + 6 = r + 6 ∧ 0 ≤ k ∧ k < 0 + 6 then h (r + 5) (0 + (k - 0)) else h (r + 6) k) = (0, P 5 k)
  rw [if_pos ⟨rfl, by omega, by omega⟩, show 0 + (k - 0) = k by omega]
  exact c5
end CP8
section FB8
variable {P : PT}
theorem fB.s3 (hb : fB P) {i : Nat} {v : Int} (hv : 0 ≤ v ∧ v ≤ 3) : fB (pset P 3 i v) := by
  refine ⟨hb.1, hb.2.1, fun k hk => ?_, hb.2.2.2⟩
  show 0 ≤ (if 3 = 3 ∧ k = i then v else P 3 k) ∧ (if 3 = 3 ∧ k = i then v else P 3 k) ≤ 3
  by_cases c : k = i
  · rw [if_pos ⟨rfl, c⟩]; exact hv
  · rw [if_neg (fun e => c e.2)]; exact hb.2.2.1 k hk
theorem fB.s04 (hb : fB P) {v : Int} : fB (pset P 0 4 v) := hb
theorem fB.s6 (hb : fB P) {i : Nat} {q : Nat} (gq : gIn P q) : fB (pset P 6 i (q : Int)) := by
  refine ⟨hb.1, hb.2.1, hb.2.2.1, fun k hk => ?_⟩
  obtain ⟨a, b, c, d⟩ := hb.2.2.2 k hk
  refine ⟨a, ?_, c, d⟩
  show 0 ≤ (if 6 = 6 ∧ k = i then (q : Int) else P 6 k) ∧ gIn P (if 6 = 6 ∧ k = i then (q : Int) else P 6 k).toNat
  by_cases e : k = i
  · rw [if_pos ⟨rfl, e⟩]; exact ⟨by omega, by rw [Int.toNat_natCast]; exact gq⟩
  · rw [if_neg (fun f => e f.2)]; exact b
theorem fB.s8 (hb : fB P) {i : Nat} {v : Int} (hv : 0 ≤ v ∧ v < P 0 2) : fB (pset P 8 i v) := by
  refine ⟨hb.1, hb.2.1, hb.2.2.1, fun k hk => ?_⟩
  obtain ⟨a, b, c, d⟩ := hb.2.2.2 k hk
  refine ⟨a, b, c, ?_⟩
  show 0 ≤ (if 8 = 8 ∧ k = i then v else P 8 k) ∧ (if 8 = 8 ∧ k = i then v else P 8 k) < P 0 2
  by_cases e : k = i
  · rw [if_pos ⟨rfl, e⟩]; exact hv
  · rw [if_neg (fun f => e f.2)]; exact d
theorem fB.s9 (hb : fB P) {i : Nat} {v : Int} : fB (pset P 9 i v) := hb
theorem fB.steam (hb : fB P) {j t : Nat} (hj : j < 3) : fB (pSteam P j t) := by
  refine ⟨hb.1, hb.2.1, fun k hk => ?_, hb.2.2.2⟩
  show 0 ≤ (if 3 = 3 ∧ 48 * t ≤ k ∧ k < 48 * t + 48 then P 3 (48 * j + (k - 48 * t)) else P 3 k) ∧ (if 3 = 3 ∧ 48 * t ≤ k ∧ k < 48 * t + 48 then P 3 (48 * j + (k - 48 * t)) else P 3 k) ≤ 3
  by_cases c : 48 * t ≤ k ∧ k < 48 * t + 48
  · rw [if_pos ⟨rfl, c⟩]; exact hb.2.2.1 _ (by omega)
  · rw [if_neg (fun e => c e.2)]; exact hb.2.2.1 k hk
theorem fB.home (hb : fB P) : fB (pHome P) := by
  refine ⟨hb.1, hb.2.1, hb.2.2.1, fun k hk => ?_⟩
  obtain ⟨a, b, c, d⟩ := hb.2.2.2 k hk
  exact ⟨a, a, c, d⟩
end FB8
section RB8
variable {P : PT} {h : zH}
theorem rBk.s3 (g : rBk 0 P h) (lb : lB P) {j q : Nat} (hj : j < 3) (gq : gIn P q) {v : Int} : rBk 0 (pSt P j q v) (zset h 126 ((101 + (48 * (j : Int))) + ((gJ P q : Nat) : Int)).toNat (0, v)) := by
  rw [show ((101 + (48 * (j : Int))) + ((gJ P q : Nat) : Int)).toNat = 101 + 48 * j + gJ P q by omega]
  have lq := gJ_lt lb gq
  obtain ⟨⟨a0, a1, a2, a3, a4⟩, b1, b2, b3⟩ := g
  refine ⟨⟨(zset_ne (by omega)).trans a0, (zset_ne (by omega)).trans a1, (zset_ne (by omega)).trans a2, (zset_ne (by omega)).trans a3, (zset_ne (by omega)).trans a4⟩, fun x gx => ?_, fun k x hk gx => ?_, fun k hk => ?_⟩
  · have gx : gIn P x := gx
    have lx := gJ_lt lb gx
    have e : gJ (pSt P j q v) x = gJ P x := rfl
    rw [e]
    exact ⟨(zset_ne (by omega)).trans (b1 x gx).1, (zset_ne (by omega)).trans (b1 x gx).2⟩
  · have gx : gIn P x := gx
    have lx := gJ_lt lb gx
    have e : gJ (pSt P j q v) x = gJ P x := rfl
    have x48 := gx.1
    have q48 := gq.1
    rw [e]
    show zset h 126 (101 + 48 * j + gJ P q) (0, v) 126 (0 + 101 + 48 * k + gJ P x) = (0, if 3 = 3 ∧ 48 * k + x = 48 * j + q then v else P 3 (48 * k + x))
    by_cases c : k = j ∧ x = q
    · obtain ⟨rfl, rfl⟩ := c
      rw [if_pos ⟨rfl, rfl⟩, Nat.zero_add]
      exact zset_same
    · rw [if_neg (fun f => c (by omega))]
      refine (zset_ne (fun f => c ?_)).trans (b2 k x hk gx)
      have : k = j := by omega
      exact ⟨this, gJ_inj lb gx gq (by omega)⟩
  · have hk : (k : Int) < P 0 3 := hk
    have := lb.2.2.2.2
    obtain ⟨c1, c2, c3, c4, c5⟩ := b3 k hk
    exact ⟨(zset_ne (by omega)).trans c1, (zset_ne (by omega)).trans c2, (zset_ne (by omega)).trans c3, (zset_ne (by omega)).trans c4, (zset_ne (by omega)).trans c5⟩
theorem rBk.s04 (g : rBk 0 P h) {v : Int} : rBk 0 (pset P 0 4 v) (zset h 126 4 (0, v)) := by
  obtain ⟨⟨a0, a1, a2, a3, a4⟩, b1, b2, b3⟩ := g
  refine ⟨⟨(zset_ne (by omega)).trans a0, (zset_ne (by omega)).trans a1, (zset_ne (by omega)).trans a2, (zset_ne (by omega)).trans a3, zset_same⟩, fun x gx => ?_, fun k x hk gx => (zset_ne (by omega)).trans (b2 k x hk gx), fun k hk => ?_⟩
  · exact ⟨(zset_ne (by omega)).trans (b1 x gx).1, (zset_ne (by omega)).trans (b1 x gx).2⟩
  · obtain ⟨c1, c2, c3, c4, c5⟩ := b3 k hk
    exact ⟨(zset_ne (by omega)).trans c1, (zset_ne (by omega)).trans c2, (zset_ne (by omega)).trans c3, (zset_ne (by omega)).trans c4, (zset_ne (by omega)).trans c5⟩
theorem rBk.s6 (g : rBk 0 P h) (lb : lB P) {i q : Nat} (hi : i < 6) : rBk 0 (pset P 6 i (q : Int)) (zset h 126 (245 + (i : Int)).toNat (0, ((gJ P q : Nat) : Int))) := by
  rw [show (245 + (i : Int)).toNat = 245 + i by omega]
  obtain ⟨⟨a0, a1, a2, a3, a4⟩, b1, b2, b3⟩ := g
  refine ⟨⟨(zset_ne (by omega)).trans a0, (zset_ne (by omega)).trans a1, (zset_ne (by omega)).trans a2, (zset_ne (by omega)).trans a3, (zset_ne (by omega)).trans a4⟩, fun x gx => ?_, fun k x hk gx => ?_, fun k hk => ?_⟩
  · have gx : gIn P x := gx
    have lx := gJ_lt lb gx
    have e : gJ (pset P 6 i (q : Int)) x = gJ P x := rfl
    rw [e]
    exact ⟨(zset_ne (by omega)).trans (b1 x gx).1, (zset_ne (by omega)).trans (b1 x gx).2⟩
  · have gx : gIn P x := gx
    have lx := gJ_lt lb gx
    have e : gJ (pset P 6 i (q : Int)) x = gJ P x := rfl
    rw [e]
    exact (zset_ne (by omega)).trans (b2 k x hk gx)
  · have hk : (k : Int) < P 0 3 := hk
    have := lb.2.2.2.2
    obtain ⟨c1, c2, c3, c4, c5⟩ := b3 k hk
    refine ⟨?_, (zset_ne (by omega)).trans c2, (zset_ne (by omega)).trans c3, (zset_ne (by omega)).trans c4, (zset_ne (by omega)).trans c5⟩
    show zset h 126 (245 + i) (0, ((gJ P q : Nat) : Int)) 126 (0 + 245 + k) = (0, ((gJ P (if 6 = 6 ∧ k = i then (q : Int) else P 6 k).toNat : Nat) : Int))
    by_cases c : k = i
    · subst c
      rw [if_pos ⟨rfl, rfl⟩, Nat.zero_add, Int.toNat_natCast]
      exact zset_same
    · rw [if_neg (fun e => c e.2)]
      exact (zset_ne (by omega)).trans c1
theorem rBk.s8 (g : rBk 0 P h) (lb : lB P) {i : Nat} {v : Int} (hi : i < 6) : rBk 0 (pset P 8 i v) (zset h 126 (263 + (i : Int)).toNat (0, v)) := by
  rw [show (263 + (i : Int)).toNat = 263 + i by omega]
  obtain ⟨⟨a0, a1, a2, a3, a4⟩, b1, b2, b3⟩ := g
  refine ⟨⟨(zset_ne (by omega)).trans a0, (zset_ne (by omega)).trans a1, (zset_ne (by omega)).trans a2, (zset_ne (by omega)).trans a3, (zset_ne (by omega)).trans a4⟩, fun x gx => ?_, fun k x hk gx => ?_, fun k hk => ?_⟩
  · have gx : gIn P x := gx
    have lx := gJ_lt lb gx
    have e : gJ (pset P 8 i v) x = gJ P x := rfl
    rw [e]
    exact ⟨(zset_ne (by omega)).trans (b1 x gx).1, (zset_ne (by omega)).trans (b1 x gx).2⟩
  · have gx : gIn P x := gx
    have lx := gJ_lt lb gx
    have e : gJ (pset P 8 i v) x = gJ P x := rfl
    rw [e]
    exact (zset_ne (by omega)).trans (b2 k x hk gx)
  · have hk : (k : Int) < P 0 3 := hk
    have := lb.2.2.2.2
    obtain ⟨c1, c2, c3, c4, c5⟩ := b3 k hk
    refine ⟨(zset_ne (by omega)).trans c1, (zset_ne (by omega)).trans c2, (zset_ne (by omega)).trans c3, ?_, (zset_ne (by omega)).trans c5⟩
    show zset h 126 (263 + i) (0, v) 126 (0 + 263 + k) = (0, if 8 = 8 ∧ k = i then v else P 8 k)
    by_cases c : k = i
    · subst c
      rw [if_pos ⟨rfl, rfl⟩, Nat.zero_add]
      exact zset_same
    · rw [if_neg (fun e => c e.2)]
      exact (zset_ne (by omega)).trans c4
theorem rBk.s9 (g : rBk 0 P h) (lb : lB P) {i : Nat} {v : Int} (hi : i < 6) : rBk 0 (pset P 9 i v) (zset h 126 (269 + (i : Int)).toNat (0, v)) := by
  rw [show (269 + (i : Int)).toNat = 269 + i by omega]
  obtain ⟨⟨a0, a1, a2, a3, a4⟩, b1, b2, b3⟩ := g
  refine ⟨⟨(zset_ne (by omega)).trans a0, (zset_ne (by omega)).trans a1, (zset_ne (by omega)).trans a2, (zset_ne (by omega)).trans a3, (zset_ne (by omega)).trans a4⟩, fun x gx => ?_, fun k x hk gx => ?_, fun k hk => ?_⟩
  · have gx : gIn P x := gx
    have lx := gJ_lt lb gx
    have e : gJ (pset P 9 i v) x = gJ P x := rfl
    rw [e]
    exact ⟨(zset_ne (by omega)).trans (b1 x gx).1, (zset_ne (by omega)).trans (b1 x gx).2⟩
  · have gx : gIn P x := gx
    have lx := gJ_lt lb gx
    have e : gJ (pset P 9 i v) x = gJ P x := rfl
    rw [e]
    exact (zset_ne (by omega)).trans (b2 k x hk gx)
  · have hk : (k : Int) < P 0 3 := hk
    have := lb.2.2.2.2
    obtain ⟨c1, c2, c3, c4, c5⟩ := b3 k hk
    refine ⟨(zset_ne (by omega)).trans c1, (zset_ne (by omega)).trans c2, (zset_ne (by omega)).trans c3, (zset_ne (by omega)).trans c4, ?_⟩
    show zset h 126 (269 + i) (0, v) 126 (0 + 269 + k) = (0, if 9 = 9 ∧ k = i then v else P 9 k)
    by_cases c : k = i
    · subst c
      rw [if_pos ⟨rfl, rfl⟩, Nat.zero_add]
      exact zset_same
    · rw [if_neg (fun e => c e.2)]
      exact (zset_ne (by omega)).trans c5
end RB8
end
section
theorem qk_eat_24 {D : zD} {T : zT} (hT : hTab T) (hO : vOK T) {N : Nat} {h : zH} {Q : zR → Prop} {P : PT} {j q : Nat} (hv0 : zHv h) (hP : cP 24 P h) (hb : fB P) (hj : j < 3) (hq : q < 48)
    (k0 : ((P 3 (48 * j + q)) = 1) → Q (h, some (0, 0)))
    (k1 : ((P 3 (48 * j + q)) ≠ 1) → (0 ≤ (((j : Int) * 48) + (q : Int))) → ((((j : Int) * 48) + (q : Int)) < 144) → Q (zset (zset h 27 (((((j : Int) * 48) + (q : Int))).toNat) (0, 1)) 24 4 (0, (wA ((P 0 4)) ((gCr P q)))), some (0, 1))) :
    vP D T N 35 0 h [some (2, 24), some (0, (j : Int)), some (0, (q : Int))] [] Q := by
  refine v_load (v := (2, 24)) (hz_X2_eat hT _ _ rfl) rfl rfl ?_
  refine v_load (v := (0, (j : Int))) (hz_X2_eat hT _ _ rfl) rfl rfl ?_
  refine v_load (v := (0, (q : Int))) (hz_X2_eat hT _ _ rfl) rfl rfl ?_
  refine v_call (w := 3) [some (2, 24), some (0, (j : Int)), some (0, (q : Int))] hO (hz_X2_eat hT _ _ rfl) rfl rfl (cb_st_24 hT hO ((j : Int)) ((q : Int)) j q rfl rfl (by omega) (by omega) hP.2.2.2.1 ?_)
  show vP D T N 35 6 h [some (2, 24), some (0, (j : Int)), some (0, (q : Int))] [(0, (P 3 (48 * j + q)))] _
  refine v_push (1) (hz_X2_eat hT _ _ rfl) rfl ?_
  refine v_ic (hz_X2_eat hT _ _ rfl) (fun hc1 => ?_) (fun hc1 => ?_)
  · have hc1 : (P 3 (48 * j + q)) = 1 := hc1
    refine v_push (0) (hz_X2_eat hT _ _ rfl) rfl ?_
    refine v_ret (hz_X2_eat hT _ _ rfl) (Or.inl rfl) ?_
    exact k0 hc1
  · have hc1 : (P 3 (48 * j + q)) ≠ 1 := hc1
    refine v_load (v := (2, 24)) (hz_X2_eat hT _ _ rfl) rfl rfl ?_
    refine v_getR (c := 27) (r := 24) (hz_X2_eat hT _ _ rfl) rfl rfl rfl ?_
    refine v_load (v := (0, (j : Int))) (hz_X2_eat hT _ _ rfl) rfl rfl ?_
    refine v_push (48) (hz_X2_eat hT _ _ rfl) rfl ?_
    refine v_bin (w := ((j : Int) * 48)) (hz_X2_eat hT _ _ rfl) (hq_mul (by omega) (by omega)) ?_
    refine v_load (v := (0, (q : Int))) (hz_X2_eat hT _ _ rfl) rfl rfl ?_
    refine v_bin (w := (((j : Int) * 48) + (q : Int))) (hz_X2_eat hT _ _ rfl) (hq_add (by omega) (by omega)) ?_
    refine v_push (1) (hz_X2_eat hT _ _ rfl) rfl ?_
    refine v_ast (r := 27) (hz_X2_eat hT _ _ rfl) rfl rfl (fun ha2 hb3 hf4 => ?_)
    refine v_load (v := (2, 24)) (hz_X2_eat hT _ _ rfl) rfl rfl ?_
    refine v_dup (hz_X2_eat hT _ _ rfl) (Nat.ne_of_beq_eq_false rfl) ?_
    refine v_getf (v := (0, (P 0 4))) (r := 24) (hz_X2_eat hT _ _ rfl) rfl rfl (fun _ => Eq.trans (zset_ne (fun c => absurd c.1 (by decide))) (hP.1.2.2.2.2)) ?_
    refine v_load (v := (2, 24)) (hz_X2_eat hT _ _ rfl) rfl rfl ?_
    refine v_load (v := (0, (q : Int))) (hz_X2_eat hT _ _ rfl) rfl rfl ?_
    refine v_call (w := 2) [some (2, 24), some (0, (q : Int))] hO (hz_X2_eat hT _ _ rfl) rfl rfl (cb_cr_24 hT hO ((q : Int)) q rfl (by omega) hb (fun i hi => (zset_ne (fun c => absurd c.1 (by decide))).trans (hP.2.1 i hi)) (fun i hi => (zset_ne (fun c => absurd c.1 (by decide))).trans (hP.2.2.1 i hi)) ?_)
    show vP D T N 35 34 (zset h 27 (((((j : Int) * 48) + (q : Int))).toNat) (0, 1)) [some (2, 24), some (0, (j : Int)), some (0, (q : Int))] [(0, (gCr P q)), (0, (P 0 4)), (2, 24)] _
    refine v_bin (w := (wA ((P 0 4)) ((gCr P q)))) (hz_X2_eat hT _ _ rfl) rfl ?_
    refine v_putf (r := 24) hO (hz_X2_eat hT _ _ rfl) rfl (fun hf5 => ?_)
    refine v_push (1) (hz_X2_eat hT _ _ rfl) rfl ?_
    refine v_ret (hz_X2_eat hT _ _ rfl) (Or.inl rfl) ?_
    exact k1 hc1 ha2 hb3
theorem cb_eat_24 {D : zD} {T : zT} (hT : hTab T) (hO : vOK T) {N : Nat} {h : zH} {Q : zR → Prop} {P : PT} (x y : Int) (j q : Nat) (ex : x = (j : Int)) (ey : y = (q : Int)) (hj : j < 3) (hq : q < 48) (hP : cP 24 P h) (hb : fB P) (k1 : P 3 (48 * j + q) = 1 → Q (h, some (0, 0))) (k2 : P 3 (48 * j + q) ≠ 1 → ∀ g, cP 24 (pBite P j q) g → cFr 24 h g → Q (g, some (0, 1))) : vP D T N 35 0 h [some (2, 24), some (0, x), some (0, y)] [] Q := by
  subst ex ey
  refine vP_hv (fun hv => qk_eat_24 hT hO hv hP hb hj hq ?_ ?_)
  · intro c
    exact k1 c
  · intro c _ _
    rw [show ((j : Int) * 48 + (q : Int)).toNat = 48 * j + q from by omega]
    exact k2 c _ hP.s3.s04 (cFr.z (by omega) (cFr.z (by omega) (fun _ _ _ => rfl)))
theorem qk_mo_24 {D : zD} {T : zT} (hT : hTab T) (hO : vOK T) {N : Nat} {h : zH} {Q : zR → Prop} {P : PT} {j q : Nat} (hv0 : zHv h) (hP : cP 24 P h) (hb : fB P) (hj : j < 3) (hq : q < 48)
    (k0 : ((P 3 (48 * j + q)) = 0) → (0 ≤ (((j : Int) * 48) + (q : Int))) → ((((j : Int) * 48) + (q : Int)) < 144) → Q (zset h 27 (((((j : Int) * 48) + (q : Int))).toNat) (0, 2), some (0, 1)))
    (k1 : ((P 3 (48 * j + q)) ≠ 0) → Q (h, some (0, 0))) :
    vP D T N 39 0 h [some (2, 24), some (0, (j : Int)), some (0, (q : Int))] [] Q := by
  refine v_load (v := (2, 24)) (hz_X2_growMould hT _ _ rfl) rfl rfl ?_
  refine v_load (v := (0, (j : Int))) (hz_X2_growMould hT _ _ rfl) rfl rfl ?_
  refine v_load (v := (0, (q : Int))) (hz_X2_growMould hT _ _ rfl) rfl rfl ?_
  refine v_call (w := 3) [some (2, 24), some (0, (j : Int)), some (0, (q : Int))] hO (hz_X2_growMould hT _ _ rfl) rfl rfl (cb_st_24 hT hO ((j : Int)) ((q : Int)) j q rfl rfl (by omega) (by omega) hP.2.2.2.1 ?_)
  show vP D T N 39 6 h [some (2, 24), some (0, (j : Int)), some (0, (q : Int))] [(0, (P 3 (48 * j + q)))] _
  refine v_if (hz_X2_growMould hT _ _ rfl) (fun hc1 => ?_) (fun hc1 => ?_)
  · have hc1 : (P 3 (48 * j + q)) = 0 := hc1
    refine v_load (v := (2, 24)) (hz_X2_growMould hT _ _ rfl) rfl rfl ?_
    refine v_getR (c := 27) (r := 24) (hz_X2_growMould hT _ _ rfl) rfl rfl rfl ?_
    refine v_load (v := (0, (j : Int))) (hz_X2_growMould hT _ _ rfl) rfl rfl ?_
    refine v_push (48) (hz_X2_growMould hT _ _ rfl) rfl ?_
    refine v_bin (w := ((j : Int) * 48)) (hz_X2_growMould hT _ _ rfl) (hq_mul (by omega) (by omega)) ?_
    refine v_load (v := (0, (q : Int))) (hz_X2_growMould hT _ _ rfl) rfl rfl ?_
    refine v_bin (w := (((j : Int) * 48) + (q : Int))) (hz_X2_growMould hT _ _ rfl) (hq_add (by omega) (by omega)) ?_
    refine v_push (2) (hz_X2_growMould hT _ _ rfl) rfl ?_
    refine v_ast (r := 27) (hz_X2_growMould hT _ _ rfl) rfl rfl (fun ha2 hb3 hf4 => ?_)
    refine v_push (1) (hz_X2_growMould hT _ _ rfl) rfl ?_
    refine v_ret (hz_X2_growMould hT _ _ rfl) (Or.inl rfl) ?_
    exact k0 hc1 ha2 hb3
  · have hc1 : (P 3 (48 * j + q)) ≠ 0 := hc1
    refine v_push (0) (hz_X2_growMould hT _ _ rfl) rfl ?_
    refine v_ret (hz_X2_growMould hT _ _ rfl) (Or.inl rfl) ?_
    exact k1 hc1
theorem cb_mo_24 {D : zD} {T : zT} (hT : hTab T) (hO : vOK T) {N : Nat} {h : zH} {Q : zR → Prop} {P : PT} (x y : Int) (j q : Nat) (ex : x = (j : Int)) (ey : y = (q : Int)) (hj : j < 3) (hq : q < 48) (hP : cP 24 P h) (hb : fB P) (k1 : P 3 (48 * j + q) ≠ 0 → Q (h, some (0, 0))) (k2 : P 3 (48 * j + q) = 0 → ∀ g, cP 24 (pSt P j q 2) g → cFr 24 h g → Q (g, some (0, 1))) : vP D T N 39 0 h [some (2, 24), some (0, x), some (0, y)] [] Q := by
  subst ex ey
  refine vP_hv (fun hv => qk_mo_24 hT hO hv hP hb hj hq ?_ ?_) <;> intros
  all_goals first
    | exact k1 (by omega)
    | (rw [show ((j : Int) * 48 + (q : Int)).toNat = 48 * j + q from by omega]; exact k2 (by omega) _ hP.s3 (cFr.z (by omega) (fun _ _ _ => rfl)))
theorem qk_ho_24 {D : zD} {T : zT} (hT : hTab T) (hO : vOK T) {N : Nat} {h : zH} {Q : zR → Prop} {P : PT} {j q : Nat} (hv0 : zHv h) (hP : cP 24 P h) (hb : fB P) (hj : j < 3) (hq : q < 48)
    (k0 : ((P 3 (48 * j + q)) = 0) → (0 ≤ (((j : Int) * 48) + (q : Int))) → ((((j : Int) * 48) + (q : Int)) < 144) → Q (zset h 27 (((((j : Int) * 48) + (q : Int))).toNat) (0, 3), some (0, 1)))
    (k1 : ((P 3 (48 * j + q)) ≠ 0) → ((P 3 (48 * j + q)) = 2) → (0 ≤ (((j : Int) * 48) + (q : Int))) → ((((j : Int) * 48) + (q : Int)) < 144) → Q (zset h 27 (((((j : Int) * 48) + (q : Int))).toNat) (0, 3), some (0, 1)))
    (k2 : ((P 3 (48 * j + q)) ≠ 0) → ((P 3 (48 * j + q)) ≠ 2) → Q (h, some (0, 0))) :
    vP D T N 55 0 h [some (2, 24), some (0, (j : Int)), some (0, (q : Int)), none] [] Q := by
  refine v_load (v := (2, 24)) (hz_X2_spreadHoney hT _ _ rfl) rfl rfl ?_
  refine v_load (v := (0, (j : Int))) (hz_X2_spreadHoney hT _ _ rfl) rfl rfl ?_
  refine v_load (v := (0, (q : Int))) (hz_X2_spreadHoney hT _ _ rfl) rfl rfl ?_
  refine v_call (w := 3) [some (2, 24), some (0, (j : Int)), some (0, (q : Int))] hO (hz_X2_spreadHoney hT _ _ rfl) rfl rfl (cb_st_24 hT hO ((j : Int)) ((q : Int)) j q rfl rfl (by omega) (by omega) hP.2.2.2.1 ?_)
  show vP D T N 55 6 h [some (2, 24), some (0, (j : Int)), some (0, (q : Int)), none] [(0, (P 3 (48 * j + q)))] _
  refine v_store1 [some (2, 24), some (0, (j : Int)), some (0, (q : Int)), some (0, (P 3 (48 * j + q)))] (hz_X2_spreadHoney hT _ _ rfl) ⟨rfl, Nat.ne_of_beq_eq_false rfl⟩ (Nat.le_of_ble_eq_true rfl) rfl ?_
  refine v_load (v := (0, (P 3 (48 * j + q)))) (hz_X2_spreadHoney hT _ _ rfl) rfl rfl ?_
  refine v_if (hz_X2_spreadHoney hT _ _ rfl) (fun hc1 => ?_) (fun hc1 => ?_)
  · have hc1 : (P 3 (48 * j + q)) = 0 := hc1
    refine v_load (v := (2, 24)) (hi_X2_spreadHoney_18 hT) rfl rfl ?_
    refine v_getR (c := 27) (r := 24) (hi_X2_spreadHoney_19 hT) rfl rfl rfl ?_
    refine v_load (v := (0, (j : Int))) (hi_X2_spreadHoney_22 hT) rfl rfl ?_
    refine v_push (48) (hi_X2_spreadHoney_23 hT) rfl ?_
    refine v_bin (w := ((j : Int) * 48)) (hi_X2_spreadHoney_25 hT) (hq_mul (by omega) (by omega)) ?_
    refine v_load (v := (0, (q : Int))) (hi_X2_spreadHoney_26 hT) rfl rfl ?_
    refine v_bin (w := (((j : Int) * 48) + (q : Int))) (hi_X2_spreadHoney_27 hT) (hq_add (by omega) (by omega)) ?_
    refine v_push (3) (hi_X2_spreadHoney_28 hT) rfl ?_
    refine v_ast (r := 27) (hi_X2_spreadHoney_29 hT) rfl rfl (fun ha2 hb3 hf4 => ?_)
    refine v_push (1) (hi_X2_spreadHoney_30 hT) rfl ?_
    refine v_ret (hi_X2_spreadHoney_31 hT) (Or.inl rfl) ?_
    exact k0 hc1 ha2 hb3
  · have hc1 : (P 3 (48 * j + q)) ≠ 0 := hc1
    refine v_load (v := (0, (P 3 (48 * j + q)))) (hz_X2_spreadHoney hT _ _ rfl) rfl rfl ?_
    refine v_push (2) (hz_X2_spreadHoney hT _ _ rfl) rfl ?_
    refine v_ic (hz_X2_spreadHoney hT _ _ rfl) (fun hc5 => ?_) (fun hc5 => ?_)
    · have hc5 : (P 3 (48 * j + q)) = 2 := hc5
      refine v_load (v := (2, 24)) (hi_X2_spreadHoney_18 hT) rfl rfl ?_
      refine v_getR (c := 27) (r := 24) (hi_X2_spreadHoney_19 hT) rfl rfl rfl ?_
      refine v_load (v := (0, (j : Int))) (hi_X2_spreadHoney_22 hT) rfl rfl ?_
      refine v_push (48) (hi_X2_spreadHoney_23 hT) rfl ?_
      refine v_bin (w := ((j : Int) * 48)) (hi_X2_spreadHoney_25 hT) (hq_mul (by omega) (by omega)) ?_
      refine v_load (v := (0, (q : Int))) (hi_X2_spreadHoney_26 hT) rfl rfl ?_
      refine v_bin (w := (((j : Int) * 48) + (q : Int))) (hi_X2_spreadHoney_27 hT) (hq_add (by omega) (by omega)) ?_
      refine v_push (3) (hi_X2_spreadHoney_28 hT) rfl ?_
      refine v_ast (r := 27) (hi_X2_spreadHoney_29 hT) rfl rfl (fun ha6 hb7 hf8 => ?_)
      refine v_push (1) (hi_X2_spreadHoney_30 hT) rfl ?_
      refine v_ret (hi_X2_spreadHoney_31 hT) (Or.inl rfl) ?_
      exact k1 hc1 hc5 ha6 hb7
    · have hc5 : (P 3 (48 * j + q)) ≠ 2 := hc5
      refine v_push (0) (hz_X2_spreadHoney hT _ _ rfl) rfl ?_
      refine v_ret (hz_X2_spreadHoney hT _ _ rfl) (Or.inl rfl) ?_
      exact k2 hc1 hc5
theorem cb_ho_24 {D : zD} {T : zT} (hT : hTab T) (hO : vOK T) {N : Nat} {h : zH} {Q : zR → Prop} {P : PT} (x y : Int) (j q : Nat) (ex : x = (j : Int)) (ey : y = (q : Int)) (hj : j < 3) (hq : q < 48) (hP : cP 24 P h) (hb : fB P) (k1 : (P 3 (48 * j + q) ≠ 0 ∧ P 3 (48 * j + q) ≠ 2) → Q (h, some (0, 0))) (k2 : (P 3 (48 * j + q) = 0 ∨ P 3 (48 * j + q) = 2) → ∀ g, cP 24 (pSt P j q 3) g → cFr 24 h g → Q (g, some (0, 1))) : vP D T N 55 0 h [some (2, 24), some (0, x), some (0, y), none] [] Q := by
  subst ex ey
  refine vP_hv (fun hv => qk_ho_24 hT hO hv hP hb hj hq ?_ ?_ ?_) <;> intros
  all_goals first
    | exact k1 (by omega)
    | (rw [show ((j : Int) * 48 + (q : Int)).toNat = 48 * j + q from by omega]; exact k2 (by omega) _ hP.s3 (cFr.z (by omega) (fun _ _ _ => rfl)))
theorem qk_wi_24 {D : zD} {T : zT} (hT : hTab T) (hO : vOK T) {N : Nat} {h : zH} {Q : zR → Prop} {P : PT} {j q : Nat} (hv0 : zHv h) (hP : cP 24 P h) (hb : fB P) (hj : j < 3) (hq : q < 48)
    (k0 : ((P 3 (48 * j + q)) = 2) → (0 ≤ (((j : Int) * 48) + (q : Int))) → ((((j : Int) * 48) + (q : Int)) < 144) → Q (zset h 27 (((((j : Int) * 48) + (q : Int))).toNat) (0, 0), some (0, 1)))
    (k1 : ((P 3 (48 * j + q)) ≠ 2) → ((P 3 (48 * j + q)) = 3) → (0 ≤ (((j : Int) * 48) + (q : Int))) → ((((j : Int) * 48) + (q : Int)) < 144) → Q (zset h 27 (((((j : Int) * 48) + (q : Int))).toNat) (0, 0), some (0, 1)))
    (k2 : ((P 3 (48 * j + q)) ≠ 2) → ((P 3 (48 * j + q)) ≠ 3) → Q (h, some (0, 0))) :
    vP D T N 58 0 h [some (2, 24), some (0, (j : Int)), some (0, (q : Int)), none] [] Q := by
  refine v_load (v := (2, 24)) (hz_X2_wipe hT _ _ rfl) rfl rfl ?_
  refine v_load (v := (0, (j : Int))) (hz_X2_wipe hT _ _ rfl) rfl rfl ?_
  refine v_load (v := (0, (q : Int))) (hz_X2_wipe hT _ _ rfl) rfl rfl ?_
  refine v_call (w := 3) [some (2, 24), some (0, (j : Int)), some (0, (q : Int))] hO (hz_X2_wipe hT _ _ rfl) rfl rfl (cb_st_24 hT hO ((j : Int)) ((q : Int)) j q rfl rfl (by omega) (by omega) hP.2.2.2.1 ?_)
  show vP D T N 58 6 h [some (2, 24), some (0, (j : Int)), some (0, (q : Int)), none] [(0, (P 3 (48 * j + q)))] _
  refine v_store1 [some (2, 24), some (0, (j : Int)), some (0, (q : Int)), some (0, (P 3 (48 * j + q)))] (hz_X2_wipe hT _ _ rfl) ⟨rfl, Nat.ne_of_beq_eq_false rfl⟩ (Nat.le_of_ble_eq_true rfl) rfl ?_
  refine v_load (v := (0, (P 3 (48 * j + q)))) (hz_X2_wipe hT _ _ rfl) rfl rfl ?_
  refine v_push (2) (hz_X2_wipe hT _ _ rfl) rfl ?_
  refine v_ic (hz_X2_wipe hT _ _ rfl) (fun hc1 => ?_) (fun hc1 => ?_)
  · have hc1 : (P 3 (48 * j + q)) = 2 := hc1
    refine v_load (v := (2, 24)) (hi_X2_wipe_19 hT) rfl rfl ?_
    refine v_getR (c := 27) (r := 24) (hi_X2_wipe_20 hT) rfl rfl rfl ?_
    refine v_load (v := (0, (j : Int))) (hi_X2_wipe_23 hT) rfl rfl ?_
    refine v_push (48) (hi_X2_wipe_24 hT) rfl ?_
    refine v_bin (w := ((j : Int) * 48)) (hi_X2_wipe_26 hT) (hq_mul (by omega) (by omega)) ?_
    refine v_load (v := (0, (q : Int))) (hi_X2_wipe_27 hT) rfl rfl ?_
    refine v_bin (w := (((j : Int) * 48) + (q : Int))) (hi_X2_wipe_28 hT) (hq_add (by omega) (by omega)) ?_
    refine v_push (0) (hi_X2_wipe_29 hT) rfl ?_
    refine v_ast (r := 27) (hi_X2_wipe_30 hT) rfl rfl (fun ha2 hb3 hf4 => ?_)
    refine v_push (1) (hi_X2_wipe_31 hT) rfl ?_
    refine v_ret (hi_X2_wipe_32 hT) (Or.inl rfl) ?_
    exact k0 hc1 ha2 hb3
  · have hc1 : (P 3 (48 * j + q)) ≠ 2 := hc1
    refine v_load (v := (0, (P 3 (48 * j + q)))) (hz_X2_wipe hT _ _ rfl) rfl rfl ?_
    refine v_push (3) (hz_X2_wipe hT _ _ rfl) rfl ?_
    refine v_ic (hz_X2_wipe hT _ _ rfl) (fun hc5 => ?_) (fun hc5 => ?_)
    · have hc5 : (P 3 (48 * j + q)) = 3 := hc5
      refine v_load (v := (2, 24)) (hi_X2_wipe_19 hT) rfl rfl ?_
      refine v_getR (c := 27) (r := 24) (hi_X2_wipe_20 hT) rfl rfl rfl ?_
      refine v_load (v := (0, (j : Int))) (hi_X2_wipe_23 hT) rfl rfl ?_
      refine v_push (48) (hi_X2_wipe_24 hT) rfl ?_
      refine v_bin (w := ((j : Int) * 48)) (hi_X2_wipe_26 hT) (hq_mul (by omega) (by omega)) ?_
      refine v_load (v := (0, (q : Int))) (hi_X2_wipe_27 hT) rfl rfl ?_
      refine v_bin (w := (((j : Int) * 48) + (q : Int))) (hi_X2_wipe_28 hT) (hq_add (by omega) (by omega)) ?_
      refine v_push (0) (hi_X2_wipe_29 hT) rfl ?_
      refine v_ast (r := 27) (hi_X2_wipe_30 hT) rfl rfl (fun ha6 hb7 hf8 => ?_)
      refine v_push (1) (hi_X2_wipe_31 hT) rfl ?_
      refine v_ret (hi_X2_wipe_32 hT) (Or.inl rfl) ?_
      exact k1 hc1 hc5 ha6 hb7
    · have hc5 : (P 3 (48 * j + q)) ≠ 3 := hc5
      refine v_push (0) (hz_X2_wipe hT _ _ rfl) rfl ?_
      refine v_ret (hz_X2_wipe hT _ _ rfl) (Or.inl rfl) ?_
      exact k2 hc1 hc5
theorem cb_wi_24 {D : zD} {T : zT} (hT : hTab T) (hO : vOK T) {N : Nat} {h : zH} {Q : zR → Prop} {P : PT} (x y : Int) (j q : Nat) (ex : x = (j : Int)) (ey : y = (q : Int)) (hj : j < 3) (hq : q < 48) (hP : cP 24 P h) (hb : fB P) (k1 : (P 3 (48 * j + q) ≠ 2 ∧ P 3 (48 * j + q) ≠ 3) → Q (h, some (0, 0))) (k2 : (P 3 (48 * j + q) = 2 ∨ P 3 (48 * j + q) = 3) → ∀ g, cP 24 (pSt P j q 0) g → cFr 24 h g → Q (g, some (0, 1))) : vP D T N 58 0 h [some (2, 24), some (0, x), some (0, y), none] [] Q := by
  subst ex ey
  refine vP_hv (fun hv => qk_wi_24 hT hO hv hP hb hj hq ?_ ?_ ?_) <;> intros
  all_goals first
    | exact k1 (by omega)
    | (rw [show ((j : Int) * 48 + (q : Int)).toNat = 48 * j + q from by omega]; exact k2 (by omega) _ hP.s3 (cFr.z (by omega) (fun _ _ _ => rfl)))
theorem qk_so_24 {D : zD} {T : zT} (hT : hTab T) (hO : vOK T) {N : Nat} {h : zH} {Q : zR → Prop} {j t : Nat} (hv0 : zHv h) (hj : j < 3) (ht : t < 3)
    (k0 : (0 ≤ ((j : Int) * 48)) → (0 ≤ ((t : Int) * 48)) → (((j : Int) * 48) + 48 ≤ 144) → (((t : Int) * 48) + 48 ≤ 144) → Q (zcopy h 27 ((((j : Int) * 48)).toNat) 27 ((((t : Int) * 48)).toNat) 48, none)) :
    vP D T N 57 0 h [some (2, 24), some (0, (j : Int)), some (0, (t : Int))] [] Q := by
  refine v_load (v := (2, 24)) (hz_X2_steamOff hT _ _ rfl) rfl rfl ?_
  refine v_getR (c := 27) (r := 24) (hz_X2_steamOff hT _ _ rfl) rfl rfl rfl ?_
  refine v_load (v := (0, (j : Int))) (hz_X2_steamOff hT _ _ rfl) rfl rfl ?_
  refine v_push (48) (hz_X2_steamOff hT _ _ rfl) rfl ?_
  refine v_bin (w := ((j : Int) * 48)) (hz_X2_steamOff hT _ _ rfl) (hq_mul (by omega) (by omega)) ?_
  refine v_load (v := (2, 24)) (hz_X2_steamOff hT _ _ rfl) rfl rfl ?_
  refine v_getR (c := 27) (r := 24) (hz_X2_steamOff hT _ _ rfl) rfl rfl rfl ?_
  refine v_load (v := (0, (t : Int))) (hz_X2_steamOff hT _ _ rfl) rfl rfl ?_
  refine v_push (48) (hz_X2_steamOff hT _ _ rfl) rfl ?_
  refine v_bin (w := ((t : Int) * 48)) (hz_X2_steamOff hT _ _ rfl) (hq_mul (by omega) (by omega)) ?_
  refine v_push (48) (hz_X2_steamOff hT _ _ rfl) rfl ?_
  refine v_copy (r0 := 27) (r1 := 27) (hz_X2_steamOff hT _ _ rfl) rfl rfl rfl rfl (fun hd1 hd2 hd3 hd4 hd5 => ?_)
  refine v_ret0 (hz_X2_steamOff hT _ _ rfl) ?_
  exact k0 hd2 hd3 hd4 hd5
theorem cb_so_24 {D : zD} {T : zT} (hT : hTab T) (hO : vOK T) {N : Nat} {h : zH} {Q : zR → Prop} {P : PT} (x y : Int) (j t : Nat) (ex : x = (j : Int)) (ey : y = (t : Int)) (hj : j < 3) (ht : t < 3) (hP : cP 24 P h) (k : ∀ g, cP 24 (pSteam P j t) g → cFr 24 h g → Q (g, none)) : vP D T N 57 0 h [some (2, 24), some (0, x), some (0, y)] [] Q := by
  subst ex ey
  refine vP_hv (fun hv => qk_so_24 hT hO hv hj ht ?_)
  intros
  rw [show ((j : Int) * 48).toNat = 48 * j from by omega, show ((t : Int) * 48).toNat = 48 * t from by omega]
  exact k _ (hP.steam hj ht) (fun a b hn => vcopy_ne (fun e => hn (by omega)))
theorem qk_sh2_24 {D : zD} {T : zT} (hT : hTab T) (hO : vOK T) {N : Nat} {h : zH} {Q : zR → Prop}  (hv0 : zHv h)
    (k0 : Q (zcopy h 29 0 30 0 6, none)) :
    vP D T N 52 0 h [some (2, 24)] [] Q := by
  refine v_load (v := (2, 24)) (hz_X2_sendHome hT _ _ rfl) rfl rfl ?_
  refine v_getR (c := 29) (r := 24) (hz_X2_sendHome hT _ _ rfl) rfl rfl rfl ?_
  refine v_push (0) (hz_X2_sendHome hT _ _ rfl) rfl ?_
  refine v_load (v := (2, 24)) (hz_X2_sendHome hT _ _ rfl) rfl rfl ?_
  refine v_getR (c := 30) (r := 24) (hz_X2_sendHome hT _ _ rfl) rfl rfl rfl ?_
  refine v_push (0) (hz_X2_sendHome hT _ _ rfl) rfl ?_
  refine v_push (6) (hz_X2_sendHome hT _ _ rfl) rfl ?_
  refine v_copy (r0 := 29) (r1 := 30) (hz_X2_sendHome hT _ _ rfl) rfl rfl rfl rfl (fun hd1 hd2 hd3 hd4 hd5 => ?_)
  refine v_ret0 (hz_X2_sendHome hT _ _ rfl) ?_
  exact k0 
theorem cb_hm_24 {D : zD} {T : zT} (hT : hTab T) (hO : vOK T) {N : Nat} {h : zH} {Q : zR → Prop} {P : PT} (hP : cP 24 P h) (hb : fB P) (k : ∀ g, cP 24 (pHome P) g → cFr 24 h g → Q (g, none)) : vP D T N 52 0 h [some (2, 24)] [] Q := by
  refine vP_hv (fun hv => qk_sh2_24 hT hO hv ?_)
  intros
  exact k _ (hP.home hb.1.2.2.2.2) (fun a b hn => vcopy_ne (fun e => hn (by omega)))
end
section
theorem qr_cr2 {D : zD} {T : zT} (hT : hTab T) (hO : vOK T) {N : Nat} {h : zH} {Q : zR → Prop} {P : PT} {q : Nat} (hv0 : zHv h) (el : h 126 (5 + ((gJ P q : Nat) : Int)).toNat = (0, P 1 q)) (es : h 126 (53 + ((gJ P q : Nat) : Int)).toNat = (0, P 2 q)) (gq : gIn P q) (hn : gJ P q < 48) (b1 : 0 ≤ P 1 q ∧ P 1 q ≤ 4) (b2 : 0 ≤ P 2 q ∧ P 2 q ≤ 9)
    (k0 : (0 ≤ (5 + ((gJ P q : Nat) : Int))) → ((5 + ((gJ P q : Nat) : Int)) < 2750) → ((P 1 q) = 0) → (0 ≤ (53 + ((gJ P q : Nat) : Int))) → ((53 + ((gJ P q : Nat) : Int)) < 2750) → Q (h, some (0, (2 + (P 2 q)))))
    (k1 : (0 ≤ (5 + ((gJ P q : Nat) : Int))) → ((5 + ((gJ P q : Nat) : Int)) < 2750) → ((P 1 q) ≠ 0) → ((P 1 q) = 1) → (0 ≤ (53 + ((gJ P q : Nat) : Int))) → ((53 + ((gJ P q : Nat) : Int)) < 2750) → Q (h, some (0, (1 + (P 2 q)))))
    (k2 : (0 ≤ (5 + ((gJ P q : Nat) : Int))) → ((5 + ((gJ P q : Nat) : Int)) < 2750) → ((P 1 q) ≠ 0) → ((P 1 q) ≠ 1) → ((P 1 q) = 3) → (0 ≤ (53 + ((gJ P q : Nat) : Int))) → ((53 + ((gJ P q : Nat) : Int)) < 2750) → Q (h, some (0, (5 + (P 2 q)))))
    (k3 : (0 ≤ (5 + ((gJ P q : Nat) : Int))) → ((5 + ((gJ P q : Nat) : Int)) < 2750) → ((P 1 q) ≠ 0) → ((P 1 q) ≠ 1) → ((P 1 q) ≠ 3) → ((P 1 q) = 4) → (0 ≤ (53 + ((gJ P q : Nat) : Int))) → ((53 + ((gJ P q : Nat) : Int)) < 2750) → Q (h, some (0, (3 + (P 2 q)))))
    (k4 : (0 ≤ (5 + ((gJ P q : Nat) : Int))) → ((5 + ((gJ P q : Nat) : Int)) < 2750) → ((P 1 q) ≠ 0) → ((P 1 q) ≠ 1) → ((P 1 q) ≠ 3) → ((P 1 q) ≠ 4) → (0 ≤ (53 + ((gJ P q : Nat) : Int))) → ((53 + ((gJ P q : Nat) : Int)) < 2750) → Q (h, some (0, (4 + (P 2 q))))) :
    vP D T N 215 0 h [some (2, 121), some (0, ((gJ P q : Nat) : Int))] [] Q := by
  refine v_load (v := (2, 121)) (hz_X12_crumbsOf hT _ _ rfl) rfl rfl ?_
  refine v_getR (c := 126) (r := 121) (hz_X12_crumbsOf hT _ _ rfl) rfl rfl rfl ?_
  refine v_push (5) (hz_X12_crumbsOf hT _ _ rfl) rfl ?_
  refine v_load (v := (0, ((gJ P q : Nat) : Int))) (hz_X12_crumbsOf hT _ _ rfl) rfl rfl ?_
  refine v_bin (w := (5 + ((gJ P q : Nat) : Int))) (hz_X12_crumbsOf hT _ _ rfl) (hq_add (by omega) (by omega)) ?_
  refine v_aldB (t := 0) (r := 126) (w := (P 1 q)) (hz_X12_crumbsOf hT _ _ rfl) rfl rfl rfl (fun _ _ => (congrArg Prod.snd el)) (fun ha1 hb2 => ?_)
  refine v_call (w := 1) [some (0, (P 1 q))] hO (hz_X12_crumbsOf hT _ _ rfl) rfl rfl ?_
  refine v_load (v := (0, (P 1 q))) (hz_X12_letterCost hT _ _ rfl) rfl rfl ?_
  refine v_if (hz_X12_letterCost hT _ _ rfl) (fun hc3 => ?_) (fun hc3 => ?_)
  · have hc3 : (P 1 q) = 0 := hc3
    refine v_push (2) (hz_X12_letterCost hT _ _ rfl) rfl ?_
    refine v_goto (hz_X12_letterCost hT _ _ rfl) ?_
    refine v_ret (hi_X12_letterCost_36 hT) (Or.inl rfl) ?_
    show vP D T N 215 11 h [some (2, 121), some (0, ((gJ P q : Nat) : Int))] [(0, 2)] _
    refine v_load (v := (2, 121)) (hi_X12_crumbsOf_11 hT) rfl rfl ?_
    refine v_getR (c := 126) (r := 121) (hi_X12_crumbsOf_12 hT) rfl rfl rfl ?_
    refine v_push (53) (hi_X12_crumbsOf_15 hT) rfl ?_
    refine v_load (v := (0, ((gJ P q : Nat) : Int))) (hi_X12_crumbsOf_17 hT) rfl rfl ?_
    refine v_bin (w := (53 + ((gJ P q : Nat) : Int))) (hi_X12_crumbsOf_18 hT) (hq_add (by omega) (by omega)) ?_
    refine v_aldB (t := 0) (r := 126) (w := (P 2 q)) (hi_X12_crumbsOf_19 hT) rfl rfl rfl (fun _ _ => (congrArg Prod.snd es)) (fun ha4 hb5 => ?_)
    refine v_bin (w := (2 + (P 2 q))) (hi_X12_crumbsOf_20 hT) (hq_add (by omega) (by omega)) ?_
    refine v_ret (hi_X12_crumbsOf_21 hT) (Or.inl rfl) ?_
    exact k0 ha1 hb2 hc3 ha4 hb5
  · have hc3 : (P 1 q) ≠ 0 := hc3
    refine v_load (v := (0, (P 1 q))) (hz_X12_letterCost hT _ _ rfl) rfl rfl ?_
    refine v_push (1) (hz_X12_letterCost hT _ _ rfl) rfl ?_
    refine v_ic (hz_X12_letterCost hT _ _ rfl) (fun hc6 => ?_) (fun hc6 => ?_)
    · have hc6 : (P 1 q) = 1 := hc6
      refine v_push (1) (hz_X12_letterCost hT _ _ rfl) rfl ?_
      refine v_goto (hz_X12_letterCost hT _ _ rfl) ?_
      refine v_ret (hi_X12_letterCost_36 hT) (Or.inl rfl) ?_
      show vP D T N 215 11 h [some (2, 121), some (0, ((gJ P q : Nat) : Int))] [(0, 1)] _
      refine v_load (v := (2, 121)) (hi_X12_crumbsOf_11 hT) rfl rfl ?_
      refine v_getR (c := 126) (r := 121) (hi_X12_crumbsOf_12 hT) rfl rfl rfl ?_
      refine v_push (53) (hi_X12_crumbsOf_15 hT) rfl ?_
      refine v_load (v := (0, ((gJ P q : Nat) : Int))) (hi_X12_crumbsOf_17 hT) rfl rfl ?_
      refine v_bin (w := (53 + ((gJ P q : Nat) : Int))) (hi_X12_crumbsOf_18 hT) (hq_add (by omega) (by omega)) ?_
      refine v_aldB (t := 0) (r := 126) (w := (P 2 q)) (hi_X12_crumbsOf_19 hT) rfl rfl rfl (fun _ _ => (congrArg Prod.snd es)) (fun ha7 hb8 => ?_)
      refine v_bin (w := (1 + (P 2 q))) (hi_X12_crumbsOf_20 hT) (hq_add (by omega) (by omega)) ?_
      refine v_ret (hi_X12_crumbsOf_21 hT) (Or.inl rfl) ?_
      exact k1 ha1 hb2 hc3 hc6 ha7 hb8
    · have hc6 : (P 1 q) ≠ 1 := hc6
      refine v_load (v := (0, (P 1 q))) (hz_X12_letterCost hT _ _ rfl) rfl rfl ?_
      refine v_push (3) (hz_X12_letterCost hT _ _ rfl) rfl ?_
      refine v_ic (hz_X12_letterCost hT _ _ rfl) (fun hc9 => ?_) (fun hc9 => ?_)
      · have hc9 : (P 1 q) = 3 := hc9
        refine v_push (5) (hz_X12_letterCost hT _ _ rfl) rfl ?_
        refine v_goto (hz_X12_letterCost hT _ _ rfl) ?_
        refine v_ret (hi_X12_letterCost_36 hT) (Or.inl rfl) ?_
        show vP D T N 215 11 h [some (2, 121), some (0, ((gJ P q : Nat) : Int))] [(0, 5)] _
        refine v_load (v := (2, 121)) (hi_X12_crumbsOf_11 hT) rfl rfl ?_
        refine v_getR (c := 126) (r := 121) (hi_X12_crumbsOf_12 hT) rfl rfl rfl ?_
        refine v_push (53) (hi_X12_crumbsOf_15 hT) rfl ?_
        refine v_load (v := (0, ((gJ P q : Nat) : Int))) (hi_X12_crumbsOf_17 hT) rfl rfl ?_
        refine v_bin (w := (53 + ((gJ P q : Nat) : Int))) (hi_X12_crumbsOf_18 hT) (hq_add (by omega) (by omega)) ?_
        refine v_aldB (t := 0) (r := 126) (w := (P 2 q)) (hi_X12_crumbsOf_19 hT) rfl rfl rfl (fun _ _ => (congrArg Prod.snd es)) (fun ha10 hb11 => ?_)
        refine v_bin (w := (5 + (P 2 q))) (hi_X12_crumbsOf_20 hT) (hq_add (by omega) (by omega)) ?_
        refine v_ret (hi_X12_crumbsOf_21 hT) (Or.inl rfl) ?_
        exact k2 ha1 hb2 hc3 hc6 hc9 ha10 hb11
      · have hc9 : (P 1 q) ≠ 3 := hc9
        refine v_load (v := (0, (P 1 q))) (hz_X12_letterCost hT _ _ rfl) rfl rfl ?_
        refine v_push (4) (hz_X12_letterCost hT _ _ rfl) rfl ?_
        refine v_ic (hz_X12_letterCost hT _ _ rfl) (fun hc12 => ?_) (fun hc12 => ?_)
        · have hc12 : (P 1 q) = 4 := hc12
          refine v_push (3) (hz_X12_letterCost hT _ _ rfl) rfl ?_
          refine v_goto (hz_X12_letterCost hT _ _ rfl) ?_
          refine v_ret (hi_X12_letterCost_36 hT) (Or.inl rfl) ?_
          show vP D T N 215 11 h [some (2, 121), some (0, ((gJ P q : Nat) : Int))] [(0, 3)] _
          refine v_load (v := (2, 121)) (hi_X12_crumbsOf_11 hT) rfl rfl ?_
          refine v_getR (c := 126) (r := 121) (hi_X12_crumbsOf_12 hT) rfl rfl rfl ?_
          refine v_push (53) (hi_X12_crumbsOf_15 hT) rfl ?_
          refine v_load (v := (0, ((gJ P q : Nat) : Int))) (hi_X12_crumbsOf_17 hT) rfl rfl ?_
          refine v_bin (w := (53 + ((gJ P q : Nat) : Int))) (hi_X12_crumbsOf_18 hT) (hq_add (by omega) (by omega)) ?_
          refine v_aldB (t := 0) (r := 126) (w := (P 2 q)) (hi_X12_crumbsOf_19 hT) rfl rfl rfl (fun _ _ => (congrArg Prod.snd es)) (fun ha13 hb14 => ?_)
          refine v_bin (w := (3 + (P 2 q))) (hi_X12_crumbsOf_20 hT) (hq_add (by omega) (by omega)) ?_
          refine v_ret (hi_X12_crumbsOf_21 hT) (Or.inl rfl) ?_
          exact k3 ha1 hb2 hc3 hc6 hc9 hc12 ha13 hb14
        · have hc12 : (P 1 q) ≠ 4 := hc12
          refine v_push (4) (hz_X12_letterCost hT _ _ rfl) rfl ?_
          refine v_ret (hi_X12_letterCost_36 hT) (Or.inl rfl) ?_
          show vP D T N 215 11 h [some (2, 121), some (0, ((gJ P q : Nat) : Int))] [(0, 4)] _
          refine v_load (v := (2, 121)) (hi_X12_crumbsOf_11 hT) rfl rfl ?_
          refine v_getR (c := 126) (r := 121) (hi_X12_crumbsOf_12 hT) rfl rfl rfl ?_
          refine v_push (53) (hi_X12_crumbsOf_15 hT) rfl ?_
          refine v_load (v := (0, ((gJ P q : Nat) : Int))) (hi_X12_crumbsOf_17 hT) rfl rfl ?_
          refine v_bin (w := (53 + ((gJ P q : Nat) : Int))) (hi_X12_crumbsOf_18 hT) (hq_add (by omega) (by omega)) ?_
          refine v_aldB (t := 0) (r := 126) (w := (P 2 q)) (hi_X12_crumbsOf_19 hT) rfl rfl rfl (fun _ _ => (congrArg Prod.snd es)) (fun ha15 hb16 => ?_)
          refine v_bin (w := (4 + (P 2 q))) (hi_X12_crumbsOf_20 hT) (hq_add (by omega) (by omega)) ?_
          refine v_ret (hi_X12_crumbsOf_21 hT) (Or.inl rfl) ?_
          exact k4 ha1 hb2 hc3 hc6 hc9 hc12 ha15 hb16
theorem rb_cr2 {D : zD} {T : zT} (hT : hTab T) (hO : vOK T) {N : Nat} {h : zH} {Q : zR → Prop} {P : PT} (q : Nat) (gq : gIn P q) (el : h 126 (5 + ((gJ P q : Nat) : Int)).toNat = (0, P 1 q)) (es : h 126 (53 + ((gJ P q : Nat) : Int)).toNat = (0, P 2 q)) (hb : fB P) (k : Q (h, some (0, gCr P q))) : vP D T N 215 0 h [some (2, 121), some (0, ((gJ P q : Nat) : Int))] [] Q := by
  obtain ⟨b1, b2⟩ := hb.2.1 q gq.1
  refine vP_hv (fun hv => qr_cr2 hT hO hv el es gq (gJ_lt hb.1 gq) b1 b2 ?_ ?_ ?_ ?_ ?_) <;> (intros; exact cb_eq k (by unfold gCr crw; omega))
theorem qr_bi {D : zD} {T : zT} (hT : hTab T) (hO : vOK T) {N : Nat} {h : zH} {Q : zR → Prop} {P : PT} {j q : Nat} (hv0 : zHv h) (hR : rBk 0 P h) (hb : fB P) (hj : j < 3) (gq : gIn P q) (hn : gJ P q < 48)
    (k0 : ((P 3 (48 * j + q)) = 1) → Q (h, some (0, -1)))
    (k1 : ((P 3 (48 * j + q)) ≠ 1) → (0 ≤ ((101 + (48 * (j : Int))) + ((gJ P q : Nat) : Int))) → (((101 + (48 * (j : Int))) + ((gJ P q : Nat) : Int)) < 2750) → Q (zset (zset h 126 ((((101 + (48 * (j : Int))) + ((gJ P q : Nat) : Int))).toNat) (0, 1)) 126 4 (0, (wA ((P 0 4)) ((gCr P q)))), some (0, (gCr P q)))) :
    vP D T N 203 0 h [some (2, 121), some (0, (j : Int)), some (0, ((gJ P q : Nat) : Int))] [] Q := by
  refine v_load (v := (2, 121)) (hz_X12_bites hT _ _ rfl) rfl rfl ?_
  refine v_load (v := (0, (j : Int))) (hz_X12_bites hT _ _ rfl) rfl rfl ?_
  refine v_load (v := (0, ((gJ P q : Nat) : Int))) (hz_X12_bites hT _ _ rfl) rfl rfl ?_
  refine v_call (w := 3) [some (2, 121), some (0, (j : Int)), some (0, ((gJ P q : Nat) : Int))] hO (hz_X12_bites hT _ _ rfl) rfl rfl (rb_st hT hO ((j : Int)) j q rfl (by omega) gq hR hb ?_)
  show vP D T N 203 6 h [some (2, 121), some (0, (j : Int)), some (0, ((gJ P q : Nat) : Int))] [(0, (P 3 (48 * j + q)))] _
  refine v_push (1) (hz_X12_bites hT _ _ rfl) rfl ?_
  refine v_ic (hz_X12_bites hT _ _ rfl) (fun hc1 => ?_) (fun hc1 => ?_)
  · have hc1 : (P 3 (48 * j + q)) = 1 := hc1
    refine v_push (-1) (hz_X12_bites hT _ _ rfl) rfl ?_
    refine v_ret (hz_X12_bites hT _ _ rfl) (Or.inl rfl) ?_
    exact k0 hc1
  · have hc1 : (P 3 (48 * j + q)) ≠ 1 := hc1
    refine v_load (v := (2, 121)) (hz_X12_bites hT _ _ rfl) rfl rfl ?_
    refine v_getR (c := 126) (r := 121) (hz_X12_bites hT _ _ rfl) rfl rfl rfl ?_
    refine v_load (v := (0, (j : Int))) (hz_X12_bites hT _ _ rfl) rfl rfl ?_
    refine v_load (v := (0, ((gJ P q : Nat) : Int))) (hz_X12_bites hT _ _ rfl) rfl rfl ?_
    refine v_call (w := 2) [some (0, (j : Int)), some (0, ((gJ P q : Nat) : Int))] hO (hz_X12_bites hT _ _ rfl) rfl rfl ?_
    refine v_push (101) (hi_X12_state_0 hT) rfl ?_
    refine v_push (48) (hi_X12_state_2 hT) rfl ?_
    refine v_load (v := (0, (j : Int))) (hi_X12_state_4 hT) rfl rfl ?_
    refine v_bin (w := (48 * (j : Int))) (hi_X12_state_5 hT) (hq_mul (by omega) (by omega)) ?_
    refine v_bin (w := (101 + (48 * (j : Int)))) (hi_X12_state_6 hT) (hq_add (by omega) (by omega)) ?_
    refine v_load (v := (0, ((gJ P q : Nat) : Int))) (hi_X12_state_7 hT) rfl rfl ?_
    refine v_bin (w := ((101 + (48 * (j : Int))) + ((gJ P q : Nat) : Int))) (hi_X12_state_8 hT) (hq_add (by omega) (by omega)) ?_
    refine v_ret (hi_X12_state_9 hT) (Or.inl rfl) ?_
    show vP D T N 203 21 h [some (2, 121), some (0, (j : Int)), some (0, ((gJ P q : Nat) : Int))] [(0, ((101 + (48 * (j : Int))) + ((gJ P q : Nat) : Int))), (2, 126)] _
    refine v_push (1) (hz_X12_bites hT _ _ rfl) rfl ?_
    refine v_ast (r := 126) (hz_X12_bites hT _ _ rfl) rfl rfl (fun ha2 hb3 hf4 => ?_)
    refine v_load (v := (2, 121)) (hz_X12_bites hT _ _ rfl) rfl rfl ?_
    refine v_getR (c := 126) (r := 121) (hz_X12_bites hT _ _ rfl) rfl rfl rfl ?_
    refine v_push (4) (hz_X12_bites hT _ _ rfl) rfl ?_
    refine v_dupd (hz_X12_bites hT _ _ rfl) (Nat.ne_of_beq_eq_false rfl) (Nat.ne_of_beq_eq_false rfl) ?_
    refine v_aldV (v := (0, (P 0 4))) (r := 126) (hz_X12_bites hT _ _ rfl) rfl rfl (fun _ _ _ => (Eq.trans (zset_ne (fun c => by omega)) (hR.e))) (fun ha5 hb6 => ?_)
    refine v_load (v := (2, 121)) (hz_X12_bites hT _ _ rfl) rfl rfl ?_
    refine v_load (v := (0, ((gJ P q : Nat) : Int))) (hz_X12_bites hT _ _ rfl) rfl rfl ?_
    refine v_call (w := 2) [some (2, 121), some (0, ((gJ P q : Nat) : Int))] hO (hz_X12_bites hT _ _ rfl) rfl rfl (rb_cr2 hT hO q gq ((zset_ne (fun c => by omega)).trans (hR.l gq)) ((zset_ne (fun c => by omega)).trans (hR.s gq)) hb ?_)
    show vP D T N 203 35 (zset h 126 ((((101 + (48 * (j : Int))) + ((gJ P q : Nat) : Int))).toNat) (0, 1)) [some (2, 121), some (0, (j : Int)), some (0, ((gJ P q : Nat) : Int))] [(0, (gCr P q)), (0, (P 0 4)), (0, 4), (2, 126)] _
    refine v_bin (w := (wA ((P 0 4)) ((gCr P q)))) (hz_X12_bites hT _ _ rfl) rfl ?_
    refine v_ast (r := 126) (hz_X12_bites hT _ _ rfl) rfl rfl (fun ha7 hb8 hf9 => ?_)
    refine v_load (v := (2, 121)) (hz_X12_bites hT _ _ rfl) rfl rfl ?_
    refine v_load (v := (0, ((gJ P q : Nat) : Int))) (hz_X12_bites hT _ _ rfl) rfl rfl ?_
    refine v_call (w := 2) [some (2, 121), some (0, ((gJ P q : Nat) : Int))] hO (hz_X12_bites hT _ _ rfl) rfl rfl (rb_cr2 hT hO q gq ((zset_ne (fun c => by omega)).trans ((zset_ne (fun c => by omega)).trans (hR.l gq))) ((zset_ne (fun c => by omega)).trans ((zset_ne (fun c => by omega)).trans (hR.s gq))) hb ?_)
    show vP D T N 203 42 (zset (zset h 126 ((((101 + (48 * (j : Int))) + ((gJ P q : Nat) : Int))).toNat) (0, 1)) 126 4 (0, (wA ((P 0 4)) ((gCr P q))))) [some (2, 121), some (0, (j : Int)), some (0, ((gJ P q : Nat) : Int))] [(0, (gCr P q))] _
    refine v_ret (hz_X12_bites hT _ _ rfl) (Or.inl rfl) ?_
    exact k1 hc1 ha2 hb3
theorem rb_bi {D : zD} {T : zT} (hT : hTab T) (hO : vOK T) {N : Nat} {h : zH} {Q : zR → Prop} {P : PT} (x : Int) (j q : Nat) (ex : x = (j : Int)) (hj : j < 3) (gq : gIn P q) (hR : rBk 0 P h) (hb : fB P) (k1 : P 3 (48 * j + q) = 1 → Q (h, some (0, -1))) (k2 : P 3 (48 * j + q) ≠ 1 → ∀ g, rBk 0 (pBite P j q) g → bFr h g → Q (g, some (0, gCr P q))) : vP D T N 203 0 h [some (2, 121), some (0, x), some (0, ((gJ P q : Nat) : Int))] [] Q := by
  subst ex
  have hn := gJ_lt hb.1 gq
  refine vP_hv (fun hv => qr_bi hT hO hv hR hb hj gq hn ?_ ?_)
  · intro c
    exact k1 c
  · intro c _ _
    exact k2 c _ (hR.s3 hb.1 hj gq).s04 (bFr.z (by omega) (bFr.z (by omega) (fun _ _ _ => rfl)))
theorem qr_mo {D : zD} {T : zT} (hT : hTab T) (hO : vOK T) {N : Nat} {h : zH} {Q : zR → Prop} {P : PT} {j q : Nat} (hv0 : zHv h) (hR : rBk 0 P h) (hb : fB P) (hj : j < 3) (gq : gIn P q) (hn : gJ P q < 48) (bs : 0 ≤ P 3 (48 * j + q) ∧ P 3 (48 * j + q) ≤ 3)
    (k0 : ((P 3 (48 * j + q)) = 0) → (0 ≤ ((101 + (48 * (j : Int))) + ((gJ P q : Nat) : Int))) → (((101 + (48 * (j : Int))) + ((gJ P q : Nat) : Int)) < 2750) → Q (zset h 126 ((((101 + (48 * (j : Int))) + ((gJ P q : Nat) : Int))).toNat) (0, 2), some (0, 1)))
    (k1 : ((P 3 (48 * j + q)) ≠ 0) → Q (h, some (0, 0))) :
    vP D T N 280 0 h [some (2, 121), some (0, (j : Int)), some (0, ((gJ P q : Nat) : Int))] [] Q := by
  refine v_load (v := (2, 121)) (hz_X12_moulds hT _ _ rfl) rfl rfl ?_
  refine v_load (v := (0, (j : Int))) (hz_X12_moulds hT _ _ rfl) rfl rfl ?_
  refine v_load (v := (0, ((gJ P q : Nat) : Int))) (hz_X12_moulds hT _ _ rfl) rfl rfl ?_
  refine v_call (w := 3) [some (2, 121), some (0, (j : Int)), some (0, ((gJ P q : Nat) : Int))] hO (hz_X12_moulds hT _ _ rfl) rfl rfl (rb_st hT hO ((j : Int)) j q rfl (by omega) gq hR hb ?_)
  show vP D T N 280 6 h [some (2, 121), some (0, (j : Int)), some (0, ((gJ P q : Nat) : Int))] [(0, (P 3 (48 * j + q)))] _
  refine v_if (hz_X12_moulds hT _ _ rfl) (fun hc1 => ?_) (fun hc1 => ?_)
  · have hc1 : (P 3 (48 * j + q)) = 0 := hc1
    refine v_load (v := (2, 121)) (hz_X12_moulds hT _ _ rfl) rfl rfl ?_
    refine v_getR (c := 126) (r := 121) (hz_X12_moulds hT _ _ rfl) rfl rfl rfl ?_
    refine v_load (v := (0, (j : Int))) (hz_X12_moulds hT _ _ rfl) rfl rfl ?_
    refine v_load (v := (0, ((gJ P q : Nat) : Int))) (hz_X12_moulds hT _ _ rfl) rfl rfl ?_
    refine v_call (w := 2) [some (0, (j : Int)), some (0, ((gJ P q : Nat) : Int))] hO (hz_X12_moulds hT _ _ rfl) rfl rfl ?_
    refine v_push (101) (hi_X12_state_0 hT) rfl ?_
    refine v_push (48) (hi_X12_state_2 hT) rfl ?_
    refine v_load (v := (0, (j : Int))) (hi_X12_state_4 hT) rfl rfl ?_
    refine v_bin (w := (48 * (j : Int))) (hi_X12_state_5 hT) (hq_mul (by omega) (by omega)) ?_
    refine v_bin (w := (101 + (48 * (j : Int)))) (hi_X12_state_6 hT) (hq_add (by omega) (by omega)) ?_
    refine v_load (v := (0, ((gJ P q : Nat) : Int))) (hi_X12_state_7 hT) rfl rfl ?_
    refine v_bin (w := ((101 + (48 * (j : Int))) + ((gJ P q : Nat) : Int))) (hi_X12_state_8 hT) (hq_add (by omega) (by omega)) ?_
    refine v_ret (hi_X12_state_9 hT) (Or.inl rfl) ?_
    show vP D T N 280 20 h [some (2, 121), some (0, (j : Int)), some (0, ((gJ P q : Nat) : Int))] [(0, ((101 + (48 * (j : Int))) + ((gJ P q : Nat) : Int))), (2, 126)] _
    refine v_push (2) (hz_X12_moulds hT _ _ rfl) rfl ?_
    refine v_ast (r := 126) (hz_X12_moulds hT _ _ rfl) rfl rfl (fun ha2 hb3 hf4 => ?_)
    refine v_push (1) (hz_X12_moulds hT _ _ rfl) rfl ?_
    refine v_ret (hz_X12_moulds hT _ _ rfl) (Or.inl rfl) ?_
    exact k0 hc1 ha2 hb3
  · have hc1 : (P 3 (48 * j + q)) ≠ 0 := hc1
    refine v_push (0) (hz_X12_moulds hT _ _ rfl) rfl ?_
    refine v_ret (hz_X12_moulds hT _ _ rfl) (Or.inl rfl) ?_
    exact k1 hc1
theorem rb_mo {D : zD} {T : zT} (hT : hTab T) (hO : vOK T) {N : Nat} {h : zH} {Q : zR → Prop} {P : PT} (x : Int) (j q : Nat) (ex : x = (j : Int)) (hj : j < 3) (gq : gIn P q) (hR : rBk 0 P h) (hb : fB P) (k1 : P 3 (48 * j + q) ≠ 0 → Q (h, some (0, 0))) (k2 : P 3 (48 * j + q) = 0 → ∀ g, rBk 0 (pSt P j q 2) g → bFr h g → Q (g, some (0, 1))) : vP D T N 280 0 h [some (2, 121), some (0, x), some (0, ((gJ P q : Nat) : Int))] [] Q := by
  subst ex
  have hn := gJ_lt hb.1 gq
  have q48 := gq.1
  have bs := hb.2.2.1 (48 * j + q) (by omega)
  refine vP_hv (fun hv => qr_mo hT hO hv hR hb hj gq hn bs ?_ ?_) <;> intros
  all_goals first
    | exact k1 (by omega)
    | exact k2 (by omega) _ (hR.s3 hb.1 hj gq) (bFr.z (by omega) (fun _ _ _ => rfl))
theorem qr_ho {D : zD} {T : zT} (hT : hTab T) (hO : vOK T) {N : Nat} {h : zH} {Q : zR → Prop} {P : PT} {j q : Nat} (hv0 : zHv h) (hR : rBk 0 P h) (hb : fB P) (hj : j < 3) (gq : gIn P q) (hn : gJ P q < 48) (bs : 0 ≤ P 3 (48 * j + q) ∧ P 3 (48 * j + q) ≤ 3)
    (k0 : (((P 3 (48 * j + q)) % 2) = 1) → Q (h, some (0, 0)))
    (k1 : (((P 3 (48 * j + q)) % 2) ≠ 1) → (0 ≤ ((101 + (48 * (j : Int))) + ((gJ P q : Nat) : Int))) → (((101 + (48 * (j : Int))) + ((gJ P q : Nat) : Int)) < 2750) → Q (zset h 126 ((((101 + (48 * (j : Int))) + ((gJ P q : Nat) : Int))).toNat) (0, 3), some (0, 1))) :
    vP D T N 240 0 h [some (2, 121), some (0, (j : Int)), some (0, ((gJ P q : Nat) : Int))] [] Q := by
  refine v_load (v := (2, 121)) (hz_X12_honeys hT _ _ rfl) rfl rfl ?_
  refine v_load (v := (0, (j : Int))) (hz_X12_honeys hT _ _ rfl) rfl rfl ?_
  refine v_load (v := (0, ((gJ P q : Nat) : Int))) (hz_X12_honeys hT _ _ rfl) rfl rfl ?_
  refine v_call (w := 3) [some (2, 121), some (0, (j : Int)), some (0, ((gJ P q : Nat) : Int))] hO (hz_X12_honeys hT _ _ rfl) rfl rfl (rb_st hT hO ((j : Int)) j q rfl (by omega) gq hR hb ?_)
  show vP D T N 240 6 h [some (2, 121), some (0, (j : Int)), some (0, ((gJ P q : Nat) : Int))] [(0, (P 3 (48 * j + q)))] _
  refine v_push (2) (hz_X12_honeys hT _ _ rfl) rfl ?_
  refine v_div (w := ((P 3 (48 * j + q)) % 2)) (hz_X12_honeys hT _ _ rfl) (fun _ => hq_rem (by omega) (by omega) (by omega) (by omega)) (fun hc1 => ?_)
  refine v_push (1) (hz_X12_honeys hT _ _ rfl) rfl ?_
  refine v_ic (hz_X12_honeys hT _ _ rfl) (fun hc2 => ?_) (fun hc2 => ?_)
  · have hc2 : ((P 3 (48 * j + q)) % 2) = 1 := hc2
    refine v_push (0) (hz_X12_honeys hT _ _ rfl) rfl ?_
    refine v_ret (hz_X12_honeys hT _ _ rfl) (Or.inl rfl) ?_
    exact k0 hc2
  · have hc2 : ((P 3 (48 * j + q)) % 2) ≠ 1 := hc2
    refine v_load (v := (2, 121)) (hz_X12_honeys hT _ _ rfl) rfl rfl ?_
    refine v_getR (c := 126) (r := 121) (hz_X12_honeys hT _ _ rfl) rfl rfl rfl ?_
    refine v_load (v := (0, (j : Int))) (hz_X12_honeys hT _ _ rfl) rfl rfl ?_
    refine v_load (v := (0, ((gJ P q : Nat) : Int))) (hz_X12_honeys hT _ _ rfl) rfl rfl ?_
    refine v_call (w := 2) [some (0, (j : Int)), some (0, ((gJ P q : Nat) : Int))] hO (hz_X12_honeys hT _ _ rfl) rfl rfl ?_
    refine v_push (101) (hi_X12_state_0 hT) rfl ?_
    refine v_push (48) (hi_X12_state_2 hT) rfl ?_
    refine v_load (v := (0, (j : Int))) (hi_X12_state_4 hT) rfl rfl ?_
    refine v_bin (w := (48 * (j : Int))) (hi_X12_state_5 hT) (hq_mul (by omega) (by omega)) ?_
    refine v_bin (w := (101 + (48 * (j : Int)))) (hi_X12_state_6 hT) (hq_add (by omega) (by omega)) ?_
    refine v_load (v := (0, ((gJ P q : Nat) : Int))) (hi_X12_state_7 hT) rfl rfl ?_
    refine v_bin (w := ((101 + (48 * (j : Int))) + ((gJ P q : Nat) : Int))) (hi_X12_state_8 hT) (hq_add (by omega) (by omega)) ?_
    refine v_ret (hi_X12_state_9 hT) (Or.inl rfl) ?_
    show vP D T N 240 23 h [some (2, 121), some (0, (j : Int)), some (0, ((gJ P q : Nat) : Int))] [(0, ((101 + (48 * (j : Int))) + ((gJ P q : Nat) : Int))), (2, 126)] _
    refine v_push (3) (hz_X12_honeys hT _ _ rfl) rfl ?_
    refine v_ast (r := 126) (hz_X12_honeys hT _ _ rfl) rfl rfl (fun ha3 hb4 hf5 => ?_)
    refine v_push (1) (hz_X12_honeys hT _ _ rfl) rfl ?_
    refine v_ret (hz_X12_honeys hT _ _ rfl) (Or.inl rfl) ?_
    exact k1 hc2 ha3 hb4
theorem rb_ho {D : zD} {T : zT} (hT : hTab T) (hO : vOK T) {N : Nat} {h : zH} {Q : zR → Prop} {P : PT} (x : Int) (j q : Nat) (ex : x = (j : Int)) (hj : j < 3) (gq : gIn P q) (hR : rBk 0 P h) (hb : fB P) (k1 : (P 3 (48 * j + q) ≠ 0 ∧ P 3 (48 * j + q) ≠ 2) → Q (h, some (0, 0))) (k2 : (P 3 (48 * j + q) = 0 ∨ P 3 (48 * j + q) = 2) → ∀ g, rBk 0 (pSt P j q 3) g → bFr h g → Q (g, some (0, 1))) : vP D T N 240 0 h [some (2, 121), some (0, x), some (0, ((gJ P q : Nat) : Int))] [] Q := by
  subst ex
  have hn := gJ_lt hb.1 gq
  have q48 := gq.1
  have bs := hb.2.2.1 (48 * j + q) (by omega)
  refine vP_hv (fun hv => qr_ho hT hO hv hR hb hj gq hn bs ?_ ?_) <;> intros
  all_goals first
    | exact k1 (by omega)
    | exact k2 (by omega) _ (hR.s3 hb.1 hj gq) (bFr.z (by omega) (fun _ _ _ => rfl))
end
section
/-! A MARCH, PURE -/
def pMove (P : PT) (m q : Nat) : PT := pset (pset P 6 m (q : Int)) 9 m (wA (P 9 m) (gGr P q))
def pGo (P : PT) (m : Nat) (p : Nat → Nat) : Nat → PT
  | 0 => P
  | i + 1 => pMove (pGo P m p i) m (p (i + 1))
def wStop (P : PT) (p : Nat → Nat) : Nat → Nat → Nat
  | 0, i => i
  | f + 1, i => if P 1 (p (i + 1)) = 3 then i else wStop P p f (i + 1)
theorem pGo_1 {P : PT} {m : Nat} {p : Nat → Nat} : ∀ (i a k : Nat), a ≠ 6 → a ≠ 9 → pGo P m p i a k = P a k
  | 0, _, _, _, _ => rfl
  | i + 1, a, k, h6, h9 => by
    show pset (pset (pGo P m p i) 6 m ((p (i + 1) : Nat) : Int)) 9 m _ a k = P a k
    rw [pset_ne (fun c => h9 c.1), pset_ne (fun c => h6 c.1)]
    exact pGo_1 i a k h6 h9
theorem gIn_go {P : PT} {m : Nat} {p : Nat → Nat} {i q : Nat} : gIn (pGo P m p i) q ↔ gIn P q := by
  unfold gIn
  rw [pGo_1 i 0 0 (by decide) (by decide), pGo_1 i 0 1 (by decide) (by decide)]
theorem gJ_go {P : PT} {m : Nat} {p : Nat → Nat} {i q : Nat} : gJ (pGo P m p i) q = gJ P q := by
  unfold gJ
  rw [pGo_1 i 0 0 (by decide) (by decide)]
theorem fB_go {P : PT} {m : Nat} {p : Nat → Nat} (hb : fB P) : ∀ i : Nat, (∀ k, 1 ≤ k → k ≤ i → gIn P (p k)) → fB (pGo P m p i)
  | 0, _ => hb
  | i + 1, h => by
    have ih := fB_go (m := m) hb i (fun k h1 h2 => h k h1 (by omega))
    exact (ih.s6 (gIn_go.mpr (h (i + 1) (by omega) (Nat.le_refl _)))).s9
theorem wStop_b {P : PT} {p : Nat → Nat} : ∀ (f i : Nat), i ≤ wStop P p f i ∧ wStop P p f i ≤ i + f
  | 0, i => ⟨Nat.le_refl _, Nat.le_refl _⟩
  | f + 1, i => by
    show i ≤ (if P 1 (p (i + 1)) = 3 then i else wStop P p f (i + 1)) ∧ (if P 1 (p (i + 1)) = 3 then i else wStop P p f (i + 1)) ≤ i + (f + 1)
    have := wStop_b (P := P) (p := p) f (i + 1)
    split <;> omega
theorem qk_ld0_24 {D : zD} {T : zT} (hT : hTab T) (hO : vOK T) {N : Nat} {h : zH} {Q : zR → Prop} {m : Nat} (hv0 : zHv h)
    (k0 : vP D T N 133 2 h [some (2, 100), some (2, 24), some (0, (m : Int)), some (0, 1)] [] Q) :
    vP D T N 133 0 h [some (2, 100), some (2, 24), some (0, (m : Int)), none] [] Q := by
  refine v_push (1) (hz_X10_lead hT _ _ rfl) rfl ?_
  refine v_store1 [some (2, 100), some (2, 24), some (0, (m : Int)), some (0, 1)] (hz_X10_lead hT _ _ rfl) ⟨rfl, Nat.ne_of_beq_eq_false rfl⟩ (Nat.le_of_ble_eq_true rfl) rfl ?_
  exact k0 
theorem qk_ld2_24 {D : zD} {T : zT} (hT : hTab T) (hO : vOK T) {N : Nat} {h : zH} {Q : zR → Prop} {P : PT} {m s n b : Nat} (hv0 : zHv h) (hP : cP 24 P h) (hb : fB P) (hm : (m : Int) < P 0 3) (m6 : m < 6) (e7 : h 100 7 = (0, (n : Int))) (e4 : h 104 s = (0, (b : Int))) (b48 : b < 48) (hs : s < 48) (hsn : (s : Int) ≤ (n : Int))
    (k0 : (0 ≤ (s : Int)) → ((s : Int) < 48) → (0 ≤ (b : Int)) → ((b : Int) < 48) → ((P 1 b) = 3) → Q (h, some (0, ((s : Int) - 1))))
    (k1 : (0 ≤ (s : Int)) → ((s : Int) < 48) → (0 ≤ (b : Int)) → ((b : Int) < 48) → ((P 1 b) ≠ 3) → (0 ≤ (m : Int)) → ((m : Int) < 6) → vP D T N 133 2 (zset (zset h 30 (((m : Int)).toNat) (0, (b : Int))) 33 (((m : Int)).toNat) (0, (wA ((P 9 m)) ((gGr P b))))) [some (2, 100), some (2, 24), some (0, (m : Int)), some (0, ((s : Int) + 1))] [] Q) :
    vP D T (N + 1) 133 2 h [some (2, 100), some (2, 24), some (0, (m : Int)), some (0, (s : Int))] [] Q := by
  refine v_loadS (v := (0, (s : Int))) (hi_X10_lead_2 hT) rfl rfl ?_
  refine v_load (v := (2, 100)) (hi_X10_lead_3 hT) rfl rfl ?_
  refine v_getf (v := (0, (n : Int))) (r := 100) (hi_X10_lead_4 hT) rfl rfl (fun _ => e7) ?_
  refine v_ic (hi_X10_lead_7 hT) (fun hc1 => absurd (show (n : Int) < (s : Int) from hc1) (by omega)) (fun _ => ?_)
  refine v_load (v := (2, 24)) (hz_X10_lead hT _ _ rfl) rfl rfl ?_
  refine v_load (v := (2, 100)) (hz_X10_lead hT _ _ rfl) rfl rfl ?_
  refine v_getR (c := 104) (r := 100) (hz_X10_lead hT _ _ rfl) rfl rfl rfl ?_
  refine v_load (v := (0, (s : Int))) (hz_X10_lead hT _ _ rfl) rfl rfl ?_
  refine v_aldB (t := 0) (r := 104) (w := (b : Int)) (hz_X10_lead hT _ _ rfl) rfl rfl rfl (fun _ _ => (congrArg Prod.snd e4)) (fun ha2 hb3 => ?_)
  refine v_call (w := 2) [some (2, 24), some (0, (b : Int))] hO (hz_X10_lead hT _ _ rfl) rfl rfl ?_
  refine v_load (v := (2, 24)) (hi_X2_isWater_0 hT) rfl rfl ?_
  refine v_getR (c := 25) (r := 24) (hi_X2_isWater_1 hT) rfl rfl rfl ?_
  refine v_load (v := (0, (b : Int))) (hi_X2_isWater_4 hT) rfl rfl ?_
  refine v_aldB (t := 0) (r := 25) (w := (P 1 b)) (hi_X2_isWater_5 hT) rfl rfl rfl (fun _ _ => (congrArg Prod.snd (hP.2.1 b (by omega)))) (fun ha4 hb5 => ?_)
  refine v_push (3) (hi_X2_isWater_6 hT) rfl ?_
  refine v_ic (hi_X2_isWater_7 hT) (fun hc6 => ?_) (fun hc6 => ?_)
  · have hc6 : (P 1 b) = 3 := hc6
    refine v_push (1) (hi_X2_isWater_10 hT) rfl ?_
    refine v_goto (hi_X2_isWater_11 hT) ?_
    refine v_ret (hi_X2_isWater_15 hT) (Or.inl rfl) ?_
    show vP D T N 133 20 h [some (2, 100), some (2, 24), some (0, (m : Int)), some (0, (s : Int))] [(0, 1)] _
    refine v_if (hi_X10_lead_20 hT) (fun hc7 => absurd (show (1 : Int) = 0 from hc7) (by decide)) (fun _ => ?_)
    refine v_load (v := (0, (s : Int))) (hz_X10_lead hT _ _ rfl) rfl rfl ?_
    refine v_push (1) (hz_X10_lead hT _ _ rfl) rfl ?_
    refine v_bin (w := ((s : Int) - 1)) (hz_X10_lead hT _ _ rfl) (hq_sub (by omega) (by omega)) ?_
    refine v_ret (hz_X10_lead hT _ _ rfl) (Or.inl rfl) ?_
    exact k0 ha2 hb3 ha4 hb5 hc6
  · have hc6 : (P 1 b) ≠ 3 := hc6
    refine v_push (0) (hi_X2_isWater_14 hT) rfl ?_
    refine v_ret (hi_X2_isWater_15 hT) (Or.inl rfl) ?_
    show vP D T N 133 20 h [some (2, 100), some (2, 24), some (0, (m : Int)), some (0, (s : Int))] [(0, 0)] _
    refine v_if (hi_X10_lead_20 hT) (fun _ => ?_) (fun hc8 => absurd (show (0 : Int) = 0 from (by decide)) hc8)
    refine v_load (v := (2, 24)) (hz_X10_lead hT _ _ rfl) rfl rfl ?_
    refine v_getR (c := 30) (r := 24) (hz_X10_lead hT _ _ rfl) rfl rfl rfl ?_
    refine v_load (v := (0, (m : Int))) (hz_X10_lead hT _ _ rfl) rfl rfl ?_
    refine v_load (v := (2, 100)) (hz_X10_lead hT _ _ rfl) rfl rfl ?_
    refine v_getR (c := 104) (r := 100) (hz_X10_lead hT _ _ rfl) rfl rfl rfl ?_
    refine v_load (v := (0, (s : Int))) (hz_X10_lead hT _ _ rfl) rfl rfl ?_
    refine v_aldB (t := 0) (r := 104) (w := (b : Int)) (hz_X10_lead hT _ _ rfl) rfl rfl rfl (fun _ _ => (congrArg Prod.snd e4)) (fun ha9 hb10 => ?_)
    refine v_ast (r := 30) (hz_X10_lead hT _ _ rfl) rfl rfl (fun ha11 hb12 hf13 => ?_)
    refine v_load (v := (2, 24)) (hz_X10_lead hT _ _ rfl) rfl rfl ?_
    refine v_getR (c := 33) (r := 24) (hz_X10_lead hT _ _ rfl) rfl rfl rfl ?_
    refine v_load (v := (0, (m : Int))) (hz_X10_lead hT _ _ rfl) rfl rfl ?_
    refine v_dupd (hz_X10_lead hT _ _ rfl) (Nat.ne_of_beq_eq_false rfl) (Nat.ne_of_beq_eq_false rfl) ?_
    refine v_aldB (t := 0) (r := 33) (w := (P 9 m)) (hz_X10_lead hT _ _ rfl) rfl rfl rfl (fun _ _ => (congrArg Prod.snd ((zset_ne (fun c => absurd c.1 (by decide))).trans ((cP.a9 hP) m (by omega))))) (fun ha14 hb15 => ?_)
    refine v_load (v := (2, 24)) (hz_X10_lead hT _ _ rfl) rfl rfl ?_
    refine v_load (v := (2, 100)) (hz_X10_lead hT _ _ rfl) rfl rfl ?_
    refine v_getR (c := 104) (r := 100) (hz_X10_lead hT _ _ rfl) rfl rfl rfl ?_
    refine v_load (v := (0, (s : Int))) (hz_X10_lead hT _ _ rfl) rfl rfl ?_
    refine v_aldB (t := 0) (r := 104) (w := (b : Int)) (hz_X10_lead hT _ _ rfl) rfl rfl rfl (fun _ _ => (congrArg Prod.snd ((zset_ne (fun c => absurd c.1 (by decide))).trans e4))) (fun ha16 hb17 => ?_)
    refine v_call (w := 2) [some (2, 24), some (0, (b : Int))] hO (hz_X10_lead hT _ _ rfl) rfl rfl (cb_gr_24 hT hO ((b : Int)) b rfl (by omega) hb (fun i hi => (zset_ne (fun c => absurd c.1 (by decide))).trans (hP.2.1 i hi)) (fun i hi => (zset_ne (fun c => absurd c.1 (by decide))).trans (hP.2.2.1 i hi)) ?_)
    show vP D T N 133 56 (zset h 30 (((m : Int)).toNat) (0, (b : Int))) [some (2, 100), some (2, 24), some (0, (m : Int)), some (0, (s : Int))] [(0, (gGr P b)), (0, (P 9 m)), (0, (m : Int)), (2, 33)] _
    refine v_bin (w := (wA ((P 9 m)) ((gGr P b)))) (hz_X10_lead hT _ _ rfl) rfl ?_
    refine v_ast (r := 33) (hz_X10_lead hT _ _ rfl) rfl rfl (fun ha18 hb19 hf20 => ?_)
    refine v_iinc (x := (s : Int)) (u := 1) (w := ((s : Int) + 1)) [some (2, 100), some (2, 24), some (0, (m : Int)), some (0, ((s : Int) + 1))] (hz_X10_lead hT _ _ rfl) rfl rfl (Nat.le_of_ble_eq_true rfl) (vz_inc (by omega) (by omega)) rfl ?_
    refine v_goto (hz_X10_lead hT _ _ rfl) ?_
    exact k1 ha2 hb3 ha4 hb5 hc6 ha11 hb12
theorem qk_ld9_24 {D : zD} {T : zT} (hT : hTab T) (hO : vOK T) {N : Nat} {h : zH} {Q : zR → Prop} {P : PT} {m n : Nat} (hv0 : zHv h) (e7 : h 100 7 = (0, (n : Int)))
    (k0 : Q (h, some (0, (n : Int)))) :
    vP D T (N + 1) 133 2 h [some (2, 100), some (2, 24), some (0, (m : Int)), some (0, ((n + 1 : Nat) : Int))] [] Q := by
  refine v_loadS (v := (0, ((n + 1 : Nat) : Int))) (hi_X10_lead_2 hT) rfl rfl ?_
  refine v_load (v := (2, 100)) (hi_X10_lead_3 hT) rfl rfl ?_
  refine v_getf (v := (0, (n : Int))) (r := 100) (hi_X10_lead_4 hT) rfl rfl (fun _ => e7) ?_
  refine v_ic (hi_X10_lead_7 hT) (fun _ => ?_) (fun hc1 => absurd (show (n : Int) < ((n + 1 : Nat) : Int) from (by omega)) hc1)
  refine v_load (v := (2, 100)) (hz_X10_lead hT _ _ rfl) rfl rfl ?_
  refine v_getf (v := (0, (n : Int))) (r := 100) (hz_X10_lead hT _ _ rfl) rfl rfl (fun _ => e7) ?_
  refine v_ret (hz_X10_lead hT _ _ rfl) (Or.inl rfl) ?_
  exact k0 
/-- lead() -/
theorem cx_ld_24 {D : zD} {T : zT} (hT : hTab T) (hO : vOK T) {N : Nat} {h : zH} {Q : zR → Prop} {P : PT} {p : Nat → Nat} {n : Nat} (x : Int) (m : Nat) (ex : x = (m : Int)) (hP : cP 24 P h) (hb : fB P) (hm : (m : Int) < P 0 3) (hn : n ≤ 47) (hp : tHp p n h) (hg : ∀ i, i ≤ n → gIn P (p i)) (k : ∀ g : zH, cP 24 (pGo P m p (wStop P p n 0)) g → cFr 24 h g → Q (g, some (0, ((wStop P p n 0 : Nat) : Int)))) : vP D T N 133 0 h [some (2, 100), some (2, 24), some (0, x), none] [] Q := by
  subst ex
  have m6 : m < 6 := by have := hb.1.2.2.2.2; omega
  refine vP_hv (fun hv => qk_ld0_24 hT hO hv ?_)
  refine vP_loop (fun h' l => ∃ i : Nat, i ≤ n ∧ l = [some (2, 100), some (2, 24), some (0, (m : Int)), some (0, ((i + 1 : Nat) : Int))] ∧ cP 24 (pGo P m p i) h' ∧ cFr 24 h h' ∧ wStop P p (n - i) i = wStop P p n 0) ?_ N h _ ⟨0, Nat.zero_le _, rfl, hP, fun _ _ _ => rfl, rfl⟩
  rintro N h' l ⟨i, hi, rfl, hP', hf, hs⟩ ih
  have hb' := fB_go (m := m) hb i (fun k _ h2 => hg k (by omega))
  have e7 : h' 100 7 = (0, (n : Int)) := (hf _ _ (by omega)).trans hp.2.1
  by_cases c : i < n
  · have gb := hg (i + 1) (by omega)
    have e4 : h' 104 (i + 1) = (0, ((p (i + 1) : Nat) : Int)) := (hf _ _ (by omega)).trans (hp.1 (i + 1) (by omega))
    have hm' : (m : Int) < pGo P m p i 0 3 := by rw [pGo_1 i 0 3 (by decide) (by decide)]; exact hm
    have hs' : wStop P p (n - i) i = if P 1 (p (i + 1)) = 3 then i else wStop P p (n - (i + 1)) (i + 1) := by
      rw [show n - i = (n - (i + 1)) + 1 by omega]
      rfl
    refine vP_hv (fun hv' => qk_ld2_24 hT hO (P := pGo P m p i) (m := m) (s := i + 1) (n := n) (b := p (i + 1)) hv' hP' hb' hm' m6 e7 e4 gb.1 (by omega) (by omega) ?_ ?_)
    · intro _ _ _ _ c2
      rw [pGo_1 i 1 _ (by decide) (by decide)] at c2
      rw [if_pos c2] at hs'
      have e : wStop P p n 0 = i := by omega
      rw [show ((i + 1 : Nat) : Int) - 1 = ((wStop P p n 0 : Nat) : Int) by omega]
      refine k h' ?_ hf
      rw [e]
      exact hP'
    · intro _ _ _ _ c2 _ _
      rw [pGo_1 i 1 _ (by decide) (by decide)] at c2
      rw [if_neg c2] at hs'
      exact ih _ _ ⟨i + 1, by omega, rfl, hP'.s6.s9, cFr.z (by omega) (cFr.z (by omega) hf), by omega⟩
  · have e : i = n := by omega
    subst e
    have e2 : wStop P p i 0 = i := by
      rw [← hs, Nat.sub_self]
      rfl
    refine vP_hv (fun hv' => qk_ld9_24 hT hO (P := P) (m := m) (n := i) hv' e7 ?_)
    rw [show ((i : Nat) : Int) = ((wStop P p i 0 : Nat) : Int) by rw [e2]]
    refine k h' ?_ hf
    rw [e2]
    exact hP'
end
section
theorem qr_tc0 {D : zD} {T : zT} (hT : hTab T) (hO : vOK T) {N : Nat} {h : zH} {Q : zR → Prop} {P : PT} {m : Nat} (hv0 : zHv h) (hR : rBk 0 P h) (hm : (m : Int) < P 0 3) (m6 : m < 6) (eb : h 126 (263 + (m : Int)).toNat = (0, P 8 m)) (ea : h 126 (245 + (m : Int)).toNat = (0, ((gJ P (P 6 m).toNat : Nat) : Int))) (eg : h 126 (251 + (m : Int)).toNat = (0, ((gJ P (P 7 m).toNat : Nat) : Int)))
    (k0 : (0 ≤ (263 + (m : Int))) → ((263 + (m : Int)) < 2750) → (0 ≤ (245 + (m : Int))) → ((245 + (m : Int)) < 2750) → (0 ≤ (251 + (m : Int))) → ((251 + (m : Int)) < 2750) → vP D T N 324 0 h [some (2, 121), some (0, (P 8 m)), some (0, ((gJ P (P 6 m).toNat : Nat) : Int)), some (0, ((gJ P (P 7 m).toNat : Nat) : Int)), none, none, none] [] (fun r1 => vP D T N 323 34 r1.1 [some (2, 121), some (0, (m : Int))] (zpush r1.2 []) Q)) :
    vP D T N 323 0 h [some (2, 121), some (0, (m : Int))] [] Q := by
  refine v_load (v := (2, 121)) (hz_X12_tellCompany hT _ _ rfl) rfl rfl ?_
  refine v_load (v := (2, 121)) (hz_X12_tellCompany hT _ _ rfl) rfl rfl ?_
  refine v_getR (c := 126) (r := 121) (hz_X12_tellCompany hT _ _ rfl) rfl rfl rfl ?_
  refine v_push (263) (hz_X12_tellCompany hT _ _ rfl) rfl ?_
  refine v_load (v := (0, (m : Int))) (hz_X12_tellCompany hT _ _ rfl) rfl rfl ?_
  refine v_bin (w := (263 + (m : Int))) (hz_X12_tellCompany hT _ _ rfl) (hq_add (by omega) (by omega)) ?_
  refine v_aldB (t := 0) (r := 126) (w := (P 8 m)) (hz_X12_tellCompany hT _ _ rfl) rfl rfl rfl (fun _ _ => (congrArg Prod.snd eb)) (fun ha1 hb2 => ?_)
  refine v_load (v := (2, 121)) (hz_X12_tellCompany hT _ _ rfl) rfl rfl ?_
  refine v_getR (c := 126) (r := 121) (hz_X12_tellCompany hT _ _ rfl) rfl rfl rfl ?_
  refine v_push (245) (hz_X12_tellCompany hT _ _ rfl) rfl ?_
  refine v_load (v := (0, (m : Int))) (hz_X12_tellCompany hT _ _ rfl) rfl rfl ?_
  refine v_bin (w := (245 + (m : Int))) (hz_X12_tellCompany hT _ _ rfl) (hq_add (by omega) (by omega)) ?_
  refine v_aldB (t := 0) (r := 126) (w := ((gJ P (P 6 m).toNat : Nat) : Int)) (hz_X12_tellCompany hT _ _ rfl) rfl rfl rfl (fun _ _ => (congrArg Prod.snd ea)) (fun ha3 hb4 => ?_)
  refine v_load (v := (2, 121)) (hz_X12_tellCompany hT _ _ rfl) rfl rfl ?_
  refine v_getR (c := 126) (r := 121) (hz_X12_tellCompany hT _ _ rfl) rfl rfl rfl ?_
  refine v_push (251) (hz_X12_tellCompany hT _ _ rfl) rfl ?_
  refine v_load (v := (0, (m : Int))) (hz_X12_tellCompany hT _ _ rfl) rfl rfl ?_
  refine v_bin (w := (251 + (m : Int))) (hz_X12_tellCompany hT _ _ rfl) (hq_add (by omega) (by omega)) ?_
  refine v_aldB (t := 0) (r := 126) (w := ((gJ P (P 7 m).toNat : Nat) : Int)) (hz_X12_tellCompany hT _ _ rfl) rfl rfl rfl (fun _ _ => (congrArg Prod.snd eg)) (fun ha5 hb6 => ?_)
  refine v_call (w := 7) [some (2, 121), some (0, (P 8 m)), some (0, ((gJ P (P 6 m).toNat : Nat) : Int)), some (0, ((gJ P (P 7 m).toNat : Nat) : Int)), none, none, none] hO (hz_X12_tellCompany hT _ _ rfl) rfl rfl ?_
  exact k0 ha1 hb2 ha3 hb4 ha5 hb6
theorem qr_tc34 {D : zD} {T : zT} (hT : hTab T) (hO : vOK T) {N : Nat} {h : zH} {Q : zR → Prop} {m : Nat} (p : Int) (hv0 : zHv h)
    (k0 : Q (h, some (0, p))) :
    vP D T N 323 34 h [some (2, 121), some (0, (m : Int))] [(0, p)] Q := by
  refine v_ret (hz_X12_tellCompany hT _ _ rfl) (Or.inl rfl) ?_
  exact k0 
/-- tellCompany() -/
theorem rx_tc {D : zD} {T : zT} (hT : hTab T) (hO : vOK T) {N : Nat} {h : zH} {Q : zR → Prop} {P : PT} (x : Int) (m : Nat) (ex : x = (m : Int)) (hR : rBk 0 P h) (hb : fB P) (hm : (m : Int) < P 0 3) (k1 : ∀ g : zH, rwF h g → yCost P (gCo P (P 8 m).toNat) (P 6 m).toNat (P 7 m).toNat = -1 → Q (g, some (0, 1000000))) (k2 : ∀ g : zH, rwF h g → 0 ≤ yCost P (gCo P (P 8 m).toNat) (P 6 m).toNat (P 7 m).toNat → yCost P (gCo P (P 8 m).toNat) (P 6 m).toNat (P 7 m).toNat < 1000000 → rHp P (yPt P (gCo P (P 8 m).toNat) (P 6 m).toNat (P 7 m).toNat) (yN P (gCo P (P 8 m).toNat) (P 6 m).toNat (P 7 m).toNat) g → Q (g, some (0, yCost P (gCo P (P 8 m).toNat) (P 6 m).toNat (P 7 m).toNat))) : vP D T N 323 0 h [some (2, 121), some (0, x)] [] Q := by
  subst ex
  obtain ⟨lb, _, _, hk⟩ := id hb
  obtain ⟨_, ⟨b6, g6⟩, ⟨b7, g7⟩, b8, c8⟩ := hk m hm
  have m6 : m < 6 := by have := lb.2.2.2.2; omega
  have l3 := lb.2.2.1.2
  refine vP_hv (fun hv => qr_tc0 hT hO hv hR hm m6 (hR.by hm) (hR.at hm) (hR.go hm) ?_)
  intros
  refine rx_tw hT hO (P 8 m) (P 6 m).toNat (P 7 m).toNat hR hb (by omega) (by omega) g6 g7 (co := gCo P (P 8 m).toNat) (fun q gq => ?_) (fun g u c => ?_) (fun g u c0 c1 c2 => ?_)
  · have e1 : gCo P (P 8 m).toNat q = gSh P (P 8 m).toNat q := if_neg (by rw [gIx_y gq]; decide)
    have e2 : rC P (P 8 m) q = gSh P (P 8 m).toNat q := if_neg (by omega)
    rw [e1, e2]
  · show vP D T N 323 34 g [some (2, 121), some (0, (m : Int))] [(0, 1000000)] Q
    exact vP_hv (fun hv => qr_tc34 hT hO (1000000) hv (k1 g u c))
  · show vP D T N 323 34 g [some (2, 121), some (0, (m : Int))] [(0, yCost P (gCo P (P 8 m).toNat) (P 6 m).toNat (P 7 m).toNat)] Q
    exact vP_hv (fun hv => qr_tc34 hT hO _ hv (k2 g u c0 c1 c2))
theorem qr_mv0 {D : zD} {T : zT} (hT : hTab T) (hO : vOK T) {N : Nat} {h : zH} {Q : zR → Prop} {m : Nat} (hv0 : zHv h)
    (k0 : vP D T N 323 0 h [some (2, 121), some (0, (m : Int))] [] (fun r1 => vP D T N 275 5 r1.1 [some (2, 121), some (0, (m : Int)), none, none] (zpush r1.2 []) Q)) :
    vP D T N 275 0 h [some (2, 121), some (0, (m : Int)), none, none] [] Q := by
  refine v_load (v := (2, 121)) (hz_X12_marches hT _ _ rfl) rfl rfl ?_
  refine v_load (v := (0, (m : Int))) (hz_X12_marches hT _ _ rfl) rfl rfl ?_
  refine v_call (w := 2) [some (2, 121), some (0, (m : Int))] hO (hz_X12_marches hT _ _ rfl) rfl rfl ?_
  exact k0 
theorem qr_mv5x {D : zD} {T : zT} (hT : hTab T) (hO : vOK T) {N : Nat} {h : zH} {Q : zR → Prop} {m : Nat} (hv0 : zHv h)
    (k0 : Q (h, some (0, -1))) :
    vP D T N 275 5 h [some (2, 121), some (0, (m : Int)), none, none] [(0, 1000000)] Q := by
  refine v_push (1000000) (hz_X12_marches hT _ _ rfl) rfl ?_
  refine v_ic (hz_X12_marches hT _ _ rfl) (fun _ => ?_) (fun hc1 => absurd (show (1000000 : Int) = 1000000 from (by decide)) hc1)
  refine v_push (-1) (hz_X12_marches hT _ _ rfl) rfl ?_
  refine v_ret (hz_X12_marches hT _ _ rfl) (Or.inl rfl) ?_
  exact k0 
theorem qr_mv5 {D : zD} {T : zT} (hT : hTab T) (hO : vOK T) {N : Nat} {h : zH} {Q : zR → Prop} {m : Nat} (p : Int) (hv0 : zHv h)
    (k0 : (p = 1000000) → Q (h, some (0, -1)))
    (k1 : (p ≠ 1000000) → vP D T N 275 22 (zset h 121 33 (0, 0)) [some (2, 121), some (0, (m : Int)), some (0, 0), some (0, 1)] [] Q) :
    vP D T N 275 5 h [some (2, 121), some (0, (m : Int)), none, none] [(0, p)] Q := by
  refine v_push (1000000) (hz_X12_marches hT _ _ rfl) rfl ?_
  refine v_ic (hz_X12_marches hT _ _ rfl) (fun hc1 => ?_) (fun hc1 => ?_)
  · have hc1 : p = 1000000 := hc1
    refine v_push (-1) (hz_X12_marches hT _ _ rfl) rfl ?_
    refine v_ret (hz_X12_marches hT _ _ rfl) (Or.inl rfl) ?_
    exact k0 hc1
  · have hc1 : p ≠ 1000000 := hc1
    refine v_push (0) (hz_X12_marches hT _ _ rfl) rfl ?_
    refine v_store1 [some (2, 121), some (0, (m : Int)), some (0, 0), none] (hz_X12_marches hT _ _ rfl) ⟨rfl, Nat.ne_of_beq_eq_false rfl⟩ (Nat.le_of_ble_eq_true rfl) rfl ?_
    refine v_load (v := (2, 121)) (hz_X12_marches hT _ _ rfl) rfl rfl ?_
    refine v_push (0) (hz_X12_marches hT _ _ rfl) rfl ?_
    refine v_putf (r := 121) hO (hz_X12_marches hT _ _ rfl) rfl (fun hf2 => ?_)
    refine v_push (1) (hz_X12_marches hT _ _ rfl) rfl ?_
    refine v_store1 [some (2, 121), some (0, (m : Int)), some (0, 0), some (0, 1)] (hz_X12_marches hT _ _ rfl) ⟨rfl, Nat.ne_of_beq_eq_false rfl⟩ (Nat.le_of_ble_eq_true rfl) rfl ?_
    exact k1 hc1
theorem qr_mv22 {D : zD} {T : zT} (hT : hTab T) (hO : vOK T) {N : Nat} {h : zH} {Q : zR → Prop} {P : PT} {m i w r b : Nat} (hv0 : zHv h) (hR : rBk 0 P h) (hb : fB P) (gb : gIn P b) (hn : gJ P b < 48) (m6 : m < 6) (er : h 121 31 = (0, (r : Int))) (ez : h 121 33 = (0, 0)) (eb : h 132 i = (0, ((gJ P b : Nat) : Int))) (e9 : h 126 (269 + (m : Int)).toNat = (0, P 9 m)) (el : h 126 (5 + ((gJ P b : Nat) : Int)).toNat = (0, P 1 b)) (hi : i < 49) (hw : w < 49) (hir : (i : Int) < (r : Int))
    (k0 : (0 ≤ (i : Int)) → ((i : Int) < 49) → (0 ≤ (5 + ((gJ P b : Nat) : Int))) → ((5 + ((gJ P b : Nat) : Int)) < 2750) → ((P 1 b) = 3) → vP D T N 275 22 (zset h 121 33 (0, 1)) [some (2, 121), some (0, (m : Int)), some (0, (w : Int)), some (0, ((i : Int) + 1))] [] Q)
    (k1 : (0 ≤ (i : Int)) → ((i : Int) < 49) → (0 ≤ (5 + ((gJ P b : Nat) : Int))) → ((5 + ((gJ P b : Nat) : Int)) < 2750) → ((P 1 b) ≠ 3) → (0 ≤ (245 + (m : Int))) → ((245 + (m : Int)) < 2750) → (0 ≤ (269 + (m : Int))) → ((269 + (m : Int)) < 2750) → vP D T N 275 22 (zset (zset h 126 (((245 + (m : Int))).toNat) (0, ((gJ P b : Nat) : Int))) 126 (((269 + (m : Int))).toNat) (0, (wA ((P 9 m)) ((gCr P b))))) [some (2, 121), some (0, (m : Int)), some (0, ((w : Int) + 1)), some (0, ((i : Int) + 1))] [] Q) :
    vP D T (N + 1) 275 22 h [some (2, 121), some (0, (m : Int)), some (0, (w : Int)), some (0, (i : Int))] [] Q := by
  refine v_loadS (v := (0, (i : Int))) (hz_X12_marches hT _ _ rfl) rfl rfl ?_
  refine v_load (v := (2, 121)) (hz_X12_marches hT _ _ rfl) rfl rfl ?_
  refine v_getf (v := (0, (r : Int))) (r := 121) (hz_X12_marches hT _ _ rfl) rfl rfl (fun _ => er) ?_
  refine v_ic (hz_X12_marches hT _ _ rfl) (fun _ => ?_) (fun hc1 => absurd (show (i : Int) < (r : Int) from hir) hc1)
  refine v_load (v := (2, 121)) (hz_X12_marches hT _ _ rfl) rfl rfl ?_
  refine v_getf (v := (0, 0)) (r := 121) (hz_X12_marches hT _ _ rfl) rfl rfl (fun _ => ez) ?_
  refine v_if (hz_X12_marches hT _ _ rfl) (fun _ => ?_) (fun hc2 => absurd (show (0 : Int) = 0 from (by decide)) hc2)
  refine v_load (v := (2, 121)) (hz_X12_marches hT _ _ rfl) rfl rfl ?_
  refine v_getR (c := 126) (r := 121) (hz_X12_marches hT _ _ rfl) rfl rfl rfl ?_
  refine v_push (5) (hz_X12_marches hT _ _ rfl) rfl ?_
  refine v_load (v := (2, 121)) (hz_X12_marches hT _ _ rfl) rfl rfl ?_
  refine v_getR (c := 132) (r := 121) (hz_X12_marches hT _ _ rfl) rfl rfl rfl ?_
  refine v_load (v := (0, (i : Int))) (hz_X12_marches hT _ _ rfl) rfl rfl ?_
  refine v_aldB (t := 0) (r := 132) (w := ((gJ P b : Nat) : Int)) (hz_X12_marches hT _ _ rfl) rfl rfl rfl (fun _ _ => (congrArg Prod.snd eb)) (fun ha3 hb4 => ?_)
  refine v_bin (w := (5 + ((gJ P b : Nat) : Int))) (hz_X12_marches hT _ _ rfl) (hq_add (by omega) (by omega)) ?_
  refine v_aldB (t := 0) (r := 126) (w := (P 1 b)) (hz_X12_marches hT _ _ rfl) rfl rfl rfl (fun _ _ => (congrArg Prod.snd el)) (fun ha5 hb6 => ?_)
  refine v_push (3) (hz_X12_marches hT _ _ rfl) rfl ?_
  refine v_ic (hz_X12_marches hT _ _ rfl) (fun hc7 => ?_) (fun hc7 => ?_)
  · have hc7 : (P 1 b) = 3 := hc7
    refine v_load (v := (2, 121)) (hz_X12_marches hT _ _ rfl) rfl rfl ?_
    refine v_push (1) (hz_X12_marches hT _ _ rfl) rfl ?_
    refine v_putf (r := 121) hO (hz_X12_marches hT _ _ rfl) rfl (fun hf8 => ?_)
    refine v_goto (hz_X12_marches hT _ _ rfl) ?_
    refine v_iinc (x := (i : Int)) (u := 1) (w := ((i : Int) + 1)) [some (2, 121), some (0, (m : Int)), some (0, (w : Int)), some (0, ((i : Int) + 1))] (hz_X12_marches hT _ _ rfl) rfl rfl (Nat.le_of_ble_eq_true rfl) (vz_inc (by omega) (by omega)) rfl ?_
    refine v_goto (hz_X12_marches hT _ _ rfl) ?_
    exact k0 ha3 hb4 ha5 hb6 hc7
  · have hc7 : (P 1 b) ≠ 3 := hc7
    refine v_load (v := (2, 121)) (hz_X12_marches hT _ _ rfl) rfl rfl ?_
    refine v_getR (c := 126) (r := 121) (hz_X12_marches hT _ _ rfl) rfl rfl rfl ?_
    refine v_push (245) (hz_X12_marches hT _ _ rfl) rfl ?_
    refine v_load (v := (0, (m : Int))) (hz_X12_marches hT _ _ rfl) rfl rfl ?_
    refine v_bin (w := (245 + (m : Int))) (hz_X12_marches hT _ _ rfl) (hq_add (by omega) (by omega)) ?_
    refine v_load (v := (2, 121)) (hz_X12_marches hT _ _ rfl) rfl rfl ?_
    refine v_getR (c := 132) (r := 121) (hz_X12_marches hT _ _ rfl) rfl rfl rfl ?_
    refine v_load (v := (0, (i : Int))) (hz_X12_marches hT _ _ rfl) rfl rfl ?_
    refine v_aldB (t := 0) (r := 132) (w := ((gJ P b : Nat) : Int)) (hz_X12_marches hT _ _ rfl) rfl rfl rfl (fun _ _ => (congrArg Prod.snd eb)) (fun ha9 hb10 => ?_)
    refine v_ast (r := 126) (hz_X12_marches hT _ _ rfl) rfl rfl (fun ha11 hb12 hf13 => ?_)
    refine v_load (v := (2, 121)) (hz_X12_marches hT _ _ rfl) rfl rfl ?_
    refine v_getR (c := 126) (r := 121) (hz_X12_marches hT _ _ rfl) rfl rfl rfl ?_
    refine v_push (269) (hz_X12_marches hT _ _ rfl) rfl ?_
    refine v_load (v := (0, (m : Int))) (hz_X12_marches hT _ _ rfl) rfl rfl ?_
    refine v_bin (w := (269 + (m : Int))) (hz_X12_marches hT _ _ rfl) (hq_add (by omega) (by omega)) ?_
    refine v_dupd (hz_X12_marches hT _ _ rfl) (Nat.ne_of_beq_eq_false rfl) (Nat.ne_of_beq_eq_false rfl) ?_
    refine v_aldB (t := 0) (r := 126) (w := (P 9 m)) (hz_X12_marches hT _ _ rfl) rfl rfl rfl (fun _ _ => (congrArg Prod.snd ((zset_ne (fun c => by omega)).trans e9))) (fun ha14 hb15 => ?_)
    refine v_load (v := (2, 121)) (hz_X12_marches hT _ _ rfl) rfl rfl ?_
    refine v_load (v := (2, 121)) (hz_X12_marches hT _ _ rfl) rfl rfl ?_
    refine v_getR (c := 132) (r := 121) (hz_X12_marches hT _ _ rfl) rfl rfl rfl ?_
    refine v_load (v := (0, (i : Int))) (hz_X12_marches hT _ _ rfl) rfl rfl ?_
    refine v_aldB (t := 0) (r := 132) (w := ((gJ P b : Nat) : Int)) (hz_X12_marches hT _ _ rfl) rfl rfl rfl (fun _ _ => (congrArg Prod.snd ((zset_ne (fun c => absurd c.1 (by decide))).trans eb))) (fun ha16 hb17 => ?_)
    refine v_call (w := 2) [some (2, 121), some (0, ((gJ P b : Nat) : Int))] hO (hz_X12_marches hT _ _ rfl) rfl rfl (rb_cr2 hT hO b gb ((zset_ne (fun c => by omega)).trans (hR.l gb)) ((zset_ne (fun c => by omega)).trans (hR.s gb)) hb ?_)
    show vP D T N 275 99 (zset h 126 (((245 + (m : Int))).toNat) (0, ((gJ P b : Nat) : Int))) [some (2, 121), some (0, (m : Int)), some (0, (w : Int)), some (0, (i : Int))] [(0, (gCr P b)), (0, (P 9 m)), (0, (269 + (m : Int))), (2, 126)] _
    refine v_bin (w := (wA ((P 9 m)) ((gCr P b)))) (hz_X12_marches hT _ _ rfl) rfl ?_
    refine v_ast (r := 126) (hz_X12_marches hT _ _ rfl) rfl rfl (fun ha18 hb19 hf20 => ?_)
    refine v_iinc (x := (w : Int)) (u := 1) (w := ((w : Int) + 1)) [some (2, 121), some (0, (m : Int)), some (0, ((w : Int) + 1)), some (0, (i : Int))] (hz_X12_marches hT _ _ rfl) rfl rfl (Nat.le_of_ble_eq_true rfl) (vz_inc (by omega) (by omega)) rfl ?_
    refine v_iinc (x := (i : Int)) (u := 1) (w := ((i : Int) + 1)) [some (2, 121), some (0, (m : Int)), some (0, ((w : Int) + 1)), some (0, ((i : Int) + 1))] (hz_X12_marches hT _ _ rfl) rfl rfl (Nat.le_of_ble_eq_true rfl) (vz_inc (by omega) (by omega)) rfl ?_
    refine v_goto (hz_X12_marches hT _ _ rfl) ?_
    exact k1 ha3 hb4 ha5 hb6 hc7 ha11 hb12 ha14 hb15
theorem qr_mv9 {D : zD} {T : zT} (hT : hTab T) (hO : vOK T) {N : Nat} {h : zH} {Q : zR → Prop} {m w r : Nat} (hv0 : zHv h) (er : h 121 31 = (0, (r : Int)))
    (k0 : Q (h, some (0, (w : Int)))) :
    vP D T (N + 1) 275 22 h [some (2, 121), some (0, (m : Int)), some (0, (w : Int)), some (0, (r : Int))] [] Q := by
  refine v_loadS (v := (0, (r : Int))) (hz_X12_marches hT _ _ rfl) rfl rfl ?_
  refine v_load (v := (2, 121)) (hz_X12_marches hT _ _ rfl) rfl rfl ?_
  refine v_getf (v := (0, (r : Int))) (r := 121) (hz_X12_marches hT _ _ rfl) rfl rfl (fun _ => er) ?_
  refine v_ic (hz_X12_marches hT _ _ rfl) (fun hc1 => absurd (show (r : Int) < (r : Int) from hc1) (by omega)) (fun _ => ?_)
  refine v_load (v := (0, (w : Int))) (hz_X12_marches hT _ _ rfl) rfl rfl ?_
  refine v_ret (hz_X12_marches hT _ _ rfl) (Or.inl rfl) ?_
  exact k0 
theorem qr_mv8 {D : zD} {T : zT} (hT : hTab T) (hO : vOK T) {N : Nat} {h : zH} {Q : zR → Prop} {m w i r : Nat} (hv0 : zHv h) (er : h 121 31 = (0, (r : Int))) (ez : h 121 33 = (0, 1))
    (k0 : ((i : Int) < (r : Int)) → Q (h, some (0, (w : Int))))
    (k1 : ((r : Int) ≤ (i : Int)) → Q (h, some (0, (w : Int)))) :
    vP D T (N + 1) 275 22 h [some (2, 121), some (0, (m : Int)), some (0, (w : Int)), some (0, (i : Int))] [] Q := by
  refine v_loadS (v := (0, (i : Int))) (hz_X12_marches hT _ _ rfl) rfl rfl ?_
  refine v_load (v := (2, 121)) (hz_X12_marches hT _ _ rfl) rfl rfl ?_
  refine v_getf (v := (0, (r : Int))) (r := 121) (hz_X12_marches hT _ _ rfl) rfl rfl (fun _ => er) ?_
  refine v_ic (hz_X12_marches hT _ _ rfl) (fun hc1 => ?_) (fun hc1 => ?_)
  · have hc1 : (i : Int) < (r : Int) := hc1
    refine v_load (v := (2, 121)) (hz_X12_marches hT _ _ rfl) rfl rfl ?_
    refine v_getf (v := (0, 1)) (r := 121) (hz_X12_marches hT _ _ rfl) rfl rfl (fun _ => ez) ?_
    refine v_if (hz_X12_marches hT _ _ rfl) (fun hc2 => absurd (show (1 : Int) = 0 from hc2) (by decide)) (fun _ => ?_)
    refine v_load (v := (0, (w : Int))) (hz_X12_marches hT _ _ rfl) rfl rfl ?_
    refine v_ret (hz_X12_marches hT _ _ rfl) (Or.inl rfl) ?_
    exact k0 hc1
  · have hc1 : (r : Int) ≤ (i : Int) := Int.not_lt.mp hc1
    refine v_load (v := (0, (w : Int))) (hz_X12_marches hT _ _ rfl) rfl rfl ?_
    refine v_ret (hz_X12_marches hT _ _ rfl) (Or.inl rfl) ?_
    exact k1 hc1
def mvF (h g : zH) : Prop := ∀ a b, ¬ ((a = 126 ∧ b < 275) ∨ a = 130 ∨ a = 132 ∨ (a = 121 ∧ (b = 31 ∨ b = 33))) → g a b = h a b
theorem mvF.z {a b : Nat} {v : zV} {h g : zH} (ha : (a = 126 ∧ b < 275) ∨ a = 130 ∨ a = 132 ∨ (a = 121 ∧ (b = 31 ∨ b = 33))) (f : mvF h g) : mvF h (zset g a b v) := fun x y hn => (zset_ne (fun e => hn (by omega))).trans (f x y hn)
/-- marches(): along the row -/
theorem rx_mvL {D : zD} {T : zT} (hT : hTab T) (hO : vOK T) {N : Nat} {h : zH} {Q : zR → Prop} {P : PT} {p : Nat → Nat} {n : Nat} (m : Nat) (hR : rBk 0 P h) (hb : fB P) (hm : (m : Int) < P 0 3) (hn : n ≤ 47) (hp : rHp P p n h) (ez : h 121 33 = (0, 0)) (hg : ∀ i, i ≤ n → gIn P (p i)) (k : ∀ g : zH, rBk 0 (pGo P m p (wStop P p n 0)) g → mvF h g → g 121 33 = (0, if wStop P p n 0 < n then 1 else 0) → Q (g, some (0, ((wStop P p n 0 : Nat) : Int)))) : vP D T N 275 22 h [some (2, 121), some (0, (m : Int)), some (0, 0), some (0, 1)] [] Q := by
  have lb := hb.1
  have m6 : m < 6 := by have := lb.2.2.2.2; omega
  refine vP_loop (fun h' l => ((∃ i : Nat, i ≤ n ∧ l = [some (2, 121), some (0, (m : Int)), some (0, (i : Int)), some (0, ((i + 1 : Nat) : Int))] ∧ rBk 0 (pGo P m p i) h' ∧ h' 121 33 = (0, 0) ∧ wStop P p (n - i) i = wStop P p n 0) ∨ (∃ i : Nat, i < n ∧ i = wStop P p n 0 ∧ l = [some (2, 121), some (0, (m : Int)), some (0, (i : Int)), some (0, ((i + 1 + 1 : Nat) : Int))] ∧ rBk 0 (pGo P m p i) h' ∧ h' 121 33 = (0, 1))) ∧ mvF h h' ∧ rHp P p n h') ?_ N h _ ⟨Or.inl ⟨0, Nat.zero_le _, rfl, hR, ez, rfl⟩, fun _ _ _ => rfl, hp⟩
  rintro N h' l ⟨hI, hf, hp'⟩ ih
  rcases hI with ⟨i, hi, rfl, hR', ez', hs⟩ | ⟨i, hi, hs, rfl, hR', ez'⟩
  · have hb' := fB_go (m := m) hb i (fun k _ h2 => hg k (by omega))
    by_cases c : i < n
    · have gb := hg (i + 1) (by omega)
      have gb' : gIn (pGo P m p i) (p (i + 1)) := gIn_go.mpr gb
      have e4 : h' 132 (i + 1) = (0, ((gJ (pGo P m p i) (p (i + 1)) : Nat) : Int)) := by rw [gJ_go]; exact hp'.1 (i + 1) (by omega)
      have hm' : (m : Int) < pGo P m p i 0 3 := by rw [pGo_1 i 0 3 (by decide) (by decide)]; exact hm
      have hs' : wStop P p (n - i) i = if P 1 (p (i + 1)) = 3 then i else wStop P p (n - (i + 1)) (i + 1) := by
        rw [show n - i = (n - (i + 1)) + 1 by omega]
        rfl
      have lq := gJ_lt hb'.1 gb'
      refine vP_hv (fun hv' => qr_mv22 hT hO (P := pGo P m p i) (m := m) (i := i + 1) (w := i) (r := n + 1) (b := p (i + 1)) hv' hR' hb' gb' lq m6 hp'.2 ez' e4 (hR'.sp hm') (hR'.l gb') (by omega) (by omega) (by omega) ?_ ?_)
      · intro _ _ _ _ c2
        rw [pGo_1 i 1 _ (by decide) (by decide)] at c2
        rw [if_pos c2] at hs'
        refine ih _ _ ⟨Or.inr ⟨i, c, by omega, rfl, hR'.eq hb'.1 (fun b _ _ => zset_ne (by omega)), zset_same⟩, hf.z (by omega), fun j hj => (zset_ne (by omega)).trans (hp'.1 j hj), (zset_ne (by omega)).trans hp'.2⟩
      · intro _ _ _ _ c2 _ _ _ _
        rw [pGo_1 i 1 _ (by decide) (by decide)] at c2
        rw [if_neg c2] at hs'
        have eC : gCr (pGo P m p i) (p (i + 1)) = gGr (pGo P m p i) (p (i + 1)) := by
          refine (if_neg ?_).symm
          rw [pGo_1 i 1 _ (by decide) (by decide)]
          exact c2
        rw [eC]
        have hb6 := hb'.s6 (i := m) gb'
        refine ih _ _ ⟨Or.inl ⟨i + 1, by omega, rfl, (hR'.s6 hb'.1 m6).s9 hb6.1 m6, (zset_ne (by omega)).trans ((zset_ne (by omega)).trans ez'), by omega⟩, (hf.z (by omega)).z (by omega), fun j hj => (zset_ne (by omega)).trans ((zset_ne (by omega)).trans (hp'.1 j hj)), (zset_ne (by omega)).trans ((zset_ne (by omega)).trans hp'.2)⟩
    · have e : i = n := by omega
      subst e
      have e2 : wStop P p i 0 = i := by
        rw [← hs, Nat.sub_self]
        rfl
      refine vP_hv (fun hv' => qr_mv9 hT hO (m := m) (w := i) (r := i + 1) hv' hp'.2 ?_)
      have kk := k h' (by rw [e2]; exact hR') hf (by rw [e2, if_neg (Nat.lt_irrefl _)]; exact ez')
      rw [e2] at kk
      exact kk
  · refine vP_hv (fun hv' => qr_mv8 hT hO (m := m) (w := i) (i := i + 1 + 1) (r := n + 1) hv' hp'.2 ez' ?_ ?_)
    · intro _
      have kk := k h' (by rw [← hs]; exact hR') hf (by rw [← hs, if_pos hi]; exact ez')
      rw [← hs] at kk
      exact kk
    · intro _
      have kk := k h' (by rw [← hs]; exact hR') hf (by rw [← hs, if_pos hi]; exact ez')
      rw [← hs] at kk
      exact kk
theorem rx_mv {D : zD} {T : zT} (hT : hTab T) (hO : vOK T) {N : Nat} {h : zH} {Q : zR → Prop} {P : PT} (x : Int) (m : Nat) (ex : x = (m : Int)) (hR : rBk 0 P h) (hb : fB P) (hm : (m : Int) < P 0 3) (k1 : ∀ g : zH, mvF h g → rBk 0 P g → yCost P (gCo P (P 8 m).toNat) (P 6 m).toNat (P 7 m).toNat = -1 → Q (g, some (0, -1))) (k2 : ∀ g : zH, 0 ≤ yCost P (gCo P (P 8 m).toNat) (P 6 m).toNat (P 7 m).toNat → mvF h g → rBk 0 (pGo P m (yPt P (gCo P (P 8 m).toNat) (P 6 m).toNat (P 7 m).toNat) (wStop P (yPt P (gCo P (P 8 m).toNat) (P 6 m).toNat (P 7 m).toNat) (yN P (gCo P (P 8 m).toNat) (P 6 m).toNat (P 7 m).toNat) 0)) g → g 121 33 = (0, if wStop P (yPt P (gCo P (P 8 m).toNat) (P 6 m).toNat (P 7 m).toNat) (yN P (gCo P (P 8 m).toNat) (P 6 m).toNat (P 7 m).toNat) 0 < yN P (gCo P (P 8 m).toNat) (P 6 m).toNat (P 7 m).toNat then 1 else 0) → Q (g, some (0, ((wStop P (yPt P (gCo P (P 8 m).toNat) (P 6 m).toNat (P 7 m).toNat) (yN P (gCo P (P 8 m).toNat) (P 6 m).toNat (P 7 m).toNat) 0 : Nat) : Int)))) : vP D T N 275 0 h [some (2, 121), some (0, x), none, none] [] Q := by
  subst ex
  have lb := hb.1
  obtain ⟨_, ⟨b6, g6⟩, ⟨b7, g7⟩, b8, c8⟩ := hb.2.2.2 m hm
  refine vP_hv (fun hv => qr_mv0 hT hO hv ?_)
  refine rx_tc hT hO _ m rfl hR hb hm (fun g u c => ?_) (fun g u c0 c1 c2 => ?_)
  · show vP D T N 275 5 g [some (2, 121), some (0, (m : Int)), none, none] [(0, 1000000)] Q
    refine vP_hv (fun hv1 => qr_mv5x hT hO hv1 ?_)
    exact k1 g (fun a b hn => u a b (by omega)) (hR.eq lb (fun b _ _ => u 126 b (by omega))) c
  · show vP D T N 275 5 g [some (2, 121), some (0, (m : Int)), none, none] [(0, yCost P (gCo P (P 8 m).toNat) (P 6 m).toNat (P 7 m).toNat)] Q
    refine vP_hv (fun hv1 => qr_mv5 hT hO (m := m) (yCost P (gCo P (P 8 m).toNat) (P 6 m).toNat (P 7 m).toNat) hv1 ?_ ?_)
    · intro e
      omega
    · intro _
      obtain ⟨n47, hg⟩ := yPt_ok (j := (P 8 m).toNat) (to := (P 7 m).toNat) hb g6 c0
      refine rx_mvL hT hO m (hR.eq lb (fun b _ _ => (zset_ne (by omega)).trans (u 126 b (by omega)))) hb hm n47 ⟨fun i hi => (zset_ne (by omega)).trans (c2.1 i hi), (zset_ne (by omega)).trans c2.2⟩ zset_same hg (fun g2 v1 v2 v3 => ?_)
      exact k2 g2 c0 (fun a b hn => (v2 a b hn).trans ((zset_ne (by omega)).trans (u a b (by omega)))) v1 v3
end
section
/-! ORDERS AS A TREE, AND WHAT CARRYING THEM OUT COMES TO, PURE (words' numbers: 8 bite .. 14 home, 21 stop; 16 eaten, 17 arrives, 18 crumbs, 19 loop; 20 end) -/
abbrev OT := Lean.RArray Unit
abbrev oB (d : Nat) : Prop := 16 ≤ d % 32 ∧ d % 32 ≤ 19
def oD (d k a b : Nat) : Prop := d % 32 = k ∧ d / 32 % 128 = a ∧ d / 4096 = b
def oE (k a b : Nat) : Nat := k + 32 * a + 4096 * b
theorem oD_E {k a b : Nat} (hk : k < 32) (ha : a < 128) : oD (oE k a b) k a b := by
  unfold oD oE
  omega
def oNil : OT := .leaf ()
def tN : OT → Nat
  | .leaf _ => 0
  | .branch d y r => if oB d then tN y + tN r + 2 else tN r + 1
def tS : OT → Nat
  | .leaf _ => 0
  | .branch d y r => if oB d then tS y + tS r + 1 else tS r + 1
def tA : OT → OT → OT
  | .leaf _, t => t
  | .branch d y r, t => .branch d y (tA r t)
def oIt (P : PT) (k a b : Nat) : Prop := ((k = 8 ∨ k = 10 ∨ k = 16) → (a : Int) < P 0 2 ∧ gIn P b) ∧ (k = 9 → (a : Int) < P 0 2) ∧ (k = 11 → (a : Int) < P 0 2 ∧ (b : Int) < P 0 2) ∧ (k = 12 → (a : Int) < P 0 2 ∧ b ≤ 12) ∧ ((k = 13 ∨ k = 17) → (a : Int) < P 0 3) ∧ (k = 19 → 1 ≤ a ∧ a ≤ 99) ∧ (k = 18 → (a = 60 ∨ a = 61 ∨ a = 62) ∧ b ≤ 9999)
def oOk (P : PT) : OT → Prop
  | .leaf _ => True
  | .branch d y r => if oB d then oIt P (d % 32) (d / 32 % 128) (d / 4096) ∧ oOk P y ∧ oOk P r else ((8 ≤ d % 32 ∧ d % 32 ≤ 14) ∨ d % 32 = 21) ∧ oIt P (d % 32) (d / 32 % 128) (d / 4096) ∧ oOk P r
section OTU
variable {d k a b : Nat} {y r : OT}
theorem oB_k (hB : oB d) (hd : oD d k a b) : 16 ≤ k ∧ k ≤ 19 := by
  obtain ⟨rfl, rfl, rfl⟩ := hd
  exact hB
theorem tN_b (hB : oB d) : tN (.branch d y r) = tN y + tN r + 2 := if_pos hB
theorem tN_a (hB : ¬ oB d) : tN (.branch d y r) = tN r + 1 := if_neg hB
theorem tS_b (hB : oB d) : tS (.branch d y r) = tS y + tS r + 1 := if_pos hB
theorem tS_a (hB : ¬ oB d) : tS (.branch d y r) = tS r + 1 := if_neg hB
theorem oOk_b {P : PT} (hB : oB d) (hd : oD d k a b) : oOk P (.branch d y r) = (oIt P k a b ∧ oOk P y ∧ oOk P r) := by
  obtain ⟨rfl, rfl, rfl⟩ := hd
  exact if_pos hB
theorem oOk_a {P : PT} (hB : ¬ oB d) (hd : oD d k a b) : oOk P (.branch d y r) = (((8 ≤ k ∧ k ≤ 14) ∨ k = 21) ∧ oIt P k a b ∧ oOk P r) := by
  obtain ⟨rfl, rfl, rfl⟩ := hd
  exact if_neg hB
end OTU
def pSh (P P' : PT) : Prop := P' 0 0 = P 0 0 ∧ P' 0 1 = P 0 1 ∧ P' 0 2 = P 0 2 ∧ P' 0 3 = P 0 3
theorem pSh.rfl {P : PT} : pSh P P := ⟨Eq.refl _, Eq.refl _, Eq.refl _, Eq.refl _⟩
theorem pSh.trans {P P' P2 : PT} (a : pSh P P') (b : pSh P' P2) : pSh P P2 := ⟨b.1.trans a.1, b.2.1.trans a.2.1, b.2.2.1.trans a.2.2.1, b.2.2.2.trans a.2.2.2⟩
theorem pSh.gin {P P' : PT} (a : pSh P P') {q : Nat} : gIn P' q ↔ gIn P q := by
  unfold gIn
  rw [a.1, a.2.1]
theorem pSh.gj {P P' : PT} (a : pSh P P') (q : Nat) : gJ P' q = gJ P q := by
  unfold gJ
  rw [a.1]
theorem pSh.it {P P' : PT} (a : pSh P P') {k x y : Nat} (h : oIt P k x y) : oIt P' k x y := by
  unfold oIt at h ⊢
  rw [a.2.2.1, a.2.2.2, a.gin]
  exact h
theorem pSh.ok {P P' : PT} (a : pSh P P') : ∀ {t : OT}, oOk P t → oOk P' t
  | .leaf _, _ => trivial
  | .branch d y r, h => by
    by_cases hB : oB d
    · rw [oOk_b hB ⟨Eq.refl _, Eq.refl _, Eq.refl _⟩] at h ⊢
      exact ⟨a.it h.1, a.ok h.2.1, a.ok h.2.2⟩
    · rw [oOk_a hB ⟨Eq.refl _, Eq.refl _, Eq.refl _⟩] at h ⊢
      exact ⟨h.1, a.it h.2.1, a.ok h.2.2⟩
/-- how orders lie in the class's rows (from flat place p) and in the reference's (from step s; block at o, WIDE w) -/
def cWd (c : Nat) (h : zH) (k a b p : Nat) : Prop := h (c + 11) p = (0, (k : Int)) ∧ h (c + 12) p = (0, (a : Int)) ∧ h (c + 13) p = (0, (b : Int))
def cBr (c : Nat) (h : zH) (p m : Nat) : Prop := h (c + 14) p = (0, (m : Int)) ∧ h (c + 11) m = (0, 20) ∧ h (c + 14) m = (0, (p : Int))
def cLay (c : Nat) (h : zH) : OT → Nat → Prop
  | .leaf _, _ => True
  | .branch d y r, p => if oB d then cWd c h (d % 32) (d / 32 % 128) (d / 4096) p ∧ cBr c h p (p + 1 + tN y) ∧ cLay c h y (p + 1) ∧ cLay c h r (p + tN y + 2) else cWd c h (d % 32) (d / 32 % 128) (d / 4096) p ∧ cLay c h r (p + 1)
theorem cLay_b {c : Nat} {h : zH} {d k a b p : Nat} {y r : OT} (hB : oB d) (hd : oD d k a b) : cLay c h (.branch d y r) p = (cWd c h k a b p ∧ cBr c h p (p + 1 + tN y) ∧ cLay c h y (p + 1) ∧ cLay c h r (p + tN y + 2)) := by
  obtain ⟨rfl, rfl, rfl⟩ := hd
  exact if_pos hB
theorem cLay_a {c : Nat} {h : zH} {d k a b p : Nat} {y r : OT} (hB : ¬ oB d) (hd : oD d k a b) : cLay c h (.branch d y r) p = (cWd c h k a b p ∧ cLay c h r (p + 1)) := by
  obtain ⟨rfl, rfl, rfl⟩ := hd
  exact if_neg hB
def rIt (o w : Nat) (h : zH) (k a b s : Nat) : Prop := h 126 (o + 277 + 9 * s) = (0, rKd k) ∧ ((k ≠ 14 ∧ k ≠ 18 ∧ k ≠ 21) → h 126 (o + 278 + 9 * s) = (0, (a : Int))) ∧ ((k = 8 ∨ k = 10 ∨ k = 16) → h 126 (o + 279 + 9 * s) = (0, ((w * (b / 8) + b % 8 : Nat) : Int))) ∧ ((k = 11 ∨ k = 12 ∨ k = 18) → h 126 (o + 279 + 9 * s) = (0, (b : Int))) ∧ ((16 ≤ k ∧ k ≤ 18) → h 126 (o + 283 + 9 * s) = (0, (k : Int) - 16)) ∧ (k = 18 → h 126 (o + 284 + 9 * s) = (0, (a : Int)))
def rLay (o w : Nat) (h : zH) : OT → Nat → Prop
  | .leaf _, _ => True
  | .branch d y r, s => if oB d then rIt o w h (d % 32) (d / 32 % 128) (d / 4096) s ∧ h 126 (o + 285 + 9 * s) = (0, ((s + 1 + tS y : Nat) : Int)) ∧ rLay o w h y (s + 1) ∧ rLay o w h r (s + 1 + tS y) else rIt o w h (d % 32) (d / 32 % 128) (d / 4096) s ∧ h 126 (o + 285 + 9 * s) = (0, ((s + 1 : Nat) : Int)) ∧ rLay o w h r (s + 1)
theorem rLay_b {o w : Nat} {h : zH} {d k a b s : Nat} {y r : OT} (hB : oB d) (hd : oD d k a b) : rLay o w h (.branch d y r) s = (rIt o w h k a b s ∧ h 126 (o + 285 + 9 * s) = (0, ((s + 1 + tS y : Nat) : Int)) ∧ rLay o w h y (s + 1) ∧ rLay o w h r (s + 1 + tS y)) := by
  obtain ⟨rfl, rfl, rfl⟩ := hd
  exact if_pos hB
theorem rLay_a {o w : Nat} {h : zH} {d k a b s : Nat} {y r : OT} (hB : ¬ oB d) (hd : oD d k a b) : rLay o w h (.branch d y r) s = (rIt o w h k a b s ∧ h 126 (o + 285 + 9 * s) = (0, ((s + 1 : Nat) : Int)) ∧ rLay o w h r (s + 1)) := by
  obtain ⟨rfl, rfl, rfl⟩ := hd
  exact if_neg hB
theorem cLay.tr {c c' : Nat} {h h' : zH} (f : ∀ j k, 11 ≤ j → j ≤ 14 → k < 60 → h' (c' + j) k = h (c + j) k) : ∀ {t : OT} {p : Nat}, cLay c h t p → p + tN t ≤ 60 → cLay c' h' t p
  | .leaf _, _, _, _ => trivial
  | .branch d y r, p, g, hp => by
    by_cases hB : oB d
    · rw [tN_b hB] at hp
      rw [cLay_b hB ⟨rfl, rfl, rfl⟩] at g ⊢
      obtain ⟨⟨g1, g2, g3⟩, ⟨g4, g5, g6⟩, g7, g8⟩ := g
      exact ⟨⟨(f 11 p (by omega) (by omega) (by omega)).trans g1, (f 12 p (by omega) (by omega) (by omega)).trans g2, (f 13 p (by omega) (by omega) (by omega)).trans g3⟩, ⟨(f 14 p (by omega) (by omega) (by omega)).trans g4, (f 11 _ (by omega) (by omega) (by omega)).trans g5, (f 14 _ (by omega) (by omega) (by omega)).trans g6⟩, g7.tr f (by omega), g8.tr f (by omega)⟩
    · rw [tN_a hB] at hp
      rw [cLay_a hB ⟨rfl, rfl, rfl⟩] at g ⊢
      obtain ⟨⟨g1, g2, g3⟩, g4⟩ := g
      exact ⟨⟨(f 11 p (by omega) (by omega) (by omega)).trans g1, (f 12 p (by omega) (by omega) (by omega)).trans g2, (f 13 p (by omega) (by omega) (by omega)).trans g3⟩, g4.tr f (by omega)⟩
theorem rIt.tr {o o' w : Nat} {h h' : zH} {k a b s : Nat} (f : ∀ j, 277 ≤ j → j < 547 → h' 126 (o' + j) = h 126 (o + j)) (g : rIt o w h k a b s) (hs : s < 30) : rIt o' w h' k a b s := by
  have e : ∀ j, 277 ≤ j → j ≤ 285 → h' 126 (o' + j + 9 * s) = h 126 (o + j + 9 * s) := fun j h1 h2 => by
    have := f (j + 9 * s) (by omega) (by omega)
    rw [← Nat.add_assoc, ← Nat.add_assoc] at this
    exact this
  obtain ⟨g1, g2, g3, g4, g5, g6⟩ := g
  exact ⟨(e 277 (by omega) (by omega)).trans g1, fun c => (e 278 (by omega) (by omega)).trans (g2 c), fun c => (e 279 (by omega) (by omega)).trans (g3 c), fun c => (e 279 (by omega) (by omega)).trans (g4 c), fun c => (e 283 (by omega) (by omega)).trans (g5 c), fun c => (e 284 (by omega) (by omega)).trans (g6 c)⟩
theorem rLay.tr {o o' w : Nat} {h h' : zH} (f : ∀ j, 277 ≤ j → j < 547 → h' 126 (o' + j) = h 126 (o + j)) : ∀ {t : OT} {s : Nat}, rLay o w h t s → s + tS t ≤ 30 → rLay o' w h' t s
  | .leaf _, _, _, _ => trivial
  | .branch d y r, s, g, hs => by
    by_cases hB : oB d
    · rw [tS_b hB] at hs
      rw [rLay_b hB ⟨rfl, rfl, rfl⟩] at g ⊢
      obtain ⟨g1, g2, g3, g4⟩ := g
      have := f (285 + 9 * s) (by omega) (by omega)
      rw [← Nat.add_assoc, ← Nat.add_assoc] at this
      exact ⟨g1.tr f (by omega), this.trans g2, g3.tr f (by omega), g4.tr f (by omega)⟩
    · rw [tS_a hB] at hs
      rw [rLay_a hB ⟨rfl, rfl, rfl⟩] at g ⊢
      obtain ⟨g1, g2, g3⟩ := g
      have := f (285 + 9 * s) (by omega) (by omega)
      rw [← Nat.add_assoc, ← Nat.add_assoc] at this
      exact ⟨g1.tr f (by omega), this.trans g2, g3.tr f (by omega)⟩
/-- the state of a run: the LAND, the seed, done, missed, bitten, stuck, over (1 stopped, 2 a step left) -/
abbrev RuS := PT × Int × Nat × Nat × Nat × Nat × Nat
def RuS.P (S : RuS) : PT := S.1
def RuS.r (S : RuS) : Int := S.2.1
def RuS.dn (S : RuS) : Nat := S.2.2.1
def RuS.ms (S : RuS) : Nat := S.2.2.2.1
def RuS.bt (S : RuS) : Nat := S.2.2.2.2.1
def RuS.sk (S : RuS) : Nat := S.2.2.2.2.2.1
def RuS.ov (S : RuS) : Nat := S.2.2.2.2.2.2
def sSr (S : RuS) (r : Int) : RuS := (S.P, r, S.dn, S.ms, S.bt, S.sk, S.ov)
def sSP (S : RuS) (P : PT) : RuS := (P, S.r, S.dn, S.ms, S.bt, S.sk, S.ov)
def sPr (S : RuS) (P : PT) (r : Int) : RuS := (P, r, S.dn, S.ms, S.bt, S.sk, S.ov)
def sPb (S : RuS) (P : PT) (b : Nat) : RuS := (P, S.r, S.dn, S.ms, b, S.sk, S.ov)
def sPk (S : RuS) (P : PT) (k : Nat) : RuS := (P, S.r, S.dn, S.ms, S.bt, k, S.ov)
def sOv (S : RuS) (v : Nat) : RuS := (S.P, S.r, S.dn, S.ms, S.bt, S.sk, v)
def sSm (S : RuS) (v : Nat) : RuS := (S.P, S.r, S.dn, v, S.bt, S.sk, S.ov)
def sSd (S : RuS) (v : Nat) : RuS := (S.P, S.r, v, S.ms, S.bt, S.sk, S.ov)
def dR (r : Int) : Int := (r * 2837 + 10331) % 65536
def dV (r n : Int) : Int := dR r / 8 % n
def dQ (P : PT) (r : Int) : Nat := 8 * (dV (dR r) (P 0 1)).toNat + (dV r (P 0 0)).toNat
def sMiss (S : RuS) : RuS := (sSm S (S.ms + 1))
def sEat (j q : Nat) (S : RuS) : RuS := if S.P 3 (48 * j + q) = 1 then S else (sPb S (pBite S.P j q) (S.bt + 1))
def sTo (P : PT) (r : Int) (q : Nat) : Nat := if gNb P q (dV r 4).toNat = -1 then q else (gNb P q (dV r 4).toNat).toNat
def sMouse (j : Nat) : Nat → Nat → RuS → RuS
  | 0, _, S => S
  | n + 1, q, S => sMouse j n (sTo S.P S.r q) (sEat j (sTo S.P S.r q) (sSr S (dR S.r)))
noncomputable def mC (P : PT) (m : Nat) : Int := yCost P (gCo P (P 8 m).toNat) (P 6 m).toNat (P 7 m).toNat
noncomputable def mP (P : PT) (m : Nat) : Nat → Nat := yPt P (gCo P (P 8 m).toNat) (P 6 m).toNat (P 7 m).toNat
noncomputable def mN (P : PT) (m : Nat) : Nat := yN P (gCo P (P 8 m).toNat) (P 6 m).toNat (P 7 m).toNat
noncomputable def mS (P : PT) (m : Nat) : Nat := wStop P (mP P m) (mN P m) 0
noncomputable def sMarch (m : Nat) (S : RuS) : RuS := if mC S.P m = -1 then sMiss S else (sPk S (pGo S.P m (mP S.P m) (mS S.P m)) (S.sk + (if mS S.P m < mN S.P m then 1 else 0)))
noncomputable def sDo (k a b : Nat) (S : RuS) : RuS :=
  if k = 8 then (if S.P 3 (48 * a + b) = 1 then sMiss S else sEat a b S)
  else if k = 9 then (if S.P 3 (48 * a + dQ S.P S.r) = 0 then (sPr S (pSt S.P a (dQ S.P S.r) 2) (dR (dR S.r))) else sMiss (sSr S (dR (dR S.r))))
  else if k = 10 then (if S.P 3 (48 * a + b) = 0 ∨ S.P 3 (48 * a + b) = 2 then (sSP S (pSt S.P a b 3)) else sMiss S)
  else if k = 11 then (if a = b then sMiss S else (sSP S (pSteam S.P a b)))
  else if k = 12 then sMouse a b (dQ S.P S.r) (sEat a (dQ S.P S.r) (sSr S (dR (dR S.r))))
  else if k = 13 then sMarch a S
  else if k = 14 then (sSP S (pHome S.P))
  else (sOv S 1)
def sSo (k a b : Nat) (P : PT) : Prop := (k = 16 ∧ P 3 (48 * a + b) = 1) ∨ (k = 17 ∧ P 6 a = P 7 a) ∨ (k = 18 ∧ ((a = 60 ∧ P 0 4 < (b : Int)) ∨ (a = 62 ∧ (b : Int) < P 0 4) ∨ (a = 61 ∧ P 0 4 = (b : Int))))
def evN (f : RuS → RuS) : Nat → RuS → RuS
  | 0, S => S
  | n + 1, S => evN f n (f S)
def sUp (S : RuS) : RuS := (sSd S (S.dn + 1))
def sLeft (S : RuS) : RuS := (sOv S 2)
noncomputable def evT (k a b : Nat) (P : PT) (S1 S2 : RuS) : RuS := @ite RuS (sSo k a b P) (Classical.propDecidable _) S1 S2
theorem evT_y {k a b : Nat} {P : PT} {S1 S2 : RuS} (h : sSo k a b P) : evT k a b P S1 S2 = S1 := if_pos h
theorem evT_n {k a b : Nat} {P : PT} {S1 S2 : RuS} (h : ¬ sSo k a b P) : evT k a b P S1 S2 = S2 := if_neg h
noncomputable def ev : OT → RuS → RuS
  | .leaf _, S => S
  | .branch d y r, S => if S.ov ≠ 0 then S else if S.dn = 300 then sLeft S else if oB d then ev r (if d % 32 = 19 then evN (fun S => ev y S) (d / 32 % 128) (sUp S) else evT (d % 32) (d / 32 % 128) (d / 4096) S.P (ev y (sUp S)) (sUp S)) else ev r (sDo (d % 32) (d / 32 % 128) (d / 4096) (sUp S))
theorem ev_ov {S : RuS} (h : S.ov ≠ 0) : ∀ t : OT, ev t S = S
  | .leaf _ => rfl
  | .branch _ _ _ => if_pos h
theorem evN_ov {S : RuS} (h : S.ov ≠ 0) (t : OT) : ∀ n : Nat, evN (ev t) n S = S
  | 0 => rfl
  | n + 1 => by
    show evN (ev t) n (ev t S) = S
    rw [ev_ov h t]
    exact evN_ov h t n
section EVU
variable {d k a b : Nat} {y r : OT} {S : RuS}
theorem ev_3 (o : S.ov = 0) (h : S.dn = 300) : ev (.branch d y r) S = sLeft S := (if_neg (fun c => c o)).trans (if_pos h)
theorem ev_b (o : S.ov = 0) (h : ¬ S.dn = 300) (hB : oB d) (hd : oD d k a b) : ev (.branch d y r) S = ev r (if k = 19 then evN (ev y) a (sUp S) else evT k a b S.P (ev y (sUp S)) (sUp S)) := by
  obtain ⟨rfl, rfl, rfl⟩ := hd
  exact (if_neg (fun c => c o)).trans ((if_neg h).trans (if_pos hB))
theorem ev_a (o : S.ov = 0) (h : ¬ S.dn = 300) (hB : ¬ oB d) (hd : oD d k a b) : ev (.branch d y r) S = ev r (sDo k a b (sUp S)) := by
  obtain ⟨rfl, rfl, rfl⟩ := hd
  exact (if_neg (fun c => c o)).trans ((if_neg h).trans (if_neg hB))
end EVU
/-- what holds of a run's state -/
def ruB (S : RuS) : Prop := fB S.P ∧ (1 ≤ S.P 0 0 ∧ 1 ≤ S.P 0 1) ∧ (0 ≤ S.r ∧ S.r < 65536) ∧ S.ms ≤ S.dn ∧ S.bt ≤ 13 * S.dn ∧ S.sk ≤ S.dn ∧ S.dn ≤ 300 ∧ S.ov ≤ 2
theorem dR_b (r : Int) : 0 ≤ dR r ∧ dR r < 65536 := by unfold dR; omega
theorem dV_b {r n : Int} (hn : 1 ≤ n) : 0 ≤ dV r n ∧ dV r n < n := by
  have := dR_b r
  unfold dV
  exact ⟨Int.emod_nonneg _ (by omega), Int.emod_lt_of_pos _ (by omega)⟩
theorem dQ_in {P : PT} (lb : lB P) (h : 1 ≤ P 0 0 ∧ 1 ≤ P 0 1) (r : Int) : gIn P (dQ P r) := by
  obtain ⟨⟨w0, w8⟩, ⟨r0, r6⟩, _⟩ := lb
  have a := dV_b (r := r) h.1
  have b := dV_b (r := dR r) h.2
  unfold dQ
  refine ⟨by omega, by omega, by omega⟩
/-- what holds on, with so many bites at most -/
def rBb (S : RuS) (B : Nat) : Prop := fB S.P ∧ (1 ≤ S.P 0 0 ∧ 1 ≤ S.P 0 1) ∧ (0 ≤ S.r ∧ S.r < 65536) ∧ S.ms ≤ S.dn ∧ S.bt ≤ B ∧ S.sk ≤ S.dn ∧ S.dn ≤ 300 ∧ S.ov ≤ 2
theorem rBb.draw {S : RuS} {B : Nat} (h : rBb S B) (r : Int) : rBb (sSr S (dR r)) B := ⟨h.1, h.2.1, dR_b r, h.2.2.2⟩
theorem sEat_b {S : RuS} {B j q : Nat} (h : rBb S B) : rBb (sEat j q S) (B + 1) ∧ pSh S.P (sEat j q S).P ∧ (sEat j q S).dn = S.dn ∧ (sEat j q S).ov = S.ov ∧ (sEat j q S).r = S.r := by
  obtain ⟨a1, a2, a3, a4, a5, a6, a7, a8⟩ := h
  unfold sEat
  by_cases c : S.P 3 (48 * j + q) = 1
  · rw [if_pos c]
    exact ⟨⟨a1, a2, a3, a4, by omega, a6, a7, a8⟩, pSh.rfl, rfl, rfl, rfl⟩
  · rw [if_neg c]
    exact ⟨⟨(a1.s3 (by decide)).s04, a2, a3, a4, Nat.succ_le_succ a5, a6, a7, a8⟩, ⟨rfl, rfl, rfl, rfl⟩, rfl, rfl, rfl⟩
theorem sEat_ms {S : RuS} {j q : Nat} : (sEat j q S).ms = S.ms := by
  unfold sEat
  split <;> rfl
theorem sMarch_ms {S : RuS} {m : Nat} (c : mC S.P m ≠ -1) : (sMarch m S).ms = S.ms := by
  unfold sMarch
  split
  · exact absurd (by assumption) c
  · rfl
theorem sMouse_b {j : Nat} : ∀ (n : Nat) {q : Nat} {S : RuS} {B : Nat}, rBb S B → rBb (sMouse j n q S) (B + n) ∧ pSh S.P (sMouse j n q S).P ∧ (sMouse j n q S).dn = S.dn ∧ (sMouse j n q S).ov = S.ov
  | 0, _, _, _, h => ⟨h, pSh.rfl, rfl, rfl⟩
  | n + 1, q, S, B, h => by
    obtain ⟨b1, b2, b3, b4, _⟩ := sEat_b (j := j) (q := sTo S.P S.r q) (h.draw S.r)
    obtain ⟨c1, c2, c3, c4⟩ := sMouse_b n (q := sTo S.P S.r q) b1
    rw [show B + (n + 1) = B + 1 + n from by omega]
    exact ⟨c1, b2.trans c2, c3.trans b3, c4.trans b4⟩
theorem mC_n {P : PT} {m : Nat} (hb : fB P) (hm : (m : Int) < P 0 3) (c : mC P m ≠ -1) : 0 ≤ mC P m := by
  obtain ⟨_, ⟨_, g6⟩, _⟩ := hb.2.2.2 m hm
  have := yCost_n (co := gCo P (P 8 m).toNat) (to := (P 7 m).toNat) g6
  unfold mC at c ⊢
  omega
theorem mP_ok {P : PT} {m : Nat} (hb : fB P) (hm : (m : Int) < P 0 3) (c : 0 ≤ mC P m) : mN P m ≤ 47 ∧ ∀ i, i ≤ mN P m → gIn P (mP P m i) := by
  obtain ⟨_, ⟨_, g6⟩, _⟩ := hb.2.2.2 m hm
  exact yPt_ok hb g6 c
theorem mS_le {P : PT} {m : Nat} : mS P m ≤ mN P m := by
  have := (wStop_b (P := P) (p := mP P m) (mN P m) 0).2
  unfold mS
  omega
theorem fB_march {P : PT} {m : Nat} (hb : fB P) (hm : (m : Int) < P 0 3) (c : 0 ≤ mC P m) : fB (pGo P m (mP P m) (mS P m)) := by
  have o := (mP_ok hb hm c).2
  have l := mS_le (P := P) (m := m)
  exact fB_go hb _ (fun k _ h => o k (by omega))
theorem pGo_sh {P : PT} {m i : Nat} {p : Nat → Nat} : pSh P (pGo P m p i) := ⟨pGo_1 i 0 0 (by decide) (by decide), pGo_1 i 0 1 (by decide) (by decide), pGo_1 i 0 2 (by decide) (by decide), pGo_1 i 0 3 (by decide) (by decide)⟩
theorem sDo_ok {S : RuS} {k a b : Nat} (h : ruB S) (hd : S.dn < 300) (hk : (8 ≤ k ∧ k ≤ 14) ∨ k = 21) (ok : oIt S.P k a b) : ruB (sDo k a b (sUp S)) ∧ pSh S.P (sDo k a b (sUp S)).P ∧ (sDo k a b (sUp S)).dn = S.dn + 1 ∧ (k ≠ 21 → (sDo k a b (sUp S)).ov = S.ov) := by
  obtain ⟨a1, a2, a3, a4, a5, a6, a7, a8⟩ := id h
  obtain ⟨o1, o2, o3, o4, o5, o6, o7⟩ := ok
  have u0 : rBb (sUp S) (13 * S.dn) := ⟨a1, a2, a3, Nat.le_succ_of_le a4, a5, Nat.le_succ_of_le a6, hd, a8⟩
  have up : ∀ {S' : RuS} {B : Nat}, rBb S' B → S'.dn = S.dn + 1 → B ≤ 13 * S.dn + 13 → ruB S' := fun q e hB => ⟨q.1, q.2.1, q.2.2.1, q.2.2.2.1, by have := q.2.2.2.2.1; omega, q.2.2.2.2.2⟩
  have miss : ∀ {S' : RuS}, rBb S' (13 * S.dn) → S'.dn = S.dn + 1 → S'.ms = S.ms → ruB (sMiss S') := fun {S'} q e e2 => ⟨q.1, q.2.1, q.2.2.1, by show S'.ms + 1 ≤ S'.dn; omega, by show S'.bt ≤ 13 * S'.dn; have := q.2.2.2.2.1; omega, q.2.2.2.2.2⟩
  have hk' : k = 8 ∨ k = 9 ∨ k = 10 ∨ k = 11 ∨ k = 12 ∨ k = 13 ∨ k = 14 ∨ k = 21 := by omega
  rcases hk' with rfl | rfl | rfl | rfl | rfl | rfl | rfl | rfl
  · show ruB (if S.P 3 (48 * a + b) = 1 then sMiss (sUp S) else sEat a b (sUp S)) ∧ pSh S.P (if S.P 3 (48 * a + b) = 1 then sMiss (sUp S) else sEat a b (sUp S)).P ∧ (if S.P 3 (48 * a + b) = 1 then sMiss (sUp S) else sEat a b (sUp S)).dn = S.dn + 1 ∧ ((8 : Nat) ≠ 21 → (if S.P 3 (48 * a + b) = 1 then sMiss (sUp S) else sEat a b (sUp S)).ov = S.ov)
    by_cases c : S.P 3 (48 * a + b) = 1
    · rw [if_pos c]
      exact ⟨miss u0 rfl rfl, pSh.rfl, rfl, fun _ => rfl⟩
    · rw [if_neg c]
      obtain ⟨b1, b2, b3, b4, _⟩ := sEat_b (j := a) (q := b) u0
      exact ⟨up b1 b3 (by omega), b2, b3, fun _ => b4⟩
  · show ruB (if S.P 3 (48 * a + dQ S.P S.r) = 0 then (sPr (sUp S) (pSt S.P a (dQ S.P S.r) 2) (dR (dR S.r))) else sMiss (sSr (sUp S) (dR (dR S.r)))) ∧ pSh S.P (if S.P 3 (48 * a + dQ S.P S.r) = 0 then (sPr (sUp S) (pSt S.P a (dQ S.P S.r) 2) (dR (dR S.r))) else sMiss (sSr (sUp S) (dR (dR S.r)))).P ∧ (if S.P 3 (48 * a + dQ S.P S.r) = 0 then (sPr (sUp S) (pSt S.P a (dQ S.P S.r) 2) (dR (dR S.r))) else sMiss (sSr (sUp S) (dR (dR S.r)))).dn = S.dn + 1 ∧ ((9 : Nat) ≠ 21 → (if S.P 3 (48 * a + dQ S.P S.r) = 0 then (sPr (sUp S) (pSt S.P a (dQ S.P S.r) 2) (dR (dR S.r))) else sMiss (sSr (sUp S) (dR (dR S.r)))).ov = S.ov)
    by_cases c : S.P 3 (48 * a + dQ S.P S.r) = 0
    · rw [if_pos c]
      exact ⟨up (S' := (sPr (sUp S) (pSt S.P a (dQ S.P S.r) 2) (dR (dR S.r)))) (B := 13 * S.dn) ⟨a1.s3 (by decide), a2, dR_b _, u0.2.2.2⟩ rfl (by omega), ⟨rfl, rfl, rfl, rfl⟩, rfl, fun _ => rfl⟩
    · rw [if_neg c]
      exact ⟨miss (u0.draw _) rfl rfl, pSh.rfl, rfl, fun _ => rfl⟩
  · show ruB (if S.P 3 (48 * a + b) = 0 ∨ S.P 3 (48 * a + b) = 2 then (sSP (sUp S) (pSt S.P a b 3)) else sMiss (sUp S)) ∧ pSh S.P (if S.P 3 (48 * a + b) = 0 ∨ S.P 3 (48 * a + b) = 2 then (sSP (sUp S) (pSt S.P a b 3)) else sMiss (sUp S)).P ∧ (if S.P 3 (48 * a + b) = 0 ∨ S.P 3 (48 * a + b) = 2 then (sSP (sUp S) (pSt S.P a b 3)) else sMiss (sUp S)).dn = S.dn + 1 ∧ ((10 : Nat) ≠ 21 → (if S.P 3 (48 * a + b) = 0 ∨ S.P 3 (48 * a + b) = 2 then (sSP (sUp S) (pSt S.P a b 3)) else sMiss (sUp S)).ov = S.ov)
    by_cases c : S.P 3 (48 * a + b) = 0 ∨ S.P 3 (48 * a + b) = 2
    · rw [if_pos c]
      exact ⟨up (S' := (sSP (sUp S) (pSt S.P a b 3))) (B := 13 * S.dn) ⟨a1.s3 (by decide), a2, u0.2.2⟩ rfl (by omega), ⟨rfl, rfl, rfl, rfl⟩, rfl, fun _ => rfl⟩
    · rw [if_neg c]
      exact ⟨miss u0 rfl rfl, pSh.rfl, rfl, fun _ => rfl⟩
  · show ruB (if a = b then sMiss (sUp S) else (sSP (sUp S) (pSteam S.P a b))) ∧ pSh S.P (if a = b then sMiss (sUp S) else (sSP (sUp S) (pSteam S.P a b))).P ∧ (if a = b then sMiss (sUp S) else (sSP (sUp S) (pSteam S.P a b))).dn = S.dn + 1 ∧ ((11 : Nat) ≠ 21 → (if a = b then sMiss (sUp S) else (sSP (sUp S) (pSteam S.P a b))).ov = S.ov)
    by_cases c : a = b
    · rw [if_pos c]
      exact ⟨miss u0 rfl rfl, pSh.rfl, rfl, fun _ => rfl⟩
    · rw [if_neg c]
      have l3 := a1.1.2.2.1.2
      have := (o3 rfl).1
      exact ⟨up (S' := (sSP (sUp S) (pSteam S.P a b))) (B := 13 * S.dn) ⟨a1.steam (by omega), a2, u0.2.2⟩ rfl (by omega), ⟨rfl, rfl, rfl, rfl⟩, rfl, fun _ => rfl⟩
  · show ruB (sMouse a b (dQ S.P S.r) (sEat a (dQ S.P S.r) (sSr (sUp S) (dR (dR S.r))))) ∧ pSh S.P (sMouse a b (dQ S.P S.r) (sEat a (dQ S.P S.r) (sSr (sUp S) (dR (dR S.r))))).P ∧ (sMouse a b (dQ S.P S.r) (sEat a (dQ S.P S.r) (sSr (sUp S) (dR (dR S.r))))).dn = S.dn + 1 ∧ ((12 : Nat) ≠ 21 → (sMouse a b (dQ S.P S.r) (sEat a (dQ S.P S.r) (sSr (sUp S) (dR (dR S.r))))).ov = S.ov)
    obtain ⟨b1, b2, b3, b4, _⟩ := sEat_b (j := a) (q := dQ S.P S.r) (u0.draw (dR S.r))
    obtain ⟨c1, c2, c3, c4⟩ := sMouse_b (j := a) b (q := dQ S.P S.r) b1
    have := (o4 rfl).2
    exact ⟨up c1 (c3.trans b3) (by omega), b2.trans c2, c3.trans b3, fun _ => c4.trans b4⟩
  · have hm : (a : Int) < S.P 0 3 := o5 (Or.inl rfl)
    show ruB (sMarch a (sUp S)) ∧ pSh S.P (sMarch a (sUp S)).P ∧ (sMarch a (sUp S)).dn = S.dn + 1 ∧ ((13 : Nat) ≠ 21 → (sMarch a (sUp S)).ov = S.ov)
    unfold sMarch
    by_cases c : mC (sUp S).P a = -1
    · rw [if_pos c]
      exact ⟨miss u0 rfl rfl, pSh.rfl, rfl, fun _ => rfl⟩
    · rw [if_neg c]
      have c0 := mC_n a1 hm c
      refine ⟨⟨fB_march a1 hm c0, ?_, u0.2.2.1, u0.2.2.2.1, ?_, ?_, hd, a8⟩, pGo_sh, rfl, fun _ => rfl⟩
      · show 1 ≤ pGo S.P a (mP S.P a) (mS S.P a) 0 0 ∧ 1 ≤ pGo S.P a (mP S.P a) (mS S.P a) 0 1
        rw [pGo_sh.1, pGo_sh.2.1]
        exact a2
      · show S.bt ≤ 13 * (S.dn + 1)
        omega
      · show S.sk + (if mS S.P a < mN S.P a then 1 else 0) ≤ S.dn + 1
        split <;> omega
  · exact ⟨up (S' := (sSP (sUp S) (pHome S.P))) (B := 13 * S.dn) ⟨a1.home, a2, u0.2.2⟩ rfl (by omega), ⟨rfl, rfl, rfl, rfl⟩, rfl, fun _ => rfl⟩
  · exact ⟨up (S' := (sOv (sUp S) 1)) (B := 13 * S.dn) ⟨a1, a2, u0.2.2.1, u0.2.2.2.1, u0.2.2.2.2.1, u0.2.2.2.2.2.1, hd, (by show 1 ≤ 2; decide)⟩ rfl (by omega), pSh.rfl, rfl, fun c => absurd rfl c⟩
theorem sUp_ok {S : RuS} (h : ruB S) (hd : S.dn < 300) : ruB (sUp S) := ⟨h.1, h.2.1, h.2.2.1, Nat.le_succ_of_le h.2.2.2.1, by show S.bt ≤ 13 * (S.dn + 1); have := h.2.2.2.2.1; omega, Nat.le_succ_of_le h.2.2.2.2.2.1, hd, h.2.2.2.2.2.2.2⟩
theorem evN_ok {P : PT} {f : RuS → RuS} (hf : ∀ S, ruB S → pSh P S.P → ruB (f S) ∧ pSh S.P (f S).P ∧ S.dn ≤ (f S).dn) : ∀ (n : Nat) (S : RuS), ruB S → pSh P S.P → ruB (evN f n S) ∧ pSh S.P (evN f n S).P ∧ S.dn ≤ (evN f n S).dn
  | 0, _, h, _ => ⟨h, pSh.rfl, Nat.le_refl _⟩
  | n + 1, S, h, e => by
    obtain ⟨b1, b2, b3⟩ := hf S h e
    obtain ⟨c1, c2, c3⟩ := evN_ok hf n (f S) b1 (e.trans b2)
    exact ⟨c1, b2.trans c2, Nat.le_trans b3 c3⟩
theorem ev_ok {P : PT} : ∀ (t : OT) (S : RuS), oOk P t → ruB S → pSh P S.P → ruB (ev t S) ∧ pSh S.P (ev t S).P ∧ S.dn ≤ (ev t S).dn
  | .leaf _, _, _, h, _ => ⟨h, pSh.rfl, Nat.le_refl _⟩
  | .branch d y r, S, o, h, e => by
    obtain ⟨k, a, b, hd⟩ : ∃ k a b, oD d k a b := ⟨_, _, _, rfl, rfl, rfl⟩
    by_cases c : S.ov = 0
    · by_cases d3 : S.dn = 300
      · rw [ev_3 c d3]
        exact ⟨⟨h.1, h.2.1, h.2.2.1, h.2.2.2.1, h.2.2.2.2.1, h.2.2.2.2.2.1, h.2.2.2.2.2.2.1, Nat.le_refl 2⟩, pSh.rfl, Nat.le_refl _⟩
      · have d7 := h.2.2.2.2.2.2.1
        by_cases hB : oB d
        · rw [ev_b c d3 hB hd]
          rw [oOk_b hB hd] at o
          obtain ⟨it, oy, or⟩ := o
          have u := sUp_ok h (by omega)
          have m : ∀ S1 : RuS, ruB S1 → pSh S.P S1.P → S.dn + 1 ≤ S1.dn → ruB (ev r S1) ∧ pSh S.P (ev r S1).P ∧ S.dn ≤ (ev r S1).dn := fun S1 b1 b2 b3 => by
            obtain ⟨c1, c2, c3⟩ := ev_ok r S1 or b1 (e.trans b2)
            exact ⟨c1, b2.trans c2, by omega⟩
          have hy : ∀ S1 : RuS, ruB S1 → pSh P S1.P → ruB (ev y S1) ∧ pSh S1.P (ev y S1).P ∧ S1.dn ≤ (ev y S1).dn := fun S1 => ev_ok y S1 oy
          by_cases k9 : k = 19
          · rw [if_pos k9]
            obtain ⟨c1, c2, c3⟩ := evN_ok hy a (sUp S) u e
            exact m _ c1 c2 c3
          · rw [if_neg k9]
            by_cases q : sSo k a b S.P
            · rw [evT_y q]
              obtain ⟨c1, c2, c3⟩ := hy (sUp S) u e
              exact m _ c1 c2 c3
            · rw [evT_n q]
              exact m _ u pSh.rfl (Nat.le_refl _)
        · rw [ev_a c d3 hB hd]
          rw [oOk_a hB hd] at o
          obtain ⟨b1, b2, b3, _⟩ := sDo_ok (a := a) (b := b) h (by omega) o.1 (e.it o.2.1)
          obtain ⟨c1, c2, c3⟩ := ev_ok r _ o.2.2 b1 (e.trans b2)
          exact ⟨c1, b2.trans c2, by omega⟩
    · rw [ev_ov c]
      exact ⟨h, pSh.rfl, Nat.le_refl _⟩
theorem and65 {x : Int} (h0 : 0 ≤ x) (h1 : x < 2147483648) : (zf32 3 (Int32.ofInt x) (Int32.ofInt 65535)).toInt = x % 65536 := by
  obtain ⟨n, rfl⟩ : ∃ n : Nat, x = (n : Int) := ⟨x.toNat, by omega⟩
  have e : ((Int32.ofInt (n : Int)).toBitVec &&& (Int32.ofInt 65535).toBitVec).toNat = n % 65536 := by
    rw [BitVec.toNat_and]
    have e1 : (Int32.ofInt (n : Int)).toBitVec.toNat = n := by
      show (BitVec.ofInt 32 (n : Int)).toNat = n
      rw [BitVec.toNat_ofInt]
      omega
    rw [e1]
    exact Nat.and_two_pow_sub_one_eq_mod n 16
  show ((Int32.ofInt (n : Int)).toBitVec &&& (Int32.ofInt 65535).toBitVec).toInt = _
  rw [BitVec.toInt_eq_toNat_of_lt (by rw [e]; omega), e]
  omega
def runS (P : PT) (seed : Nat) : RuS := (P, (seed : Int), 0, 0, 0, 0, 0)
theorem runS_B {P : PT} {seed : Nat} (hb : fB P) (hw : 1 ≤ P 0 0 ∧ 1 ≤ P 0 1) (hsd : seed ≤ 9999) : ruB (runS P seed) := ⟨hb, hw, ⟨by show (0 : Int) ≤ (seed : Int); omega, by show (seed : Int) < 65536; omega⟩, Nat.le_refl _, Nat.zero_le _, Nat.le_refl _, by show 0 ≤ 300; decide, by show 0 ≤ 2; decide⟩
end
