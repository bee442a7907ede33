/-! WHAT BITES AND THE REST MAKE OF A LAND, PURE -/
def wA (x y : Int) : Int := (zf32 0 (Int32.ofInt x) (Int32.ofInt y)).toInt
def pSt (P : PT) (j q : Nat) (v : Int) : PT := pset P 3 (48 * j + q) v
def pBite (P : PT) (j q : Nat) : PT := pset (pSt P j q 1) 0 4 (wA (P 0 4) (gCr P q))
def pSteam (P : PT) (j t : Nat) : PT := fun a b => if a = 3 ∧ 48 * t ≤ b ∧ b < 48 * t + 48 then P 3 (48 * j + (b - 48 * t)) else P a b
def pHome (P : PT) : PT := fun a b => if a = 6 then P 5 b else P a b
def cFr (c : Nat) (h g : zH) : Prop := ∀ a b, ¬ (c ≤ a ∧ a ≤ c + 9) → g a b = h a b
def bFr (h g : zH) : Prop := ∀ a b, ¬ (a = 126 ∧ b < 275) → g a b = h a b
theorem cFr.z {c a b : Nat} {v : zV} {h g : zH} (ha : c ≤ a ∧ a ≤ c + 9) (f : cFr c h g) : cFr c h (zset g a b v) := fun x y hn => (zset_ne (fun e => hn (by omega))).trans (f x y hn)
theorem cFr.trans {c : Nat} {h g g2 : zH} (f : cFr c h g) (f2 : cFr c g g2) : cFr c h g2 := fun x y hn => (f2 x y hn).trans (f x y hn)
theorem bFr.z {b : Nat} {v : zV} {h g : zH} (hb : b < 275) (f : bFr h g) : bFr h (zset g 126 b v) := fun x y hn => (zset_ne (fun e => hn ⟨e.1, by omega⟩)).trans (f x y hn)
theorem bFr.trans {h g g2 : zH} (f : bFr h g) (f2 : bFr g g2) : bFr h g2 := fun x y hn => (f2 x y hn).trans (f x y hn)
section CP8
variable {r : Nat} {P : PT} {h : zH}
theorem cP.s3 (g : cP r P h) {i : Nat} {v : Int} : cP r (pset P 3 i v) (zset h (r + 3) i (0, v)) := by
  obtain ⟨⟨a0, a1, a2, a3, a4⟩, b1, b2, b3, b4⟩ := g
  refine ⟨⟨(zset_ne (by omega)).trans a0, (zset_ne (by omega)).trans a1, (zset_ne (by omega)).trans a2, (zset_ne (by omega)).trans a3, (zset_ne (by omega)).trans a4⟩, fun k hk => (zset_ne (by omega)).trans (b1 k hk), fun k hk => (zset_ne (by omega)).trans (b2 k hk), fun k hk => ?_, fun k hk => ?_⟩
  · show zset h (r + 3) i (0, v) (r + 3) k = (0, if 3 = 3 ∧ k = i then v else P 3 k)
    by_cases c : k = i
    · rw [c, if_pos ⟨rfl, rfl⟩]; exact zset_same
    · rw [if_neg (fun e => c e.2)]; exact (zset_ne (fun e => c e.2)).trans (b3 k hk)
  · obtain ⟨c4, c5, c6, c7, c8, c9⟩ := b4 k hk
    exact ⟨(zset_ne (by omega)).trans c4, (zset_ne (by omega)).trans c5, (zset_ne (by omega)).trans c6, (zset_ne (by omega)).trans c7, (zset_ne (by omega)).trans c8, (zset_ne (by omega)).trans c9⟩
theorem cP.s04 (g : cP r P h) {v : Int} : cP r (pset P 0 4 v) (zset h r 4 (0, v)) := by
  obtain ⟨⟨a0, a1, a2, a3, a4⟩, b1, b2, b3, b4⟩ := g
  refine ⟨⟨(zset_ne (by omega)).trans a0, (zset_ne (by omega)).trans a1, (zset_ne (by omega)).trans a2, (zset_ne (by omega)).trans a3, zset_same⟩, fun k hk => (zset_ne (by omega)).trans (b1 k hk), fun k hk => (zset_ne (by omega)).trans (b2 k hk), fun k hk => (zset_ne (by omega)).trans (b3 k hk), fun k hk => ?_⟩
  obtain ⟨c4, c5, c6, c7, c8, c9⟩ := b4 k hk
  exact ⟨(zset_ne (by omega)).trans c4, (zset_ne (by omega)).trans c5, (zset_ne (by omega)).trans c6, (zset_ne (by omega)).trans c7, (zset_ne (by omega)).trans c8, (zset_ne (by omega)).trans c9⟩
theorem cP.s6 (g : cP r P h) {i : Nat} {v : Int} : cP r (pset P 6 i v) (zset h (r + 6) i (0, v)) := by
  obtain ⟨⟨a0, a1, a2, a3, a4⟩, b1, b2, b3, b4⟩ := g
  refine ⟨⟨(zset_ne (by omega)).trans a0, (zset_ne (by omega)).trans a1, (zset_ne (by omega)).trans a2, (zset_ne (by omega)).trans a3, (zset_ne (by omega)).trans a4⟩, fun k hk => (zset_ne (by omega)).trans (b1 k hk), fun k hk => (zset_ne (by omega)).trans (b2 k hk), fun k hk => (zset_ne (by omega)).trans (b3 k hk), fun k hk => ?_⟩
  obtain ⟨c4, c5, c6, c7, c8, c9⟩ := b4 k hk
  refine ⟨(zset_ne (by omega)).trans c4, (zset_ne (by omega)).trans c5, ?_, (zset_ne (by omega)).trans c7, (zset_ne (by omega)).trans c8, (zset_ne (by omega)).trans c9⟩
  show zset h (r + 6) i (0, v) (r + 6) k = (0, if 6 = 6 ∧ k = i then v else P 6 k)
  by_cases c : k = i
  · rw [c, if_pos ⟨rfl, rfl⟩]; exact zset_same
  · rw [if_neg (fun e => c e.2)]; exact (zset_ne (fun e => c e.2)).trans c6
theorem cP.s8 (g : cP r P h) {i : Nat} {v : Int} : cP r (pset P 8 i v) (zset h (r + 8) i (0, v)) := by
  obtain ⟨⟨a0, a1, a2, a3, a4⟩, b1, b2, b3, b4⟩ := g
  refine ⟨⟨(zset_ne (by omega)).trans a0, (zset_ne (by omega)).trans a1, (zset_ne (by omega)).trans a2, (zset_ne (by omega)).trans a3, (zset_ne (by omega)).trans a4⟩, fun k hk => (zset_ne (by omega)).trans (b1 k hk), fun k hk => (zset_ne (by omega)).trans (b2 k hk), fun k hk => (zset_ne (by omega)).trans (b3 k hk), fun k hk => ?_⟩
  obtain ⟨c4, c5, c6, c7, c8, c9⟩ := b4 k hk
  refine ⟨(zset_ne (by omega)).trans c4, (zset_ne (by omega)).trans c5, (zset_ne (by omega)).trans c6, (zset_ne (by omega)).trans c7, ?_, (zset_ne (by omega)).trans c9⟩
  show zset h (r + 8) i (0, v) (r + 8) k = (0, if 8 = 8 ∧ k = i then v else P 8 k)
  by_cases c : k = i
  · rw [c, if_pos ⟨rfl, rfl⟩]; exact zset_same
  · rw [if_neg (fun e => c e.2)]; exact (zset_ne (fun e => c e.2)).trans c8
theorem cP.s9 (g : cP r P h) {i : Nat} {v : Int} : cP r (pset P 9 i v) (zset h (r + 9) i (0, v)) := by
  obtain ⟨⟨a0, a1, a2, a3, a4⟩, b1, b2, b3, b4⟩ := g
  refine ⟨⟨(zset_ne (by omega)).trans a0, (zset_ne (by omega)).trans a1, (zset_ne (by omega)).trans a2, (zset_ne (by omega)).trans a3, (zset_ne (by omega)).trans a4⟩, fun k hk => (zset_ne (by omega)).trans (b1 k hk), fun k hk => (zset_ne (by omega)).trans (b2 k hk), fun k hk => (zset_ne (by omega)).trans (b3 k hk), fun k hk => ?_⟩
  obtain ⟨c4, c5, c6, c7, c8, c9⟩ := b4 k hk
  refine ⟨(zset_ne (by omega)).trans c4, (zset_ne (by omega)).trans c5, (zset_ne (by omega)).trans c6, (zset_ne (by omega)).trans c7, (zset_ne (by omega)).trans c8, ?_⟩
  show zset h (r + 9) i (0, v) (r + 9) k = (0, if 9 = 9 ∧ k = i then v else P 9 k)
  by_cases c : k = i
  · rw [c, if_pos ⟨rfl, rfl⟩]; exact zset_same
  · rw [if_neg (fun e => c e.2)]; exact (zset_ne (fun e => c e.2)).trans c9
theorem cP.steam (g : cP r P h) {j t : Nat} (hj : j < 3) (ht : t < 3) : cP r (pSteam P j t) (zcopy h (r + 3) (48 * j) (r + 3) (48 * t) 48) := by
  obtain ⟨⟨a0, a1, a2, a3, a4⟩, b1, b2, b3, b4⟩ := g
  have n : ∀ a k, a ≠ r + 3 → zcopy h (r + 3) (48 * j) (r + 3) (48 * t) 48 a k = h a k := fun a k ha => vcopy_ne (fun c => ha c.1)
  refine ⟨⟨(n _ _ (by omega)).trans a0, (n _ _ (by omega)).trans a1, (n _ _ (by omega)).trans a2, (n _ _ (by omega)).trans a3, (n _ _ (by omega)).trans a4⟩, fun k hk => (n _ _ (by omega)).trans (b1 k hk), fun k hk => (n _ _ (by omega)).trans (b2 k hk), fun k hk => ?_, fun k hk => ?_⟩
  · show (if r + 3 = r + 3 ∧ 48 * t ≤ k ∧ k < 48 * t + 48 then h (r + 3) (48 * j + (k - 48 * t)) else h (r + 3) k) = (0, if 3 = 3 ∧ 48 * t ≤ k ∧ k < 48 * t + 48 then P 3 (48 * j + (k - 48 * t)) else P 3 k)
    by_cases c : 48 * t ≤ k ∧ k < 48 * t + 48
    · rw [if_pos ⟨rfl, c⟩, if_pos ⟨rfl, c⟩]; exact b3 _ (by omega)
    · rw [if_neg (fun e => c e.2), if_neg (fun e => c e.2)]; exact b3 k hk
  · obtain ⟨c4, c5, c6, c7, c8, c9⟩ := b4 k hk
    exact ⟨(n _ _ (by omega)).trans c4, (n _ _ (by omega)).trans c5, (n _ _ (by omega)).trans c6, (n _ _ (by omega)).trans c7, (n _ _ (by omega)).trans c8, (n _ _ (by omega)).trans c9⟩
theorem cP.home (g : cP r P h) (l6 : P 0 3 ≤ 6) : cP r (pHome P) (zcopy h (r + 5) 0 (r + 6) 0 6) := by
  obtain ⟨⟨a0, a1, a2, a3, a4⟩, b1, b2, b3, b4⟩ := g
  have n : ∀ a k, a ≠ r + 6 → zcopy h (r + 5) 0 (r + 6) 0 6 a k = h a k := fun a k ha => vcopy_ne (fun c => ha c.1)
  refine ⟨⟨(n _ _ (by omega)).trans a0, (n _ _ (by omega)).trans a1, (n _ _ (by omega)).trans a2, (n _ _ (by omega)).trans a3, (n _ _ (by omega)).trans a4⟩, fun k hk => (n _ _ (by omega)).trans (b1 k hk), fun k hk => (n _ _ (by omega)).trans (b2 k hk), fun k hk => (n _ _ (by omega)).trans (b3 k hk), fun k hk => ?_⟩
  have hk : (k : Int) < P 0 3 := hk
  obtain ⟨c4, c5, c6, c7, c8, c9⟩ := b4 k hk
  refine ⟨(n _ _ (by omega)).trans c4, (n _ _ (by omega)).trans c5, ?_, (n _ _ (by omega)).trans c7, (n _ _ (by omega)).trans c8, (n _ _ (by omega)).trans c9⟩
  show (if r + 6 = r + 6 ∧ 0 ≤ k ∧ k < 0 + 6 then h (r + 5) (0 + (k - 0)) else h (r + 6) k) = (0, P 5 k)
  rw [if_pos ⟨rfl, by omega, by omega⟩, show 0 + (k - 0) = k by omega]
  exact c5
end CP8
section FB8
variable {P : PT}
theorem fB.s3 (hb : fB P) {i : Nat} {v : Int} (hv : 0 ≤ v ∧ v ≤ 3) : fB (pset P 3 i v) := by
  refine ⟨hb.1, hb.2.1, fun k hk => ?_, hb.2.2.2⟩
  show 0 ≤ (if 3 = 3 ∧ k = i then v else P 3 k) ∧ (if 3 = 3 ∧ k = i then v else P 3 k) ≤ 3
  by_cases c : k = i
  · rw [if_pos ⟨rfl, c⟩]; exact hv
  · rw [if_neg (fun e => c e.2)]; exact hb.2.2.1 k hk
theorem fB.s04 (hb : fB P) {v : Int} : fB (pset P 0 4 v) := hb
theorem fB.s6 (hb : fB P) {i : Nat} {q : Nat} (gq : gIn P q) : fB (pset P 6 i (q : Int)) := by
  refine ⟨hb.1, hb.2.1, hb.2.2.1, fun k hk => ?_⟩
  obtain ⟨a, b, c, d⟩ := hb.2.2.2 k hk
  refine ⟨a, ?_, c, d⟩
  show 0 ≤ (if 6 = 6 ∧ k = i then (q : Int) else P 6 k) ∧ gIn P (if 6 = 6 ∧ k = i then (q : Int) else P 6 k).toNat
  by_cases e : k = i
  · rw [if_pos ⟨rfl, e⟩]; exact ⟨by omega, by rw [Int.toNat_natCast]; exact gq⟩
  · rw [if_neg (fun f => e f.2)]; exact b
theorem fB.s8 (hb : fB P) {i : Nat} {v : Int} (hv : 0 ≤ v ∧ v < P 0 2) : fB (pset P 8 i v) := by
  refine ⟨hb.1, hb.2.1, hb.2.2.1, fun k hk => ?_⟩
  obtain ⟨a, b, c, d⟩ := hb.2.2.2 k hk
  refine ⟨a, b, c, ?_⟩
  show 0 ≤ (if 8 = 8 ∧ k = i then v else P 8 k) ∧ (if 8 = 8 ∧ k = i then v else P 8 k) < P 0 2
  by_cases e : k = i
  · rw [if_pos ⟨rfl, e⟩]; exact hv
  · rw [if_neg (fun f => e f.2)]; exact d
theorem fB.s9 (hb : fB P) {i : Nat} {v : Int} : fB (pset P 9 i v) := hb
theorem fB.steam (hb : fB P) {j t : Nat} (hj : j < 3) : fB (pSteam P j t) := by
  refine ⟨hb.1, hb.2.1, fun k hk => ?_, hb.2.2.2⟩
  show 0 ≤ (if 3 = 3 ∧ 48 * t ≤ k ∧ k < 48 * t + 48 then P 3 (48 * j + (k - 48 * t)) else P 3 k) ∧ (if 3 = 3 ∧ 48 * t ≤ k ∧ k < 48 * t + 48 then P 3 (48 * j + (k - 48 * t)) else P 3 k) ≤ 3
  by_cases c : 48 * t ≤ k ∧ k < 48 * t + 48
  · rw [if_pos ⟨rfl, c⟩]; exact hb.2.2.1 _ (by omega)
  · rw [if_neg (fun e => c e.2)]; exact hb.2.2.1 k hk
theorem fB.home (hb : fB P) : fB (pHome P) := by
  refine ⟨hb.1, hb.2.1, hb.2.2.1, fun k hk => ?_⟩
  obtain ⟨a, b, c, d⟩ := hb.2.2.2 k hk
  exact ⟨a, a, c, d⟩
end FB8
section RB8
variable {P : PT} {h : zH}
theorem rBk.s3 (g : rBk 0 P h) (lb : lB P) {j q : Nat} (hj : j < 3) (gq : gIn P q) {v : Int} : rBk 0 (pSt P j q v) (zset h 126 ((101 + (48 * (j : Int))) + ((gJ P q : Nat) : Int)).toNat (0, v)) := by
  rw [show ((101 + (48 * (j : Int))) + ((gJ P q : Nat) : Int)).toNat = 101 + 48 * j + gJ P q by omega]
  have lq := gJ_lt lb gq
  obtain ⟨⟨a0, a1, a2, a3, a4⟩, b1, b2, b3⟩ := g
  refine ⟨⟨(zset_ne (by omega)).trans a0, (zset_ne (by omega)).trans a1, (zset_ne (by omega)).trans a2, (zset_ne (by omega)).trans a3, (zset_ne (by omega)).trans a4⟩, fun x gx => ?_, fun k x hk gx => ?_, fun k hk => ?_⟩
  · have gx : gIn P x := gx
    have lx := gJ_lt lb gx
    have e : gJ (pSt P j q v) x = gJ P x := rfl
    rw [e]
    exact ⟨(zset_ne (by omega)).trans (b1 x gx).1, (zset_ne (by omega)).trans (b1 x gx).2⟩
  · have gx : gIn P x := gx
    have lx := gJ_lt lb gx
    have e : gJ (pSt P j q v) x = gJ P x := rfl
    have x48 := gx.1
    have q48 := gq.1
    rw [e]
    show zset h 126 (101 + 48 * j + gJ P q) (0, v) 126 (0 + 101 + 48 * k + gJ P x) = (0, if 3 = 3 ∧ 48 * k + x = 48 * j + q then v else P 3 (48 * k + x))
    by_cases c : k = j ∧ x = q
    · obtain ⟨rfl, rfl⟩ := c
      rw [if_pos ⟨rfl, rfl⟩, Nat.zero_add]
      exact zset_same
    · rw [if_neg (fun f => c (by omega))]
      refine (zset_ne (fun f => c ?_)).trans (b2 k x hk gx)
      have : k = j := by omega
      exact ⟨this, gJ_inj lb gx gq (by omega)⟩
  · have hk : (k : Int) < P 0 3 := hk
    have := lb.2.2.2.2
    obtain ⟨c1, c2, c3, c4, c5⟩ := b3 k hk
    exact ⟨(zset_ne (by omega)).trans c1, (zset_ne (by omega)).trans c2, (zset_ne (by omega)).trans c3, (zset_ne (by omega)).trans c4, (zset_ne (by omega)).trans c5⟩
theorem rBk.s04 (g : rBk 0 P h) {v : Int} : rBk 0 (pset P 0 4 v) (zset h 126 4 (0, v)) := by
  obtain ⟨⟨a0, a1, a2, a3, a4⟩, b1, b2, b3⟩ := g
  refine ⟨⟨(zset_ne (by omega)).trans a0, (zset_ne (by omega)).trans a1, (zset_ne (by omega)).trans a2, (zset_ne (by omega)).trans a3, zset_same⟩, fun x gx => ?_, fun k x hk gx => (zset_ne (by omega)).trans (b2 k x hk gx), fun k hk => ?_⟩
  · exact ⟨(zset_ne (by omega)).trans (b1 x gx).1, (zset_ne (by omega)).trans (b1 x gx).2⟩
  · obtain ⟨c1, c2, c3, c4, c5⟩ := b3 k hk
    exact ⟨(zset_ne (by omega)).trans c1, (zset_ne (by omega)).trans c2, (zset_ne (by omega)).trans c3, (zset_ne (by omega)).trans c4, (zset_ne (by omega)).trans c5⟩
theorem rBk.s6 (g : rBk 0 P h) (lb : lB P) {i q : Nat} (hi : i < 6) : rBk 0 (pset P 6 i (q : Int)) (zset h 126 (245 + (i : Int)).toNat (0, ((gJ P q : Nat) : Int))) := by
  rw [show (245 + (i : Int)).toNat = 245 + i by omega]
  obtain ⟨⟨a0, a1, a2, a3, a4⟩, b1, b2, b3⟩ := g
  refine ⟨⟨(zset_ne (by omega)).trans a0, (zset_ne (by omega)).trans a1, (zset_ne (by omega)).trans a2, (zset_ne (by omega)).trans a3, (zset_ne (by omega)).trans a4⟩, fun x gx => ?_, fun k x hk gx => ?_, fun k hk => ?_⟩
  · have gx : gIn P x := gx
    have lx := gJ_lt lb gx
    have e : gJ (pset P 6 i (q : Int)) x = gJ P x := rfl
    rw [e]
    exact ⟨(zset_ne (by omega)).trans (b1 x gx).1, (zset_ne (by omega)).trans (b1 x gx).2⟩
  · have gx : gIn P x := gx
    have lx := gJ_lt lb gx
    have e : gJ (pset P 6 i (q : Int)) x = gJ P x := rfl
    rw [e]
    exact (zset_ne (by omega)).trans (b2 k x hk gx)
  · have hk : (k : Int) < P 0 3 := hk
    have := lb.2.2.2.2
    obtain ⟨c1, c2, c3, c4, c5⟩ := b3 k hk
    refine ⟨?_, (zset_ne (by omega)).trans c2, (zset_ne (by omega)).trans c3, (zset_ne (by omega)).trans c4, (zset_ne (by omega)).trans c5⟩
    show zset h 126 (245 + i) (0, ((gJ P q : Nat) : Int)) 126 (0 + 245 + k) = (0, ((gJ P (if 6 = 6 ∧ k = i then (q : Int) else P 6 k).toNat : Nat) : Int))
    by_cases c : k = i
    · subst c
      rw [if_pos ⟨rfl, rfl⟩, Nat.zero_add, Int.toNat_natCast]
      exact zset_same
    · rw [if_neg (fun e => c e.2)]
      exact (zset_ne (by omega)).trans c1
theorem rBk.s8 (g : rBk 0 P h) (lb : lB P) {i : Nat} {v : Int} (hi : i < 6) : rBk 0 (pset P 8 i v) (zset h 126 (263 + (i : Int)).toNat (0, v)) := by
  rw [show (263 + (i : Int)).toNat = 263 + i by omega]
  obtain ⟨⟨a0, a1, a2, a3, a4⟩, b1, b2, b3⟩ := g
  refine ⟨⟨(zset_ne (by omega)).trans a0, (zset_ne (by omega)).trans a1, (zset_ne (by omega)).trans a2, (zset_ne (by omega)).trans a3, (zset_ne (by omega)).trans a4⟩, fun x gx => ?_, fun k x hk gx => ?_, fun k hk => ?_⟩
  · have gx : gIn P x := gx
    have lx := gJ_lt lb gx
    have e : gJ (pset P 8 i v) x = gJ P x := rfl
    rw [e]
    exact ⟨(zset_ne (by omega)).trans (b1 x gx).1, (zset_ne (by omega)).trans (b1 x gx).2⟩
  · have gx : gIn P x := gx
    have lx := gJ_lt lb gx
    have e : gJ (pset P 8 i v) x = gJ P x := rfl
    rw [e]
    exact (zset_ne (by omega)).trans (b2 k x hk gx)
  · have hk : (k : Int) < P 0 3 := hk
    have := lb.2.2.2.2
    obtain ⟨c1, c2, c3, c4, c5⟩ := b3 k hk
    refine ⟨(zset_ne (by omega)).trans c1, (zset_ne (by omega)).trans c2, (zset_ne (by omega)).trans c3, ?_, (zset_ne (by omega)).trans c5⟩
    show zset h 126 (263 + i) (0, v) 126 (0 + 263 + k) = (0, if 8 = 8 ∧ k = i then v else P 8 k)
    by_cases c : k = i
    · subst c
      rw [if_pos ⟨rfl, rfl⟩, Nat.zero_add]
      exact zset_same
    · rw [if_neg (fun e => c e.2)]
      exact (zset_ne (by omega)).trans c4
theorem rBk.s9 (g : rBk 0 P h) (lb : lB P) {i : Nat} {v : Int} (hi : i < 6) : rBk 0 (pset P 9 i v) (zset h 126 (269 + (i : Int)).toNat (0, v)) := by
  rw [show (269 + (i : Int)).toNat = 269 + i by omega]
  obtain ⟨⟨a0, a1, a2, a3, a4⟩, b1, b2, b3⟩ := g
  refine ⟨⟨(zset_ne (by omega)).trans a0, (zset_ne (by omega)).trans a1, (zset_ne (by omega)).trans a2, (zset_ne (by omega)).trans a3, (zset_ne (by omega)).trans a4⟩, fun x gx => ?_, fun k x hk gx => ?_, fun k hk => ?_⟩
  · have gx : gIn P x := gx
    have lx := gJ_lt lb gx
    have e : gJ (pset P 9 i v) x = gJ P x := rfl
    rw [e]
    exact ⟨(zset_ne (by omega)).trans (b1 x gx).1, (zset_ne (by omega)).trans (b1 x gx).2⟩
  · have gx : gIn P x := gx
    have lx := gJ_lt lb gx
    have e : gJ (pset P 9 i v) x = gJ P x := rfl
    rw [e]
    exact (zset_ne (by omega)).trans (b2 k x hk gx)
  · have hk : (k : Int) < P 0 3 := hk
    have := lb.2.2.2.2
    obtain ⟨c1, c2, c3, c4, c5⟩ := b3 k hk
    refine ⟨(zset_ne (by omega)).trans c1, (zset_ne (by omega)).trans c2, (zset_ne (by omega)).trans c3, (zset_ne (by omega)).trans c4, ?_⟩
    show zset h 126 (269 + i) (0, v) 126 (0 + 269 + k) = (0, if 9 = 9 ∧ k = i then v else P 9 k)
    by_cases c : k = i
    · subst c
      rw [if_pos ⟨rfl, rfl⟩, Nat.zero_add]
      exact zset_same
    · rw [if_neg (fun e => c e.2)]
      exact (zset_ne (by omega)).trans c5
end RB8
