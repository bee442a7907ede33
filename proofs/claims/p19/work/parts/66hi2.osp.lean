/-! from the texts of contents: what the readers of ORDERS say of what they lay down -/
theorem zset_e {h : zH} {r k k' : Nat} {v : zV} (e : k' = k) : zset h r k v r k' = v := by
  subst e
  exact zset_same
theorem kr_f {h h' t : zH} {r : Nat} (f : ∀ e, h' r e = h r e) (k : ∀ e, h r e = t r e) : ∀ e, h' r e = t r e := fun e => (f e).trans (k e)
theorem kr_n {h h0 : zH} {r a k : Nat} {v : zV} (hr : a ≠ r) (g : ∀ e, h r e = h0 r e) : ∀ e, zset h a k v r e = h0 r e := fun e => (zset_ne (fun c => hr c.1.symm)).trans (g e)
theorem kr_z {h h0 : zH} {r k : Nat} {v : zV} (g : ∀ e, h r e = h0 r e) : ∀ e, zset h r k v r e = zset h0 r k v r e := fun e => by
  by_cases c : e = k
  · rw [c, zset_same, zset_same]
  · rw [zset_ne (fun f => c f.2), zset_ne (fun f => c f.2)]
    exact g e
theorem cell_wv {w x y : Int} (h0 : 0 ≤ x) (h8 : x < 8) : w * ((y * 8 + x) / 8) + (y * 8 + x) % 8 = w * y + x := by
  rw [show (y * 8 + x) / 8 = y from by omega, show (y * 8 + x) % 8 = x from by omega]
theorem ho_at {h g : zH} {d idx : Nat} {z : Int} (ho : ∀ e : Nat, e < d → 0 ≤ (h 23 e).2 ∧ (h 23 e).2 < z) (f : g 23 idx = h 23 idx) (hi : idx < d) : 0 ≤ (g 23 idx).2 ∧ (g 23 idx).2 < z := by
  rw [f]
  exact ho _ hi
theorem eb_a {α β γ : Type} {x : Er ⊕ α} {k : α → Er ⊕ β} {k' : β → Er ⊕ γ} : eb (eb x k) k' = eb x fun a => eb (k a) k' := by
  cases x with
  | inl e => rfl
  | inr a => rfl
def oArV (τ P : PT) (w : Int) (i : Nat) : Er ⊕ (Int × Int × Nat) := if w = 8 ∨ w = 10 ∨ w = 16 then eb (pNum τ 0 (P 0 2 - 1) i) fun a => eb (pWord τ 6 a.2) fun j => eb (pCell τ (P 0 0) (P 0 1) j) fun c => .inr (a.1, c.2.1 * 8 + c.1, c.2.2)
  else if w = 9 then eb (pNum τ 0 (P 0 2 - 1) i) fun a => .inr (a.1, 0, a.2)
  else if w = 11 then eb (pNum τ 0 (P 0 2 - 1) i) fun a => eb (pWord τ 7 a.2) fun j => eb (pNum τ 0 (P 0 2 - 1) j) fun b => .inr (a.1, b.1, b.2)
  else if w = 12 then eb (pNum τ 0 (P 0 2 - 1) i) fun a => eb (pWord τ 3 a.2) fun j => eb (pNum τ 0 12 j) fun b => .inr (a.1, b.1, b.2)
  else if w = 13 ∨ w = 17 then eb (pNm τ P i) fun a => .inr (a.1, 0, a.2)
  else if w = 19 then eb (pNum τ 1 99 i) fun a => .inr (a.1, 0, a.2)
  else if w = 18 then eb (pCm τ i) fun a => eb (pNum τ 0 9999 a.2) fun b => .inr (a.1, b.1, b.2)
  else .inr (0, 0, i)
theorem oArg_V {τ P : PT} {w : Int} {i : Nat} : oArg τ P w i = eb (oArV τ P w i) fun v => .inr v.2.2 := by
  unfold oArg oArV
  by_cases c1 : w = 8 ∨ w = 10 ∨ w = 16
  · rw [if_pos c1, if_pos c1]; simp only [eb_a, eb_r]
  rw [if_neg c1, if_neg c1]
  by_cases c2 : w = 9
  · rw [if_pos c2, if_pos c2]; simp only [eb_a, eb_r]
  rw [if_neg c2, if_neg c2]
  by_cases c3 : w = 11
  · rw [if_pos c3, if_pos c3]; simp only [eb_a, eb_r]
  rw [if_neg c3, if_neg c3]
  by_cases c4 : w = 12
  · rw [if_pos c4, if_pos c4]; simp only [eb_a, eb_r]
  rw [if_neg c4, if_neg c4]
  by_cases c5 : w = 13 ∨ w = 17
  · rw [if_pos c5, if_pos c5]; simp only [eb_a, eb_r]
  rw [if_neg c5, if_neg c5]
  by_cases c6 : w = 19
  · rw [if_pos c6, if_pos c6]; simp only [eb_a, eb_r]
  rw [if_neg c6, if_neg c6]
  by_cases c7 : w = 18
  · rw [if_pos c7, if_pos c7]; simp only [eb_a, eb_r]
  rw [if_neg c7, if_neg c7]
  rfl
theorem pIx_bq {f : Nat → Int} {w : Int} : ∀ {n k : Nat}, pIx f w n k ≠ -1 → (k : Int) ≤ pIx f w n k ∧ pIx f w n k < ((k + n : Nat) : Int)
  | 0, _, h => absurd rfl h
  | n + 1, k, h => by
    have e : pIx f w (n + 1) k = if f k = w then (k : Int) else pIx f w n (k + 1) := rfl
    rw [e] at h ⊢
    by_cases c : f k = w
    · rw [if_pos c]; omega
    · rw [if_neg c] at h ⊢
      have := pIx_bq h
      omega
def pItV (τ P : PT) (i : Nat) : Er ⊕ (Int × Int × Int × Nat) := if τ 3 i = 15 then eb (oArV τ P (τ 3 (i + 1)) (i + 1 + 1)) fun v => .inr (τ 3 (i + 1), v) else eb (oArV τ P (τ 3 i) (i + 1)) fun v => .inr (τ 3 i, v)
theorem pItV_a {τ P : PT} {i j : Nat} {K u v : Int} (h3 : τ 3 i = K) (hK : K ≠ 15) (h : oArV τ P K (i + 1) = .inr (u, v, j)) : pItV τ P i = .inr (K, u, v, j) := by
  unfold pItV
  rw [h3, if_neg hK, h, eb_r]
theorem pItV_b {τ P : PT} {i j : Nat} {K u v : Int} (h3 : τ 3 i = 15) (h3b : τ 3 (i + 1) = K) (h : oArV τ P K (i + 1 + 1) = .inr (u, v, j)) : pItV τ P i = .inr (K, u, v, j) := by
  unfold pItV
  rw [if_pos h3, h3b, h, eb_r]
def oW4 (h g : zH) (z K u v : Int) : Prop := (∀ e, g 19 e = zset h 19 z.toNat (0, K) 19 e) ∧ (∀ e, g 20 e = zset h 20 z.toNat (0, u) 20 e) ∧ (∀ e, g 21 e = zset h 21 z.toNat (0, v) 21 e) ∧ ∀ e, g 22 e = zset h 22 z.toNat (0, -1) 22 e
def oE4 (h g : zH) (z f : Int) : Prop := (∀ e, g 19 e = zset h 19 z.toNat (0, 20) 19 e) ∧ (∀ e, g 20 e = zset h 20 z.toNat (0, 0) 20 e) ∧ (∀ e, g 21 e = zset h 21 z.toNat (0, 0) 21 e) ∧ ∀ e, g 22 e = zset (zset (zset h 22 z.toNat (0, -1)) 22 z.toNat (0, f)) 22 f.toNat (0, z) 22 e
def rKd (k : Nat) : Int := if k = 8 then 0 else if k = 9 then 1 else if k = 10 then 2 else if k = 11 then 3 else if k = 12 then 4 else if k = 13 then 5 else if k = 14 then 6 else if k = 19 then 8 else if k = 21 then 9 else 7
