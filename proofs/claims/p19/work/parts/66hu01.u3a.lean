def crw (L : Int) : Int := if L = 0 then 2 else if L = 1 then 1 else if L = 2 then 4 else if L = 3 then 5 else 3
def gvw (L R w : Int) : Int := if w = 0 then L else if w = 1 then (if L = 3 then -1 else crw L + R) else if w = 2 then R else if w = 3 then crw L + R else -1
theorem zat2 (D : zD) {L : Int} (h0 : 0 ≤ L) (h1 : L < (zlen D 2 : Int)) : zat D 2 L.toNat = crw L := by
  have h1 : L < 5 := h1
  have : L = 0 ∨ L = 1 ∨ L = 2 ∨ L = 3 ∨ L = 4 := by omega
  rcases this with rfl | rfl | rfl | rfl | rfl <;> rfl
theorem zat2b (D : zD) (n : Nat) : 0 ≤ zat D 2 n ∧ zat D 2 n ≤ 5 := by
  match n with
  | 0 => exact (by decide : (0 : Int) ≤ 2 ∧ (2 : Int) ≤ 5)
  | 1 => exact (by decide : (0 : Int) ≤ 1 ∧ (1 : Int) ≤ 5)
  | 2 => exact (by decide : (0 : Int) ≤ 4 ∧ (4 : Int) ≤ 5)
  | 3 => exact (by decide : (0 : Int) ≤ 5 ∧ (5 : Int) ≤ 5)
  | 4 => exact (by decide : (0 : Int) ≤ 3 ∧ (3 : Int) ≤ 5)
  | n + 5 => exact ⟨Int.le_refl 0, (show (0 : Int) ≤ 5 from by decide)⟩
section GV
variable {L R w : Int}
theorem gvw0 (h : w = 0) : gvw L R w = L := if_pos h
theorem gvw1w (h0 : w ≠ 0) (h : w = 1) (hL : L = 3) : gvw L R w = -1 := (if_neg h0).trans ((if_pos h).trans (if_pos hL))
theorem gvw1 (h0 : w ≠ 0) (h : w = 1) (hL : L ≠ 3) : gvw L R w = crw L + R := (if_neg h0).trans ((if_pos h).trans (if_neg hL))
theorem gvw2 (h0 : w ≠ 0) (h1 : w ≠ 1) (h : w = 2) : gvw L R w = R := (if_neg h0).trans ((if_neg h1).trans (if_pos h))
theorem gvw3 (h0 : w ≠ 0) (h1 : w ≠ 1) (h2 : w ≠ 2) (h : w = 3) : gvw L R w = crw L + R := (if_neg h0).trans ((if_neg h1).trans ((if_neg h2).trans (if_pos h)))
theorem gvwx (h0 : w ≠ 0) (h1 : w ≠ 1) (h2 : w ≠ 2) (h : w ≠ 3) : gvw L R w = -1 := (if_neg h0).trans ((if_neg h1).trans ((if_neg h2).trans (if_neg h)))
theorem crw_0 (h : L = 0) : crw L = 2 := if_pos h
theorem crw_1 (h0 : L ≠ 0) (h : L = 1) : crw L = 1 := (if_neg h0).trans (if_pos h)
theorem crw_3 (h : L = 3) : crw L = 5 := by rw [h]; rfl
theorem crw_4 (h : L = 4) : crw L = 3 := by rw [h]; rfl
theorem crw_x (b0 : 0 ≤ L) (b4 : L ≤ 4) (h0 : L ≠ 0) (h1 : L ≠ 1) (h3 : L ≠ 3) (h4 : L ≠ 4) : crw L = 4 := by
  have : L = 2 := by omega
  rw [this]; rfl
end GV
