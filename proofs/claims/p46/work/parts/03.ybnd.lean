/-! ENGINE 2, bounds: what an int operation makes of numbers within bounds -/
abbrev yR : Type := Int × Int
def y_in (q : yR) (z : Int) : Prop := q.1 ≤ z ∧ z ≤ q.2
def y_all32 : yR := (-2147483648, 2147483647)
theorem y_any32 (x : Int32) : y_in y_all32 x.toInt := by
  have h1 := Int32.le_toInt x
  have h2 := Int32.toInt_lt x
  show (-2147483648 : Int) ≤ _ ∧ _ ≤ (2147483647 : Int)
  omega
-- what leaves the ints is any int
def y_clip (q : yR) : yR := cond (decide (-2147483648 ≤ q.1) && decide (q.2 ≤ 2147483647)) q y_all32
theorem y_clip_in {q : yR} {z : Int} {x : Int32} (hx : x = Int32.ofInt z) (hz : y_in q z) : y_in (y_clip q) x.toInt := by
  unfold y_clip
  cases h : (decide (-2147483648 ≤ q.1) && decide (q.2 ≤ 2147483647)) with
  | false => exact y_any32 x
  | true =>
    rw [Bool.and_eq_true, decide_eq_true_eq, decide_eq_true_eq] at h
    show y_in q x.toInt
    obtain ⟨h1, h2⟩ := hz
    rw [hx, Int32.toInt_ofInt_of_le (by omega) (by omega)]
    exact ⟨h1, h2⟩
def y_add (q r : yR) : yR := y_clip (q.1 + r.1, q.2 + r.2)
theorem y_add_in {q r : yR} {x y : Int32} (hx : y_in q x.toInt) (hy : y_in r y.toInt) : y_in (y_add q r) (x + y).toInt := by
  obtain ⟨a1, a2⟩ := hx
  obtain ⟨b1, b2⟩ := hy
  exact y_clip_in (z := x.toInt + y.toInt) (by rw [Int32.ofInt_add, Int32.ofInt_toInt, Int32.ofInt_toInt]) ⟨Int.add_le_add a1 b1, Int.add_le_add a2 b2⟩
def y_sub (q r : yR) : yR := y_clip (q.1 - r.2, q.2 - r.1)
theorem y_sub_in {q r : yR} {x y : Int32} (hx : y_in q x.toInt) (hy : y_in r y.toInt) : y_in (y_sub q r) (x - y).toInt := by
  obtain ⟨a1, a2⟩ := hx
  obtain ⟨b1, b2⟩ := hy
  exact y_clip_in (z := x.toInt - y.toInt) (by rw [Int32.ofInt_sub, Int32.ofInt_toInt, Int32.ofInt_toInt]) ⟨Int.sub_le_sub a1 b2, Int.sub_le_sub a2 b1⟩
def y_neg (q : yR) : yR := y_clip (-q.2, -q.1)
theorem y_neg_in {q : yR} {x : Int32} (hx : y_in q x.toInt) : y_in (y_neg q) (-x).toInt := by
  obtain ⟨a1, a2⟩ := hx
  exact y_clip_in (z := -x.toInt) (by rw [Int32.ofInt_neg, Int32.ofInt_toInt]) ⟨Int.neg_le_neg a2, Int.neg_le_neg a1⟩
def y_mul (q r : yR) : yR := cond (decide (0 ≤ q.1) && decide (0 ≤ r.1)) (y_clip (q.1 * r.1, q.2 * r.2)) y_all32
theorem y_mul_in {q r : yR} {x y : Int32} (hx : y_in q x.toInt) (hy : y_in r y.toInt) : y_in (y_mul q r) (x * y).toInt := by
  unfold y_mul
  cases h : (decide (0 ≤ q.1) && decide (0 ≤ r.1)) with
  | false => exact y_any32 _
  | true =>
    rw [Bool.and_eq_true, decide_eq_true_eq, decide_eq_true_eq] at h
    obtain ⟨a1, a2⟩ := hx
    obtain ⟨b1, b2⟩ := hy
    exact y_clip_in (z := x.toInt * y.toInt) (by rw [Int32.ofInt_mul, Int32.ofInt_toInt, Int32.ofInt_toInt]) ⟨Int.mul_le_mul a1 b1 h.2 (by omega), Int.mul_le_mul a2 b2 (by omega) (by omega)⟩
-- a number below 2 to the 31st is its pattern
theorem y_nat {x : Int32} (h : 0 ≤ x.toInt) : x.toInt = (x.toBitVec.toNat : Int) ∧ x.toBitVec.toNat < 2147483648 := by
  have h1 : x.toInt = x.toBitVec.toInt := rfl
  rw [h1] at h ⊢
  rw [BitVec.toInt_eq_toNat_cond] at h ⊢
  have hlt := x.toBitVec.isLt
  split at h
  · rename_i hc
    rw [if_pos hc]
    exact ⟨rfl, by omega⟩
  · omega
theorem y_ofNat {x : Int32} (h : x.toBitVec.toNat < 2147483648) : x.toInt = (x.toBitVec.toNat : Int) := by
  show x.toBitVec.toInt = _
  rw [BitVec.toInt_eq_toNat_of_lt (by omega)]
def y_and (q r : yR) : yR := cond (decide (0 ≤ r.1)) (0, r.2) (cond (decide (0 ≤ q.1)) (0, q.2) y_all32)
theorem y_and_in {q r : yR} {x y : Int32} (hx : y_in q x.toInt) (hy : y_in r y.toInt) : y_in (y_and q r) (x &&& y).toInt := by
  have key : ∀ {u v : Int32}, 0 ≤ v.toInt → (u &&& v).toBitVec.toNat ≤ v.toBitVec.toNat ∧ (u &&& v).toBitVec.toNat < 2147483648 := by
    intro u v hv
    have h1 : (u &&& v).toBitVec.toNat ≤ v.toBitVec.toNat := by
      show (u.toBitVec &&& v.toBitVec).toNat ≤ _
      rw [BitVec.toNat_and]
      exact Nat.and_le_right
    exact ⟨h1, Nat.lt_of_le_of_lt h1 (y_nat hv).2⟩
  have key2 : ∀ {u v : Int32}, 0 ≤ u.toInt → (u &&& v).toBitVec.toNat ≤ u.toBitVec.toNat ∧ (u &&& v).toBitVec.toNat < 2147483648 := by
    intro u v hv
    have h1 : (u &&& v).toBitVec.toNat ≤ u.toBitVec.toNat := by
      show (u.toBitVec &&& v.toBitVec).toNat ≤ _
      rw [BitVec.toNat_and]
      exact Nat.and_le_left
    exact ⟨h1, Nat.lt_of_le_of_lt h1 (y_nat hv).2⟩
  obtain ⟨a1, a2⟩ := hx
  obtain ⟨b1, b2⟩ := hy
  unfold y_and
  by_cases hr : 0 ≤ r.1
  · rw [decide_eq_true hr]
    have hv : 0 ≤ y.toInt := by omega
    obtain ⟨k1, k2⟩ := key (u := x) hv
    have k3 := (y_nat hv).1
    show 0 ≤ _ ∧ _ ≤ r.2
    rw [y_ofNat k2]
    omega
  · rw [decide_eq_false hr]
    by_cases hq : 0 ≤ q.1
    · rw [decide_eq_true hq]
      have hv : 0 ≤ x.toInt := by omega
      obtain ⟨k1, k2⟩ := key2 (v := y) hv
      have k3 := (y_nat hv).1
      show 0 ≤ _ ∧ _ ≤ q.2
      rw [y_ofNat k2]
      omega
    · rw [decide_eq_false hq]
      exact y_any32 _
def y_div (q r : yR) : yR := cond (decide (0 ≤ q.1) && decide (1 ≤ r.1)) (0, q.2 / r.1) y_all32
theorem y_div_in {q r : yR} {x y : Int32} (hx : y_in q x.toInt) (hy : y_in r y.toInt) : y_in (y_div q r) (x / y).toInt := by
  unfold y_div
  cases h : (decide (0 ≤ q.1) && decide (1 ≤ r.1)) with
  | false => exact y_any32 _
  | true =>
    rw [Bool.and_eq_true, decide_eq_true_eq, decide_eq_true_eq] at h
    obtain ⟨a1, a2⟩ := hx
    obtain ⟨b1, b2⟩ := hy
    have hne : y ≠ -1 := fun e => by
      have h3 : y.toInt = -1 := by rw [e]; rfl
      omega
    rw [Int32.toInt_div_of_ne_right x y hne, Int.tdiv_eq_ediv_of_nonneg (by omega)]
    show 0 ≤ _ ∧ _ ≤ q.2 / r.1
    refine ⟨Int.ediv_nonneg (by omega) (by omega), ?_⟩
    refine (Int.le_ediv_iff_mul_le (by omega)).mpr ?_
    have h5 : x.toInt / y.toInt * r.1 ≤ x.toInt / y.toInt * y.toInt := Int.mul_le_mul_of_nonneg_left b1 (Int.ediv_nonneg (by omega) (by omega))
    have h6 : x.toInt / y.toInt * y.toInt ≤ x.toInt := Int.ediv_mul_le _ (by omega)
    omega
def y_rem (q r : yR) : yR := cond (decide (1 ≤ r.1)) (cond (decide (0 ≤ q.1)) (0, cond (decide (q.2 ≤ r.2 - 1)) q.2 (r.2 - 1)) (1 - r.2, r.2 - 1)) y_all32
theorem y_rem_in {q r : yR} {x y : Int32} (hx : y_in q x.toInt) (hy : y_in r y.toInt) : y_in (y_rem q r) (x - x / y * y).toInt := by
  unfold y_rem
  by_cases hr : 1 ≤ r.1
  · rw [decide_eq_true hr]
    obtain ⟨a1, a2⟩ := hx
    obtain ⟨b1, b2⟩ := hy
    rw [rem_toInt]
    have hm := tmod_bounds (a := x.toInt) (M := y.toInt) (by omega)
    by_cases hq : 0 ≤ q.1
    · rw [decide_eq_true hq]
      have h0 : 0 ≤ x.toInt.tmod y.toInt := Int.tmod_nonneg _ (by omega)
      have h1 : x.toInt.tmod y.toInt ≤ x.toInt := by
        rw [Int.tmod_eq_emod_of_nonneg (by omega)]
        have h7 : 0 ≤ y.toInt * (x.toInt / y.toInt) := Int.mul_nonneg (by omega) (Int.ediv_nonneg (by omega) (by omega))
        rw [Int.emod_def]
        omega
      show 0 ≤ _ ∧ _ ≤ cond (decide (q.2 ≤ r.2 - 1)) q.2 (r.2 - 1)
      by_cases hc : q.2 ≤ r.2 - 1
      · rw [decide_eq_true hc]; show 0 ≤ _ ∧ _ ≤ q.2; omega
      · rw [decide_eq_false hc]; show 0 ≤ _ ∧ _ ≤ r.2 - 1; omega
    · rw [decide_eq_false hq]
      show 1 - r.2 ≤ _ ∧ _ ≤ r.2 - 1
      omega
  · rw [decide_eq_false hr]
    exact y_any32 _
