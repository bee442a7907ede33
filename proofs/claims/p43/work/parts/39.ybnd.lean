/-! bounds of and, quotients, rests: ints, and longs -/
abbrev yR : Type := Int × Int
def y_in (q : yR) (z : Int) : Prop := q.1 ≤ z ∧ z ≤ q.2
def y_all32 : yR := (-2147483648, 2147483647)
theorem y_any32 (x : Int32) : y_in y_all32 x.toInt := by
  have h1 := Int32.le_toInt x
  have h2 := Int32.toInt_lt x
  show (-2147483648 : Int) ≤ _ ∧ _ ≤ (2147483647 : Int)
  omega
-- what leaves the ints is any int
-- a number below 2 to the 31st is its pattern
theorem y_nat {x : Int32} (h : 0 ≤ x.toInt) : x.toInt = (x.toBitVec.toNat : Int) ∧ x.toBitVec.toNat < 2147483648 := by
  have h1 : x.toInt = x.toBitVec.toInt := rfl
  rw [h1] at h ⊢
  rw [BitVec.toInt_eq_toNat_cond] at h ⊢
  have hlt := x.toBitVec.isLt
  split at h
  · rename_i hc
    rw [if_pos hc]
    exact ⟨rfl, by omega⟩
  · omega
theorem y_ofNat {x : Int32} (h : x.toBitVec.toNat < 2147483648) : x.toInt = (x.toBitVec.toNat : Int) := by
  show x.toBitVec.toInt = _
  rw [BitVec.toInt_eq_toNat_of_lt (by omega)]
def y_and (q r : yR) : yR := cond (decide (0 ≤ r.1)) (0, r.2) (cond (decide (0 ≤ q.1)) (0, q.2) y_all32)
theorem y_and_in {q r : yR} {x y : Int32} (hx : y_in q x.toInt) (hy : y_in r y.toInt) : y_in (y_and q r) (x &&& y).toInt := by
  have key : ∀ {u v : Int32}, 0 ≤ v.toInt → (u &&& v).toBitVec.toNat ≤ v.toBitVec.toNat ∧ (u &&& v).toBitVec.toNat < 2147483648 := by
    intro u v hv
    have h1 : (u &&& v).toBitVec.toNat ≤ v.toBitVec.toNat := by
      show (u.toBitVec &&& v.toBitVec).toNat ≤ _
      rw [BitVec.toNat_and]
      exact Nat.and_le_right
    exact ⟨h1, Nat.lt_of_le_of_lt h1 (y_nat hv).2⟩
  have key2 : ∀ {u v : Int32}, 0 ≤ u.toInt → (u &&& v).toBitVec.toNat ≤ u.toBitVec.toNat ∧ (u &&& v).toBitVec.toNat < 2147483648 := by
    intro u v hv
    have h1 : (u &&& v).toBitVec.toNat ≤ u.toBitVec.toNat := by
      show (u.toBitVec &&& v.toBitVec).toNat ≤ _
      rw [BitVec.toNat_and]
      exact Nat.and_le_left
    exact ⟨h1, Nat.lt_of_le_of_lt h1 (y_nat hv).2⟩
  obtain ⟨a1, a2⟩ := hx
  obtain ⟨b1, b2⟩ := hy
  unfold y_and
  by_cases hr : 0 ≤ r.1
  · rw [decide_eq_true hr]
    have hv : 0 ≤ y.toInt := by omega
    obtain ⟨k1, k2⟩ := key (u := x) hv
    have k3 := (y_nat hv).1
    show 0 ≤ _ ∧ _ ≤ r.2
    rw [y_ofNat k2]
    omega
  · rw [decide_eq_false hr]
    by_cases hq : 0 ≤ q.1
    · rw [decide_eq_true hq]
      have hv : 0 ≤ x.toInt := by omega
      obtain ⟨k1, k2⟩ := key2 (v := y) hv
      have k3 := (y_nat hv).1
      show 0 ≤ _ ∧ _ ≤ q.2
      rw [y_ofNat k2]
      omega
    · rw [decide_eq_false hq]
      exact y_any32 _
/-! the same of longs -/
theorem z_rem64 (x y : Int64) : (x - x / y * y).toInt = x.toInt.tmod y.toInt := by
  have h1 := Int64.toInt_lt (x % y)
  have h2 := Int64.le_toInt (x % y)
  rw [Int64.toInt_mod] at h1 h2
  have h3 : (x - x / y * y).toInt = (x.toInt - y.toInt * x.toInt.tdiv y.toInt).bmod (2 ^ 64) := by
    rw [Int64.toInt_sub, Int64.toInt_mul, Int64.toInt_div, Int.bmod_mul_bmod, Int.sub_bmod_bmod, Int.mul_comm]
  rw [h3, ← Int.tmod_def]
  exact Int.bmod_eq_of_le (by omega) (by omega)
def yl_in (q : yR) (z : Int) : Prop := q.1 ≤ z ∧ z ≤ q.2
def yl_all32 : yR := (-9223372036854775808, 9223372036854775807)
theorem yl_any32 (x : Int64) : yl_in yl_all32 x.toInt := by
  have h1 := Int64.le_toInt x
  have h2 := Int64.toInt_lt x
  show (-9223372036854775808 : Int) ≤ _ ∧ _ ≤ (9223372036854775807 : Int)
  omega
-- what leaves the ints is any int
-- a number below 2 to the 31st is its pattern
theorem yl_nat {x : Int64} (h : 0 ≤ x.toInt) : x.toInt = (x.toBitVec.toNat : Int) ∧ x.toBitVec.toNat < 9223372036854775808 := by
  have h1 : x.toInt = x.toBitVec.toInt := rfl
  rw [h1] at h ⊢
  rw [BitVec.toInt_eq_toNat_cond] at h ⊢
  have hlt := x.toBitVec.isLt
  split at h
  · rename_i hc
    rw [if_pos hc]
    exact ⟨rfl, by omega⟩
  · omega
theorem yl_ofNat {x : Int64} (h : x.toBitVec.toNat < 9223372036854775808) : x.toInt = (x.toBitVec.toNat : Int) := by
  show x.toBitVec.toInt = _
  rw [BitVec.toInt_eq_toNat_of_lt (by omega)]
def yl_and (q r : yR) : yR := cond (decide (0 ≤ r.1)) (0, r.2) (cond (decide (0 ≤ q.1)) (0, q.2) yl_all32)
theorem yl_and_in {q r : yR} {x y : Int64} (hx : yl_in q x.toInt) (hy : yl_in r y.toInt) : yl_in (yl_and q r) (x &&& y).toInt := by
  have key : ∀ {u v : Int64}, 0 ≤ v.toInt → (u &&& v).toBitVec.toNat ≤ v.toBitVec.toNat ∧ (u &&& v).toBitVec.toNat < 9223372036854775808 := by
    intro u v hv
    have h1 : (u &&& v).toBitVec.toNat ≤ v.toBitVec.toNat := by
      show (u.toBitVec &&& v.toBitVec).toNat ≤ _
      rw [BitVec.toNat_and]
      exact Nat.and_le_right
    exact ⟨h1, Nat.lt_of_le_of_lt h1 (yl_nat hv).2⟩
  have key2 : ∀ {u v : Int64}, 0 ≤ u.toInt → (u &&& v).toBitVec.toNat ≤ u.toBitVec.toNat ∧ (u &&& v).toBitVec.toNat < 9223372036854775808 := by
    intro u v hv
    have h1 : (u &&& v).toBitVec.toNat ≤ u.toBitVec.toNat := by
      show (u.toBitVec &&& v.toBitVec).toNat ≤ _
      rw [BitVec.toNat_and]
      exact Nat.and_le_left
    exact ⟨h1, Nat.lt_of_le_of_lt h1 (yl_nat hv).2⟩
  obtain ⟨a1, a2⟩ := hx
  obtain ⟨b1, b2⟩ := hy
  unfold yl_and
  by_cases hr : 0 ≤ r.1
  · rw [decide_eq_true hr]
    have hv : 0 ≤ y.toInt := by omega
    obtain ⟨k1, k2⟩ := key (u := x) hv
    have k3 := (yl_nat hv).1
    show 0 ≤ _ ∧ _ ≤ r.2
    rw [yl_ofNat k2]
    omega
  · rw [decide_eq_false hr]
    by_cases hq : 0 ≤ q.1
    · rw [decide_eq_true hq]
      have hv : 0 ≤ x.toInt := by omega
      obtain ⟨k1, k2⟩ := key2 (v := y) hv
      have k3 := (yl_nat hv).1
      show 0 ≤ _ ∧ _ ≤ q.2
      rw [yl_ofNat k2]
      omega
    · rw [decide_eq_false hq]
      exact yl_any32 _
