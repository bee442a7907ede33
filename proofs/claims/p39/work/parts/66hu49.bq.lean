theorem vz_divI {x y : Int} (h0 : 0 ≤ x) (h1 : x < 9223372036854775808) (h2 : 0 < y) (h3 : y < 9223372036854775808) : (Int64.ofInt x / Int64.ofInt y).toInt = x / y := by
  have q : 0 ≤ x / y := Int.ediv_nonneg h0 (by omega)
  have q2 : x / y ≤ x := Int.ediv_le_self _ h0
  rw [Int64.toInt_div, vz_ofL (by omega) h1, vz_ofL (by omega) h3, Int.tdiv_eq_ediv_of_nonneg h0]
  exact Int.bmod_eq_of_le (by omega) (by omega)
theorem vz_quoL {x y : Int} (h0 : 0 ≤ x) (h1 : x < 9223372036854775808) (h2 : 0 < y) (h3 : y < 9223372036854775808) : (zd64 0 (Int64.ofInt x) (Int64.ofInt y)).toInt = x / y := vz_divI h0 h1 h2 h3
theorem vz_remL {x y : Int} (h0 : 0 ≤ x) (h1 : x < 9223372036854775808) (h2 : 0 < y) (h3 : y < 9223372036854775808) : (zd64 1 (Int64.ofInt x) (Int64.ofInt y)).toInt = x % y := by
  have e : (Int64.ofInt x / Int64.ofInt y) = Int64.ofInt (x / y) := by
    have := vz_divI h0 h1 h2 h3
    rw [← this, Int64.ofInt_toInt]
  show (Int64.ofInt x - Int64.ofInt x / Int64.ofInt y * Int64.ofInt y).toInt = x % y
  rw [e, ← Int64.ofInt_mul, ← Int64.ofInt_sub]
  have m1 : 0 ≤ x % y := Int.emod_nonneg _ (by omega)
  have m2 : x % y < y := Int.emod_lt_of_pos _ h2
  have m3 : x - x / y * y = x % y := by rw [Int.mul_comm, Int.emod_def]
  rw [m3]
  exact vz_ofL (by omega) (by omega)
