/-! NAMES AND ARITHMETIC FOR RUNS BY STEPS -/
def vB (x : Int) : Int := (zu32 1 (Int32.ofInt x)).toInt
def v32 (b : Nat) (x y : Int) : Int := (zf32 b (Int32.ofInt x) (Int32.ofInt y)).toInt
def v64 (b : Nat) (x y : Int) : Int := (zf64 b (Int64.ofInt x) (Int64.ofInt y)).toInt
def vS (b : Nat) (x y : Int) : Int := (zs64 b (Int64.ofInt x) (Int32.ofInt y)).toInt
theorem vcopy_ne {h : zH} {r0 sp r1 dp n a b : Nat} (hn : ¬ (a = r1 ∧ dp ≤ b ∧ b < dp + n)) : zcopy h r0 sp r1 dp n a b = h a b := if_neg hn
theorem vz_inc {x u w : Int} (h1 : -2147483648 ≤ w ∧ w < 2147483648) (h2 : x + u = w) : (Int32.ofInt x + Int32.ofInt u).toInt = w := by
  subst h2
  exact hq_inc h1.1 h1.2
theorem vz_ofL {x : Int} (h1 : -9223372036854775808 ≤ x) (h2 : x < 9223372036854775808) : (Int64.ofInt x).toInt = x := Int64.toInt_ofInt_of_le (by omega) (by omega)
theorem vz_addL {x y : Int} (h1 : -9223372036854775808 ≤ x + y) (h2 : x + y < 9223372036854775808) : (zf64 0 (Int64.ofInt x) (Int64.ofInt y)).toInt = x + y := by
  show (Int64.ofInt x + Int64.ofInt y).toInt = x + y
  rw [← Int64.ofInt_add]
  exact vz_ofL h1 h2
theorem vz_subL {x y : Int} (h1 : -9223372036854775808 ≤ x - y) (h2 : x - y < 9223372036854775808) : (zf64 1 (Int64.ofInt x) (Int64.ofInt y)).toInt = x - y := by
  show (Int64.ofInt x - Int64.ofInt y).toInt = x - y
  rw [← Int64.ofInt_sub]
  exact vz_ofL h1 h2
theorem vz_mulL {x y : Int} (h1 : -9223372036854775808 ≤ x * y) (h2 : x * y < 9223372036854775808) : (zf64 2 (Int64.ofInt x) (Int64.ofInt y)).toInt = x * y := by
  show (Int64.ofInt x * Int64.ofInt y).toInt = x * y
  rw [← Int64.ofInt_mul]
  exact vz_ofL h1 h2
/-- any run from a heap of the right tags -/
theorem vP_hv {D : zD} {T : zT} {N mi pc : Nat} {h : zH} {l : List (Option zV)} {S : List zV} {Q : zR → Prop} (k : zHv h → vP D T N mi pc h l S Q) : vP D T N mi pc h l S Q := fun hv => k hv hv
theorem vP_Q {D : zD} {T : zT} {N mi pc : Nat} {h : zH} {l : List (Option zV)} {S : List zV} {Q Q' : zR → Prop} (hQ : ∀ r, Q r → Q' r) (k : vP D T N mi pc h l S Q) : vP D T N mi pc h l S Q' := fun hv n r hn he => hQ r (k hv n r hn he)
