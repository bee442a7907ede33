/-! HOW MANY BITS (Long.bitCount) -/
def bcC (f : Nat → Bool) : Nat → Nat
  | 0 => 0
  | k + 1 => bcC f k + (if f k = true then 1 else 0)
theorem bcC_add (f : Nat → Bool) (a : Nat) : ∀ b, bcC f (a + b) = bcC f a + bcC (fun j => f (a + j)) b
  | 0 => rfl
  | b + 1 => by
    show bcC f (a + b) + (if f (a + b) = true then 1 else 0) = bcC f a + (bcC (fun j => f (a + j)) b + (if f (a + b) = true then 1 else 0))
    rw [bcC_add f a b, Nat.add_assoc]
theorem bcC_eq {f g : Nat → Bool} : ∀ n, (∀ k, k < n → f k = g k) → bcC f n = bcC g n
  | 0, _ => rfl
  | n + 1, h => by
    show bcC f n + (if f n = true then 1 else 0) = bcC g n + (if g n = true then 1 else 0)
    rw [bcC_eq n (fun k hk => h k (by omega)), h n (by omega)]
theorem bcC_le (f : Nat → Bool) : ∀ n, bcC f n ≤ n
  | 0 => Nat.le_refl 0
  | n + 1 => by
    have ih := bcC_le f n
    show bcC f n + (if f n = true then 1 else 0) ≤ n + 1
    split <;> omega
theorem bcC_f {f : Nat → Bool} : ∀ n, (∀ k, k < n → f k = false) → bcC f n = 0
  | 0, _ => rfl
  | n + 1, h => by
    show bcC f n + (if f n = true then 1 else 0) = 0
    rw [bcC_f n (fun k hk => h k (by omega)), h n (by omega)]
    rfl
theorem bcC_cut {f : Nat → Bool} (a b : Nat) (h : ∀ j, j < b → f (a + j) = false) : bcC f (a + b) = bcC f a := by rw [bcC_add, bcC_f b h, Nat.add_zero]
theorem bcC_upd {f g : Nat → Bool} {a : Nat} : ∀ n, a < n → (∀ x, x < n → x ≠ a → f x = g x) → f a = true → g a = false → bcC f n = bcC g n + 1
  | 0, h, _, _, _ => absurd h (Nat.not_lt_zero _)
  | n + 1, h, e, t, u => by
    show bcC f n + (if f n = true then 1 else 0) = bcC g n + (if g n = true then 1 else 0) + 1
    by_cases c : a = n
    · subst c
      rw [bcC_eq a (fun k hk => e k (by omega) (by omega)), t, u]
      rfl
    · rw [bcC_upd n (by omega) (fun x hx hn => e x (by omega) hn) t u, e n (by omega) (fun d => c d.symm)]
      omega
def lane (t : Nat → Nat) : Nat → Nat → Nat
  | 0, _ => 0
  | k + 1, n => t (n % 256) + 256 * lane t k (n / 256)
def rept (c : Nat) : Nat → Nat
  | 0 => 0
  | k + 1 => c + 256 * rept c k
theorem rept_m {c : Nat} (h : c < 256) (k : Nat) : rept c (k + 1) % 256 = c ∧ rept c (k + 1) / 256 = rept c k := by
  show (c + 256 * rept c k) % 256 = c ∧ (c + 256 * rept c k) / 256 = rept c k
  omega
theorem land256 (x y : Nat) : x &&& y = (x % 256 &&& y % 256) + 256 * (x / 256 &&& y / 256) := by
  have a : (x &&& y) % 256 = x % 256 &&& y % 256 := Nat.and_mod_two_pow (n := 8)
  have b : (x &&& y) / 256 = x / 256 &&& y / 256 := Nat.and_div_two_pow (n := 8)
  rw [← a, ← b]
  omega
theorem bt1 : ∀ a : Nat, a < 256 → ∀ e : Nat, e < 2 → ((a / 2 + 128 * e) % 256 &&& 85) = (a / 2 &&& 85) := by decide +kernel
theorem bt2 : ∀ a : Nat, a < 256 → ∀ e : Nat, e < 4 → ((a / 4 + 64 * e) % 256 &&& 51) = (a / 4 &&& 51) := by decide +kernel
theorem ln1 : ∀ k n : Nat, n < 256 ^ k → n - (n / 2 &&& rept 85 k) = lane (fun a => a - (a / 2 &&& 85)) k n
  | 0, n, h => by
    have h : n < 1 := h
    have : n = 0 := by omega
    subst this
    rfl
  | k + 1, n, h => by
    have hm : n / 256 < 256 ^ k := by
      rw [Nat.pow_succ] at h
      exact Nat.div_lt_of_lt_mul (by rw [Nat.mul_comm]; exact h)
    have ih := ln1 k (n / 256) hm
    have e := bt1 (n % 256) (by omega) (n / 256 % 2) (by omega)
    have e1 : n / 2 % 256 = ((n % 256) / 2 + 128 * (n / 256 % 2)) % 256 := by omega
    have e2 : n / 2 / 256 = n / 256 / 2 := by omega
    obtain ⟨r1, r2⟩ := rept_m (c := 85) (by decide) k
    have L := land256 (n / 2) (rept 85 (k + 1))
    rw [r1, r2, e1, e, e2] at L
    have l1 : (n % 256 / 2 &&& 85) ≤ n % 256 := Nat.le_trans Nat.and_le_left (by omega)
    have l2 : (n / 256 / 2 &&& rept 85 k) ≤ n / 256 := Nat.le_trans Nat.and_le_left (by omega)
    show n - (n / 2 &&& rept 85 (k + 1)) = (n % 256 - (n % 256 / 2 &&& 85)) + 256 * lane (fun a => a - (a / 2 &&& 85)) k (n / 256)
    rw [← ih, L]
    omega
theorem ln2 : ∀ k n : Nat, (n &&& rept 51 k) + (n / 4 &&& rept 51 k) = lane (fun a => (a &&& 51) + (a / 4 &&& 51)) k n
  | 0, n => by
    show (n &&& 0) + (n / 4 &&& 0) = 0
    rw [Nat.and_zero, Nat.and_zero]
  | k + 1, n => by
    have ih := ln2 k (n / 256)
    have e := bt2 (n % 256) (by omega) (n / 256 % 4) (by omega)
    have e1 : n / 4 % 256 = ((n % 256) / 4 + 64 * (n / 256 % 4)) % 256 := by omega
    have e2 : n / 4 / 256 = n / 256 / 4 := by omega
    obtain ⟨r1, r2⟩ := rept_m (c := 51) (by decide) k
    have L := land256 n (rept 51 (k + 1))
    have L2 := land256 (n / 4) (rept 51 (k + 1))
    rw [r1, r2] at L
    rw [r1, r2, e1, e, e2] at L2
    show (n &&& rept 51 (k + 1)) + (n / 4 &&& rept 51 (k + 1)) = ((n % 256 &&& 51) + (n % 256 / 4 &&& 51)) + 256 * lane (fun a => (a &&& 51) + (a / 4 &&& 51)) k (n / 256)
    rw [← ih, L, L2]
    omega
theorem lane_c {t u : Nat → Nat} (hu : ∀ a, a < 256 → u a < 256) : ∀ k n : Nat, lane t k (lane u k n) = lane (fun a => t (u a)) k n
  | 0, _ => rfl
  | k + 1, n => by
    have b := hu (n % 256) (by omega)
    show t ((u (n % 256) + 256 * lane u k (n / 256)) % 256) + 256 * lane t k ((u (n % 256) + 256 * lane u k (n / 256)) / 256) = t (u (n % 256)) + 256 * lane (fun a => t (u a)) k (n / 256)
    rw [show (u (n % 256) + 256 * lane u k (n / 256)) % 256 = u (n % 256) from by omega, show (u (n % 256) + 256 * lane u k (n / 256)) / 256 = lane u k (n / 256) from by omega, lane_c hu k]
theorem ln3s {A M k R : Nat} (a1 : A ≤ 68) (m4 : M % 16 ≤ 4) (ih : ((M + M / 16) &&& rept 15 k) = R) : (((A + 256 * M) + (A + 256 * M) / 16) &&& rept 15 (k + 1)) = (A + A / 16) % 16 + 256 * R := by
  obtain ⟨r1, r2⟩ := rept_m (c := 15) (by decide) k
  have L := land256 ((A + 256 * M) + (A + 256 * M) / 16) (rept 15 (k + 1))
  have e1 : ((A + 256 * M) + (A + 256 * M) / 16) % 256 = A + A / 16 + 16 * (M % 16) := by omega
  have e2 : ((A + 256 * M) + (A + 256 * M) / 16) / 256 = M + M / 16 := by omega
  have t : ((A + A / 16 + 16 * (M % 16)) &&& 15) = (A + A / 16 + 16 * (M % 16)) % 16 := Nat.and_two_pow_sub_one_eq_mod (A + A / 16 + 16 * (M % 16)) 4
  rw [r1, r2, e1, e2, ih, t] at L
  rw [L]
  omega
theorem ln3 {t : Nat → Nat} (h1 : ∀ a, a < 256 → t a ≤ 68 ∧ t a % 16 ≤ 4) : ∀ k n : Nat, ((lane t k n + lane t k n / 16) &&& rept 15 k) = lane (fun a => (t a + t a / 16) % 16) k n
  | 0, n => Nat.and_zero _
  | k + 1, n => by
    have m4 : lane t k (n / 256) % 16 ≤ 4 := by
      cases k with
      | zero =>
        show (0 : Nat) % 16 ≤ 4
        decide
      | succ k =>
        have b := (h1 (n / 256 % 256) (by omega)).2
        show (t (n / 256 % 256) + 256 * lane t k (n / 256 / 256)) % 16 ≤ 4
        omega
    exact ln3s (h1 (n % 256) (by omega)).1 m4 (ln3 h1 k (n / 256))
def bcT (a : Nat) : Nat := ((a - (a / 2 &&& 85)) &&& 51) + ((a - (a / 2 &&& 85)) / 4 &&& 51)
def bcU (a : Nat) : Nat := (bcT a + bcT a / 16) % 16
theorem bcT_b : ∀ a : Nat, a < 256 → bcT a ≤ 68 ∧ bcT a % 16 ≤ 4 := by decide +kernel
theorem bcU_b : ∀ a : Nat, a < 256 → bcU a = bcC (fun j => a.testBit j) 8 := by decide +kernel
theorem bcU_8 {a : Nat} (h : a < 256) : bcU a ≤ 8 := by
  rw [bcU_b a h]
  exact bcC_le _ 8
def lsum : Nat → Nat → Nat
  | 0, _ => 0
  | k + 1, n => bcU (n % 256) + lsum k (n / 256)
theorem lsum_b : ∀ k n : Nat, bcC (fun j => n.testBit j) (8 * k) = lsum k n
  | 0, _ => rfl
  | k + 1, n => by
    have e1 : bcC (fun j => n.testBit j) 8 = bcU (n % 256) := by
      rw [bcU_b (n % 256) (by omega)]
      refine bcC_eq 8 (fun j hj => ?_)
      have : (n % 2 ^ 8).testBit j = (decide (j < 8) && n.testBit j) := Nat.testBit_mod_two_pow n 8 j
      rw [decide_eq_true hj, Bool.true_and] at this
      exact this.symm
    have e2 : bcC (fun j => n.testBit (8 + j)) (8 * k) = bcC (fun j => (n / 256).testBit j) (8 * k) := bcC_eq _ (fun j _ => by
      have : (n / 2 ^ 8).testBit j = n.testBit (j + 8) := Nat.testBit_div_two_pow n j
      rw [Nat.add_comm 8 j]
      exact this.symm)
    rw [show 8 * (k + 1) = 8 + 8 * k from by omega, bcC_add, e1, e2, lsum_b k (n / 256)]
    rfl
theorem bc_x3 {n : Nat} (hn : n < 2 ^ 64) : (((((n - (n / 2 &&& 6148914691236517205)) &&& 3689348814741910323) + ((n - (n / 2 &&& 6148914691236517205)) / 4 &&& 3689348814741910323)) + (((n - (n / 2 &&& 6148914691236517205)) &&& 3689348814741910323) + ((n - (n / 2 &&& 6148914691236517205)) / 4 &&& 3689348814741910323)) / 16) &&& 1085102592571150095) = lane bcU 8 n := by
  have m5 : rept 85 8 = 6148914691236517205 := by decide
  have m3 : rept 51 8 = 3689348814741910323 := by decide
  have mf : rept 15 8 = 1085102592571150095 := by decide
  have c := lane_c (t := fun a => (a &&& 51) + (a / 4 &&& 51)) (u := fun a => a - (a / 2 &&& 85)) (fun a ha => Nat.lt_of_le_of_lt (Nat.sub_le _ _) ha) 8 n
  rw [← m5, ← m3, ← mf, ln1 8 n hn, ln2 8, c]
  exact ln3 (t := bcT) bcT_b 8 n
theorem bc_fin {p0 p1 p2 p3 p4 p5 p6 p7 x : Nat} (h0 : p0 ≤ 8) (h1 : p1 ≤ 8) (h2 : p2 ≤ 8) (h3 : p3 ≤ 8) (h4 : p4 ≤ 8) (h5 : p5 ≤ 8) (h6 : p6 ≤ 8) (h7 : p7 ≤ 8) (hx : x = p0 + 256 * (p1 + 256 * (p2 + 256 * (p3 + 256 * (p4 + 256 * (p5 + 256 * (p6 + 256 * (p7 + 256 * 0)))))))) : x + x / 256 < 2 ^ 64 ∧ (x + x / 256) + (x + x / 256) / 65536 < 2 ^ 64 ∧ ((x + x / 256) + (x + x / 256) / 65536) + ((x + x / 256) + (x + x / 256) / 65536) / 4294967296 < 2 ^ 64 ∧ (((x + x / 256) + (x + x / 256) / 65536) + ((x + x / 256) + (x + x / 256) / 65536) / 4294967296) % 128 = p0 + (p1 + (p2 + (p3 + (p4 + (p5 + (p6 + (p7 + 0))))))) := by
  obtain ⟨q7, e7⟩ : ∃ q, q = p7 + 256 * 0 := ⟨_, rfl⟩
  rw [← e7] at hx
  obtain ⟨q6, e6⟩ : ∃ q, q = p6 + 256 * q7 := ⟨_, rfl⟩
  rw [← e6] at hx
  obtain ⟨q5, e5⟩ : ∃ q, q = p5 + 256 * q6 := ⟨_, rfl⟩
  rw [← e5] at hx
  obtain ⟨q4, e4⟩ : ∃ q, q = p4 + 256 * q5 := ⟨_, rfl⟩
  rw [← e4] at hx
  obtain ⟨q3, e3⟩ : ∃ q, q = p3 + 256 * q4 := ⟨_, rfl⟩
  rw [← e3] at hx
  obtain ⟨q2, e2⟩ : ∃ q, q = p2 + 256 * q3 := ⟨_, rfl⟩
  rw [← e2] at hx
  obtain ⟨q1, e1⟩ : ∃ q, q = p1 + 256 * q2 := ⟨_, rfl⟩
  rw [← e1] at hx
  have a1 : x / 256 = q1 := by omega
  have a2 : (x + q1) / 65536 = q2 + q3 := by omega
  have a3 : (x + q1 + (q2 + q3)) / 4294967296 = q4 + q5 + (q6 + q7) := by omega
  rw [a1, a2, a3]
  omega
/-- the number of a long -/
def rN (x : Int) (n : Nat) : Prop := (Int64.ofInt x).toBitVec.toNat = n
theorem rN_lt {x : Int} {n : Nat} (h : rN x n) : n < 2 ^ 64 := by
  unfold rN at h
  rw [← h]
  exact BitVec.isLt _
theorem rN_and {x y : Int} {n m : Nat} (h1 : rN x n) (h2 : rN y m) : rN (v64 3 x y) (n &&& m) := by
  unfold rN v64
  rw [Int64.ofInt_toInt]
  show (Int64.ofInt x &&& Int64.ofInt y).toBitVec.toNat = _
  rw [Int64.toBitVec_and, BitVec.toNat_and, show (Int64.ofInt x).toBitVec.toNat = n from h1, show (Int64.ofInt y).toBitVec.toNat = m from h2]
theorem rN_add {x y : Int} {n m : Nat} (h1 : rN x n) (h2 : rN y m) (l : n + m < 2 ^ 64) : rN (v64 0 x y) (n + m) := by
  unfold rN v64
  rw [Int64.ofInt_toInt]
  show (Int64.ofInt x + Int64.ofInt y).toBitVec.toNat = _
  rw [Int64.toBitVec_add, BitVec.toNat_add, show (Int64.ofInt x).toBitVec.toNat = n from h1, show (Int64.ofInt y).toBitVec.toNat = m from h2]
  exact Nat.mod_eq_of_lt l
theorem rN_sub {x y : Int} {n m : Nat} (h1 : rN x n) (h2 : rN y m) (l : m ≤ n) : rN (v64 1 x y) (n - m) := by
  have ln := rN_lt h1
  unfold rN v64
  rw [Int64.ofInt_toInt]
  show (Int64.ofInt x - Int64.ofInt y).toBitVec.toNat = _
  rw [Int64.toBitVec_sub, BitVec.toNat_sub, show (Int64.ofInt x).toBitVec.toNat = n from h1, show (Int64.ofInt y).toBitVec.toNat = m from h2]
  omega
theorem rN_shr {x : Int} {n k : Nat} (h : rN x n) (hk : k < 48) : rN (vS 1 x (k : Int)) (n / 2 ^ k) := by
  unfold rN vS
  rw [Int64.ofInt_toInt]
  show ((Int64.ofInt x).toUInt64 >>> ((Int32.ofInt (k : Int)).toInt64.toUInt64 &&& Int64.toUInt64 63)).toBitVec.toNat = _
  rw [wK1 k hk, UInt64.toBitVec_shiftRight, BitVec.ushiftRight_eq', wK2 k hk, BitVec.toNat_ushiftRight, Nat.shiftRight_eq_div_pow]
  exact congrArg (· / 2 ^ k) h
theorem rN_fin {x : Int} {n : Nat} (h : rN x n) : v32 3 (vI x) 127 = ((n % 128 : Nat) : Int) := by
  unfold v32 vI
  rw [Int32.ofInt_toInt]
  have e : ((Int64.ofInt x).toInt32 &&& Int32.ofInt 127).toBitVec.toNat = n % 128 := by
    rw [Int32.toBitVec_and, BitVec.toNat_and, Int64.toBitVec_toInt32, BitVec.signExtend_eq_setWidth_of_le _ (by decide), BitVec.toNat_setWidth, show (Int64.ofInt x).toBitVec.toNat = n from h]
    have t : ((n % 2 ^ 32) &&& 127) = (n % 2 ^ 32) % 128 := Nat.and_two_pow_sub_one_eq_mod (n % 2 ^ 32) 7
    show ((n % 2 ^ 32) &&& 127) = n % 128
    rw [t]
    omega
  have q := BitVec.toInt_eq_toNat_of_lt (x := ((Int64.ofInt x).toInt32 &&& Int32.ofInt 127).toBitVec) (by rw [e]; omega)
  rw [e] at q
  exact q
theorem rN_k5 : rN 6148914691236517205 6148914691236517205 := by unfold rN; decide
theorem rN_k3 : rN 3689348814741910323 3689348814741910323 := by unfold rN; decide
theorem rN_kf : rN 1085102592571150095 1085102592571150095 := by unfold rN; decide
theorem rN_s1 {x : Int} {n : Nat} (h : rN x n) : rN (vS 1 x 1) (n / 2) := rN_shr (k := 1) h (by decide)
theorem rN_s2 {x : Int} {n : Nat} (h : rN x n) : rN (vS 1 x 2) (n / 4) := rN_shr (k := 2) h (by decide)
theorem rN_s4 {x : Int} {n : Nat} (h : rN x n) : rN (vS 1 x 4) (n / 16) := rN_shr (k := 4) h (by decide)
theorem rN_s8 {x : Int} {n : Nat} (h : rN x n) : rN (vS 1 x 8) (n / 256) := rN_shr (k := 8) h (by decide)
theorem rN_s16 {x : Int} {n : Nat} (h : rN x n) : rN (vS 1 x 16) (n / 65536) := rN_shr (k := 16) h (by decide)
theorem rN_s32 {x : Int} {n : Nat} (h : rN x n) : rN (vS 1 x 32) (n / 4294967296) := rN_shr (k := 32) h (by decide)
theorem qj_bc0 {D : zD} {T : zT} (hT : hTab T) (hO : vOK T) {N : Nat} {h : zH} {Q : zR → Prop} (z : Int) (hv0 : zHv h)
    (k0 : vP D T N 2 10 h [some (1, (v64 1 z ((v64 3 ((vS 1 z 1)) 6148914691236517205)))), none] [] Q) :
    vP D T N 2 0 h [some (1, z), none] [] Q := by
  refine v_load (v := (1, z)) (hT _ zt_J13_bitCount_95d88 rfl _ _ rfl) rfl rfl ?_
  refine v_load (v := (1, z)) (hT _ zt_J13_bitCount_95d88 rfl _ _ rfl) rfl rfl ?_
  refine v_push (1) (hT _ zt_J13_bitCount_95d88 rfl _ _ rfl) rfl ?_
  refine v_sh64 (w := (vS 1 z 1)) (hT _ zt_J13_bitCount_95d88 rfl _ _ rfl) rfl ?_
  refine v_push (6148914691236517205) (hT _ zt_J13_bitCount_95d88 rfl _ _ rfl) rfl ?_
  refine v_bin64 (w := (v64 3 ((vS 1 z 1)) 6148914691236517205)) (hT _ zt_J13_bitCount_95d88 rfl _ _ rfl) rfl ?_
  refine v_bin64 (w := (v64 1 z ((v64 3 ((vS 1 z 1)) 6148914691236517205)))) (hT _ zt_J13_bitCount_95d88 rfl _ _ rfl) rfl ?_
  refine v_store2 [some (1, (v64 1 z ((v64 3 ((vS 1 z 1)) 6148914691236517205)))), none] (hT _ zt_J13_bitCount_95d88 rfl _ _ rfl) (Nat.le_of_ble_eq_true rfl) rfl ?_
  exact k0 
theorem qj_bc10 {D : zD} {T : zT} (hT : hTab T) (hO : vOK T) {N : Nat} {h : zH} {Q : zR → Prop} (z : Int) (hv0 : zHv h)
    (k0 : vP D T N 2 24 h [some (1, (v64 0 ((v64 3 z 3689348814741910323)) ((v64 3 ((vS 1 z 2)) 3689348814741910323)))), none] [] Q) :
    vP D T N 2 10 h [some (1, z), none] [] Q := by
  refine v_load (v := (1, z)) (hT _ zt_J13_bitCount_95d88 rfl _ _ rfl) rfl rfl ?_
  refine v_push (3689348814741910323) (hT _ zt_J13_bitCount_95d88 rfl _ _ rfl) rfl ?_
  refine v_bin64 (w := (v64 3 z 3689348814741910323)) (hT _ zt_J13_bitCount_95d88 rfl _ _ rfl) rfl ?_
  refine v_load (v := (1, z)) (hT _ zt_J13_bitCount_95d88 rfl _ _ rfl) rfl rfl ?_
  refine v_push (2) (hT _ zt_J13_bitCount_95d88 rfl _ _ rfl) rfl ?_
  refine v_sh64 (w := (vS 1 z 2)) (hT _ zt_J13_bitCount_95d88 rfl _ _ rfl) rfl ?_
  refine v_push (3689348814741910323) (hT _ zt_J13_bitCount_95d88 rfl _ _ rfl) rfl ?_
  refine v_bin64 (w := (v64 3 ((vS 1 z 2)) 3689348814741910323)) (hT _ zt_J13_bitCount_95d88 rfl _ _ rfl) rfl ?_
  refine v_bin64 (w := (v64 0 ((v64 3 z 3689348814741910323)) ((v64 3 ((vS 1 z 2)) 3689348814741910323)))) (hT _ zt_J13_bitCount_95d88 rfl _ _ rfl) rfl ?_
  refine v_store2 [some (1, (v64 0 ((v64 3 z 3689348814741910323)) ((v64 3 ((vS 1 z 2)) 3689348814741910323)))), none] (hT _ zt_J13_bitCount_95d88 rfl _ _ rfl) (Nat.le_of_ble_eq_true rfl) rfl ?_
  exact k0 
theorem qj_bc24 {D : zD} {T : zT} (hT : hTab T) (hO : vOK T) {N : Nat} {h : zH} {Q : zR → Prop} (z : Int) (hv0 : zHv h)
    (k0 : vP D T N 2 34 h [some (1, (v64 3 ((v64 0 z ((vS 1 z 4)))) 1085102592571150095)), none] [] Q) :
    vP D T N 2 24 h [some (1, z), none] [] Q := by
  refine v_load (v := (1, z)) (hT _ zt_J13_bitCount_95d88 rfl _ _ rfl) rfl rfl ?_
  refine v_load (v := (1, z)) (hT _ zt_J13_bitCount_95d88 rfl _ _ rfl) rfl rfl ?_
  refine v_push (4) (hT _ zt_J13_bitCount_95d88 rfl _ _ rfl) rfl ?_
  refine v_sh64 (w := (vS 1 z 4)) (hT _ zt_J13_bitCount_95d88 rfl _ _ rfl) rfl ?_
  refine v_bin64 (w := (v64 0 z ((vS 1 z 4)))) (hT _ zt_J13_bitCount_95d88 rfl _ _ rfl) rfl ?_
  refine v_push (1085102592571150095) (hT _ zt_J13_bitCount_95d88 rfl _ _ rfl) rfl ?_
  refine v_bin64 (w := (v64 3 ((v64 0 z ((vS 1 z 4)))) 1085102592571150095)) (hT _ zt_J13_bitCount_95d88 rfl _ _ rfl) rfl ?_
  refine v_store2 [some (1, (v64 3 ((v64 0 z ((vS 1 z 4)))) 1085102592571150095)), none] (hT _ zt_J13_bitCount_95d88 rfl _ _ rfl) (Nat.le_of_ble_eq_true rfl) rfl ?_
  exact k0 
theorem qj_bc34 {D : zD} {T : zT} (hT : hTab T) (hO : vOK T) {N : Nat} {h : zH} {Q : zR → Prop} (z : Int) (hv0 : zHv h)
    (k0 : vP D T N 2 41 h [some (1, (v64 0 z ((vS 1 z 8)))), none] [] Q) :
    vP D T N 2 34 h [some (1, z), none] [] Q := by
  refine v_load (v := (1, z)) (hT _ zt_J13_bitCount_95d88 rfl _ _ rfl) rfl rfl ?_
  refine v_load (v := (1, z)) (hT _ zt_J13_bitCount_95d88 rfl _ _ rfl) rfl rfl ?_
  refine v_push (8) (hT _ zt_J13_bitCount_95d88 rfl _ _ rfl) rfl ?_
  refine v_sh64 (w := (vS 1 z 8)) (hT _ zt_J13_bitCount_95d88 rfl _ _ rfl) rfl ?_
  refine v_bin64 (w := (v64 0 z ((vS 1 z 8)))) (hT _ zt_J13_bitCount_95d88 rfl _ _ rfl) rfl ?_
  refine v_store2 [some (1, (v64 0 z ((vS 1 z 8)))), none] (hT _ zt_J13_bitCount_95d88 rfl _ _ rfl) (Nat.le_of_ble_eq_true rfl) rfl ?_
  exact k0 
theorem qj_bc41 {D : zD} {T : zT} (hT : hTab T) (hO : vOK T) {N : Nat} {h : zH} {Q : zR → Prop} (z : Int) (hv0 : zHv h)
    (k0 : vP D T N 2 48 h [some (1, (v64 0 z ((vS 1 z 16)))), none] [] Q) :
    vP D T N 2 41 h [some (1, z), none] [] Q := by
  refine v_load (v := (1, z)) (hT _ zt_J13_bitCount_95d88 rfl _ _ rfl) rfl rfl ?_
  refine v_load (v := (1, z)) (hT _ zt_J13_bitCount_95d88 rfl _ _ rfl) rfl rfl ?_
  refine v_push (16) (hT _ zt_J13_bitCount_95d88 rfl _ _ rfl) rfl ?_
  refine v_sh64 (w := (vS 1 z 16)) (hT _ zt_J13_bitCount_95d88 rfl _ _ rfl) rfl ?_
  refine v_bin64 (w := (v64 0 z ((vS 1 z 16)))) (hT _ zt_J13_bitCount_95d88 rfl _ _ rfl) rfl ?_
  refine v_store2 [some (1, (v64 0 z ((vS 1 z 16)))), none] (hT _ zt_J13_bitCount_95d88 rfl _ _ rfl) (Nat.le_of_ble_eq_true rfl) rfl ?_
  exact k0 
theorem qj_bc48 {D : zD} {T : zT} (hT : hTab T) (hO : vOK T) {N : Nat} {h : zH} {Q : zR → Prop} (z : Int) (hv0 : zHv h)
    (k0 : vP D T N 2 55 h [some (1, (v64 0 z ((vS 1 z 32)))), none] [] Q) :
    vP D T N 2 48 h [some (1, z), none] [] Q := by
  refine v_load (v := (1, z)) (hT _ zt_J13_bitCount_95d88 rfl _ _ rfl) rfl rfl ?_
  refine v_load (v := (1, z)) (hT _ zt_J13_bitCount_95d88 rfl _ _ rfl) rfl rfl ?_
  refine v_push (32) (hT _ zt_J13_bitCount_95d88 rfl _ _ rfl) rfl ?_
  refine v_sh64 (w := (vS 1 z 32)) (hT _ zt_J13_bitCount_95d88 rfl _ _ rfl) rfl ?_
  refine v_bin64 (w := (v64 0 z ((vS 1 z 32)))) (hT _ zt_J13_bitCount_95d88 rfl _ _ rfl) rfl ?_
  refine v_store2 [some (1, (v64 0 z ((vS 1 z 32)))), none] (hT _ zt_J13_bitCount_95d88 rfl _ _ rfl) (Nat.le_of_ble_eq_true rfl) rfl ?_
  exact k0 
theorem qj_bc55 {D : zD} {T : zT} (hT : hTab T) (hO : vOK T) {N : Nat} {h : zH} {Q : zR → Prop} (z : Int) (hv0 : zHv h)
    (k0 : Q (h, some (0, (v32 3 ((vI z)) 127)))) :
    vP D T N 2 55 h [some (1, z), none] [] Q := by
  refine v_load (v := (1, z)) (hT _ zt_J13_bitCount_95d88 rfl _ _ rfl) rfl rfl ?_
  refine v_l2i (w := (vI z)) (hT _ zt_J13_bitCount_95d88 rfl _ _ rfl) rfl ?_
  refine v_push (127) (hT _ zt_J13_bitCount_95d88 rfl _ _ rfl) rfl ?_
  refine v_bin (w := (v32 3 ((vI z)) 127)) (hT _ zt_J13_bitCount_95d88 rfl _ _ rfl) rfl ?_
  refine v_ret (hT _ zt_J13_bitCount_95d88 rfl _ _ rfl) (Or.inl rfl) ?_
  exact k0 
theorem cb_bc {D : zD} {T : zT} (hT : hTab T) (hO : vOK T) {N : Nat} {h : zH} {Q : zR → Prop} (z : Int) (k : Q (h, some (0, ((bcC (wB z) 64 : Nat) : Int)))) : vP D T N 2 0 h [some (1, z), none] [] Q := by
  obtain ⟨n, r0⟩ : ∃ n, rN z n := ⟨_, rfl⟩
  have hn := rN_lt r0
  have ek : bcC (wB z) 64 = lsum 8 n := by
    rw [← lsum_b 8 n]
    refine bcC_eq 64 (fun j _ => ?_)
    unfold rN at r0
    rw [← r0]
    rfl
  rw [ek] at k
  have x3 := bc_x3 hn
  refine vP_hv (fun hv => qj_bc0 hT hO z hv ?_)
  have r1 := rN_sub r0 (rN_and (rN_s1 r0) rN_k5) (Nat.le_trans Nat.and_le_left (Nat.div_le_self _ _))
  generalize (v64 1 z (v64 3 (vS 1 z 1) 6148914691236517205)) = z1 at r1 ⊢
  generalize (n - (n / 2 &&& 6148914691236517205)) = n1 at r1 x3
  refine vP_hv (fun hv => qj_bc10 hT hO z1 hv ?_)
  have l1 := rN_lt r1
  have b3 : ∀ m : Nat, (m &&& 3689348814741910323) ≤ 3689348814741910323 := fun m => Nat.and_le_right
  have r2 := rN_add (rN_and r1 rN_k3) (rN_and (rN_s2 r1) rN_k3) (by have := b3 n1; have := b3 (n1 / 4); omega)
  generalize (v64 0 (v64 3 z1 3689348814741910323) (v64 3 (vS 1 z1 2) 3689348814741910323)) = z2 at r2 ⊢
  have l2 : (n1 &&& 3689348814741910323) + (n1 / 4 &&& 3689348814741910323) ≤ 7378697629483820646 := by have := b3 n1; have := b3 (n1 / 4); omega
  generalize ((n1 &&& 3689348814741910323) + (n1 / 4 &&& 3689348814741910323)) = n2 at r2 x3 l2
  refine vP_hv (fun hv => qj_bc24 hT hO z2 hv ?_)
  have r3 := rN_and (rN_add r2 (rN_s4 r2) (by omega)) rN_kf
  generalize (v64 3 (v64 0 z2 (vS 1 z2 4)) 1085102592571150095) = z3 at r3 ⊢
  rw [x3] at r3
  refine vP_hv (fun hv => qj_bc34 hT hO z3 hv ?_)
  obtain ⟨f4, f5, f6, fe⟩ := bc_fin (x := lane bcU 8 n) (p0 := bcU (n % 256)) (p1 := bcU (n / 256 % 256)) (p2 := bcU (n / 256 / 256 % 256)) (p3 := bcU (n / 256 / 256 / 256 % 256)) (p4 := bcU (n / 256 / 256 / 256 / 256 % 256)) (p5 := bcU (n / 256 / 256 / 256 / 256 / 256 % 256)) (p6 := bcU (n / 256 / 256 / 256 / 256 / 256 / 256 % 256)) (p7 := bcU (n / 256 / 256 / 256 / 256 / 256 / 256 / 256 % 256)) (bcU_8 (Nat.mod_lt _ (by decide))) (bcU_8 (Nat.mod_lt _ (by decide))) (bcU_8 (Nat.mod_lt _ (by decide))) (bcU_8 (Nat.mod_lt _ (by decide))) (bcU_8 (Nat.mod_lt _ (by decide))) (bcU_8 (Nat.mod_lt _ (by decide))) (bcU_8 (Nat.mod_lt _ (by decide))) (bcU_8 (Nat.mod_lt _ (by decide))) rfl
  have fe2 : _ = lsum 8 n := fe
  rw [← fe2] at k
  generalize lane bcU 8 n = n3 at r3 f4 f5 f6 k
  have r4 := rN_add r3 (rN_s8 r3) f4
  generalize (v64 0 z3 (vS 1 z3 8)) = z4 at r4 ⊢
  refine vP_hv (fun hv => qj_bc41 hT hO z4 hv ?_)
  generalize n3 + n3 / 256 = n4 at r4 f5 f6 k
  have r5 := rN_add r4 (rN_s16 r4) f5
  generalize (v64 0 z4 (vS 1 z4 16)) = z5 at r5 ⊢
  refine vP_hv (fun hv => qj_bc48 hT hO z5 hv ?_)
  generalize n4 + n4 / 65536 = n5 at r5 f6 k
  have r6 := rN_add r5 (rN_s32 r5) f6
  generalize (v64 0 z5 (vS 1 z5 32)) = z6 at r6 ⊢
  refine vP_hv (fun hv => qj_bc55 hT hO z6 hv ?_)
  rw [rN_fin r6]
  exact k
