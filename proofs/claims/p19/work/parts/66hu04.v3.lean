/-! THE ROW GONE, PURE (d: the true weights, 100 a cost) -/
def wHb (nb : Nat → Nat → Int) (co d : Nat → Int) (a k : Nat) : Bool := decide (0 ≤ nb a k ∧ 0 < co (nb a k).toNat ∧ d (nb a k).toNat < wFar ∧ d a = g100 (co (nb a k).toNat) + d (nb a k).toNat)
def wDr (nb : Nat → Nat → Int) (co d : Nat → Int) (a : Nat) : Nat := if wHb nb co d a 0 = true then 0 else if wHb nb co d a 1 = true then 1 else if wHb nb co d a 2 = true then 2 else if wHb nb co d a 3 = true then 3 else 4
def wNx (nb : Nat → Nat → Int) (co d : Nat → Int) (a : Nat) : Nat := (nb a (wDr nb co d a)).toNat
def wPt (nb : Nat → Nat → Int) (co d : Nat → Int) (a : Nat) : Nat → Nat
  | 0 => a
  | n + 1 => wNx nb co d (wPt nb co d a n)
section W3
variable {C : Nat → Prop} {nb : Nat → Nat → Int} {co : Nat → Int} {to fr : Nat} {d f : Nat → Int}
theorem wHb_i {a k : Nat} (h : wHb nb co d a k = true) : 0 ≤ nb a k ∧ 0 < co (nb a k).toNat ∧ d (nb a k).toNat < wFar ∧ d a = g100 (co (nb a k).toNat) + d (nb a k).toNat := of_decide_eq_true h
theorem wHb_b {a k b : Nat} (hb : nb a k = (b : Int)) : wHb nb co d a k = true ↔ (0 < co b ∧ d b < wFar ∧ d a = g100 (co b) + d b) := by
  unfold wHb
  rw [hb, decide_eq_true_iff]
  exact ⟨fun h => h.2, fun h => ⟨by omega, h⟩⟩
theorem wDr_ok {a : Nat} (h : ∃ k, k < 4 ∧ wHb nb co d a k = true) : wDr nb co d a < 4 ∧ wHb nb co d a (wDr nb co d a) = true ∧ ∀ k, k < wDr nb co d a → ¬ wHb nb co d a k = true := by
  unfold wDr
  by_cases h0 : wHb nb co d a 0 = true
  · rw [if_pos h0]; exact ⟨by decide, h0, fun k hk => absurd hk (Nat.not_lt_zero _)⟩
  · rw [if_neg h0]
    by_cases h1 : wHb nb co d a 1 = true
    · rw [if_pos h1]
      refine ⟨by decide, h1, fun k hk => ?_⟩
      have : k = 0 := by omega
      rw [this]; exact h0
    · rw [if_neg h1]
      by_cases h2 : wHb nb co d a 2 = true
      · rw [if_pos h2]
        refine ⟨by decide, h2, fun k hk => ?_⟩
        have : k = 0 ∨ k = 1 := by omega
        rcases this with c | c <;> rw [c]
        · exact h0
        · exact h1
      · rw [if_neg h2]
        by_cases h3 : wHb nb co d a 3 = true
        · rw [if_pos h3]
          refine ⟨by decide, h3, fun k hk => ?_⟩
          have : k = 0 ∨ k = 1 ∨ k = 2 := by omega
          rcases this with c | c | c <;> rw [c]
          · exact h0
          · exact h1
          · exact h2
        · exfalso
          obtain ⟨k, hk, hh⟩ := h
          have : k = 0 ∨ k = 1 ∨ k = 2 ∨ k = 3 := by omega
          rcases this with c | c | c | c <;> rw [c] at hh
          · exact h0 hh
          · exact h1 hh
          · exact h2 hh
          · exact h3 hh
theorem wNx_ok (hok : wOk C nb) (h : wD C nb co g100 to d) {a : Nat} (ca : C a) (hat : a ≠ to) (fa : d a < wFar) : wDr nb co d a < 4 ∧ wHb nb co d a (wDr nb co d a) = true ∧ (∀ k, k < wDr nb co d a → ¬ wHb nb co d a k = true) ∧ C (wNx nb co d a) ∧ nb a (wDr nb co d a) = (wNx nb co d a : Int) ∧ 0 < co (wNx nb co d a) ∧ d (wNx nb co d a) < wFar ∧ d a = g100 (co (wNx nb co d a)) + d (wNx nb co d a) := by
  obtain ⟨b, cb, ⟨k, hk, e⟩, pb, fb, ee⟩ := h.suc ca hat fa
  obtain ⟨k1, k2, k3⟩ := wDr_ok ⟨k, hk, (wHb_b e).mpr ⟨pb, fb, ee⟩⟩
  obtain ⟨i0, i1, i2, i3⟩ := wHb_i k2
  refine ⟨k1, k2, k3, ?_, ?_, i1, i2, i3⟩
  · rcases hok.2 a _ ca k1 with q | ⟨b', cb', q, _⟩
    · omega
    · have : wNx nb co d a = b' := by unfold wNx; rw [q]; omega
      rw [this]; exact cb'
  · unfold wNx; omega
theorem wZ {a : Nat} (hco : ∀ a, C a → co a ≤ 14) (hC : ∀ a, C a → a < 48) (h : wD C nb co g100 to d) (ca : C a) (fa : d a < wFar) : d a % 100 = 0 ↔ a = to := by
  refine ⟨fun z => ?_, fun e => by rw [e, h.1]; decide⟩
  by_cases c : a = to
  · exact c
  · obtain ⟨b, cb, ab, pb, fb, ee⟩ := h.suc ca c fa
    have k := wsuc2 hC hco h ca cb fa fb ee
    have b0 := h.2.1.1 b cb
    omega
theorem wPt_ok (hok : wOk C nb) (hco : ∀ a, C a → co a ≤ 14) (h : wD C nb co g100 to d) {a : Nat} (ca : C a) (fa : d a < wFar) : ∀ i : Nat, (i : Int) ≤ d a % 100 → C (wPt nb co d a i) ∧ d (wPt nb co d a i) < wFar ∧ d (wPt nb co d a i) % 100 = d a % 100 - i := by
  intro i
  induction i with
  | zero => intro _; exact ⟨ca, fa, by show d a % 100 = d a % 100 - 0; omega⟩
  | succ i ih =>
    intro hi
    obtain ⟨c1, f1, n1⟩ := ih (by omega)
    have nt : wPt nb co d a i ≠ to := fun c => by
      have := (wZ hco hok.1 h c1 f1).mpr c
      omega
    obtain ⟨k1, k2, k3, k4, k5, k6, k7, k8⟩ := wNx_ok hok h c1 nt f1
    have k := wsuc2 hok.1 hco h c1 k4 f1 k7 k8
    refine ⟨k4, k7, ?_⟩
    show d (wNx nb co d (wPt nb co d a i)) % 100 = _
    omega
theorem wPt_to (hok : wOk C nb) (hco : ∀ a, C a → co a ≤ 14) (h : wD C nb co g100 to d) {a : Nat} (ca : C a) (fa : d a < wFar) {i : Nat} (hi : (i : Int) ≤ d a % 100) : wPt nb co d a i = to ↔ (i : Int) = d a % 100 := by
  obtain ⟨c1, f1, n1⟩ := wPt_ok hok hco h ca fa i hi
  have z := wZ hco hok.1 h c1 f1
  constructor
  · intro c
    have := z.mpr c
    omega
  · intro c
    exact z.mp (by omega)
/-- what the queue's weights need -/
theorem wE_n1 (hC : ∀ a, C a → a < 48) (hco : ∀ a, C a → co a ≤ 14) (h : wD C nb co g100 to d) : ∀ a b, C a → C b → wEe d a < wFar → wEe d b < wFar → wEe d a = g64 (co b) + wEe d b → wEe d a % 64 = wEe d b % 64 + 1 := by
  intro a b ca cb fa fb e
  have fb' := (wE_lt (h.2.1.1 b cb).1).mp fb
  have k := wE_m hC hco h cb fb'
  have k2 := wrank2 hC hco h cb fb'
  unfold g64 at e
  omega
theorem wE_47 (hC : ∀ a, C a → a < 48) (hco : ∀ a, C a → co a ≤ 14) (h : wD C nb co g100 to d) : ∀ a, C a → wEe d a < wFar → wEe d a % 64 ≤ 47 := by
  intro a ca fa
  have fa' := (wE_lt (h.2.1.1 a ca).1).mp fa
  have k := wE_m hC hco h ca fa'
  have k2 := wrank2 hC hco h ca fa'
  omega
theorem wE_0 : ∀ a, C a → wEe d a < wFar → 0 ≤ wEe d a % 64 := fun a _ _ => by omega
/-- the class's test at a cell whose weight is exact -/
theorem wHit (hok : wOk C nb) (hco : ∀ a, C a → co a ≤ 14) (h : wD C nb co g100 to d) (hle : ∀ a, C a → wEe d a ≤ f a) (hx : ∀ a, wGd C (wEe d) fr a → f a = wEe d a) {a b k : Nat} (ga : wGd C (wEe d) fr a) (fa : d a < wFar) (cb : C b) (hk : k < 4) (hb : nb a k = (b : Int)) : (0 < co b ∧ f b + co b * 64 + 1 = f a) ↔ wHb nb co d a k = true := by
  rw [wHb_b hb]
  have hE := wE_D hok.1 hco h
  have xa := hx a ga
  have la := wE_m hok.1 hco h ga.1 fa
  have ra := wrank2 hok.1 hco h ga.1 fa
  have ea := wE_f fa
  have b0 := h.2.1.1 b cb
  constructor
  · rintro ⟨pb, e⟩
    have lb := hle b cb
    have fb' : wEe d b < wFar := by
      have := (wE_lt (h.2.1.1 a ga.1).1).mpr fa
      omega
    have fb := (wE_lt b0.1).mp fb'
    have l := hE.2.2 a b ga.1 cb ⟨k, hk, hb⟩ pb fb'
    have rb := wrank2 hok.1 hco h cb fb
    have eb := wE_f fb
    unfold g64 at l
    refine ⟨pb, fb, ?_⟩
    unfold g100
    omega
  · rintro ⟨pb, fb, e⟩
    have k2 := wsuc2 hok.1 hco h ga.1 cb fa fb e
    have eb := wE_f fb
    have gb : wGd C (wEe d) fr b := by
      rcases ga.2 with l | l
      · exact ⟨cb, Or.inl (by omega)⟩
      · rw [← l]; exact ⟨cb, Or.inl (by omega)⟩
    have xb := hx b gb
    exact ⟨pb, by omega⟩
end W3
/-! BITS: a set of cells in a long; masks -/
def wB (z : Int) (x : Nat) : Bool := (Int64.ofInt z).toBitVec.getLsbD x
theorem wB1 : ∀ x : Nat, x < 48 → ∀ y : Nat, y < 48 → (zs64 0 (Int64.ofInt 1) (Int32.ofInt (x : Int))).toBitVec.getLsbD y = decide (y = x) := by decide +kernel
theorem wB2 : ∀ x : Nat, x < 48 → ∀ y : Nat, y < 48 → (zf64 5 (zs64 0 (Int64.ofInt 1) (Int32.ofInt (x : Int))) (Int64.ofInt (-1))).toBitVec.getLsbD y = !decide (y = x) := by decide +kernel
theorem wK1 : ∀ x : Nat, x < 48 → ((Int32.ofInt (x : Int)).toInt64.toUInt64 &&& Int64.toUInt64 63) = UInt64.ofNat x := by decide +kernel
theorem wK2 : ∀ x : Nat, x < 48 → ((UInt64.ofNat x).toBitVec % 64).toNat = x := by decide +kernel
theorem wB_or {z z' : Int} {y : Nat} : wB (v64 4 z z') y = (wB z y || wB z' y) := by
  unfold wB v64
  rw [Int64.ofInt_toInt]
  show (Int64.ofInt z ||| Int64.ofInt z').toBitVec.getLsbD y = _
  rw [Int64.toBitVec_or, BitVec.getLsbD_or]
theorem wB_and {z z' : Int} {y : Nat} : wB (v64 3 z z') y = (wB z y && wB z' y) := by
  unfold wB v64
  rw [Int64.ofInt_toInt]
  show (Int64.ofInt z &&& Int64.ofInt z').toBitVec.getLsbD y = _
  rw [Int64.toBitVec_and, BitVec.getLsbD_and]
theorem wB_bit {x y : Nat} (hx : x < 48) (hy : y < 48) : wB (vS 0 1 (x : Int)) y = decide (y = x) := by
  unfold wB vS
  rw [Int64.ofInt_toInt]
  exact wB1 x hx y hy
theorem wB_nbit {x y : Nat} (hx : x < 48) (hy : y < 48) : wB (v64 5 (vS 0 1 (x : Int)) (-1)) y = !decide (y = x) := by
  unfold wB vS v64
  rw [Int64.ofInt_toInt, Int64.ofInt_toInt]
  exact wB2 x hx y hy
theorem wB_set {z : Int} {x y : Nat} (hx : x < 48) (hy : y < 48) : wB (v64 4 z (vS 0 1 (x : Int))) y = (wB z y || decide (y = x)) := by rw [wB_or, wB_bit hx hy]
theorem wB_clr {z : Int} {x y : Nat} (hx : x < 48) (hy : y < 48) : wB (v64 3 z (v64 5 (vS 0 1 (x : Int)) (-1))) y = (wB z y && !decide (y = x)) := by rw [wB_and, wB_nbit hx hy]
theorem wB_tst {z : Int} {x : Nat} (hx : x < 48) : v64 3 (vS 1 z (x : Int)) 1 = if wB z x = true then 1 else 0 := by
  have h : (zf64 3 (zs64 1 (Int64.ofInt z) (Int32.ofInt (x : Int))) (Int64.ofInt 1)).toBitVec = BitVec.setWidth 64 (BitVec.ofBool (wB z x)) := by
    show ((Int64.ofInt z).toUInt64 >>> ((Int32.ofInt (x : Int)).toInt64.toUInt64 &&& Int64.toUInt64 63)).toBitVec &&& 1#64 = _
    rw [wK1 x hx, UInt64.toBitVec_shiftRight, BitVec.ushiftRight_eq', wK2 x hx, BitVec.and_one_eq_setWidth_ofBool_getLsbD, BitVec.getLsbD_ushiftRight, Nat.add_zero]
    rfl
  unfold v64 vS
  rw [Int64.ofInt_toInt]
  show (zf64 3 (zs64 1 (Int64.ofInt z) (Int32.ofInt (x : Int))) (Int64.ofInt 1)).toBitVec.toInt = _
  rw [h]
  cases wB z x <;> decide
theorem wB_0 : ∀ x : Nat, x < 48 → wB 0 x = false := by decide +kernel
theorem and7n : ∀ x : Nat, x < 64 → (zf32 3 (Int32.ofInt (x : Int)) (Int32.ofInt 7)).toInt = ((x % 8 : Nat) : Int) := by decide +kernel
theorem and63n : ∀ x : Nat, x < 128 → (zf32 3 (Int32.ofInt (x : Int)) (Int32.ofInt 63)).toInt = ((x % 64 : Nat) : Int) := by decide +kernel
theorem shr3n : ∀ x : Nat, x < 64 → (zf32 7 (Int32.ofInt (x : Int)) (Int32.ofInt 3)).toInt = ((x / 8 : Nat) : Int) := by decide +kernel
theorem and7 {x : Int} (h0 : 0 ≤ x) (h1 : x < 64) : (zf32 3 (Int32.ofInt x) (Int32.ofInt 7)).toInt = x % 8 := by
  obtain ⟨n, rfl⟩ : ∃ n : Nat, x = (n : Int) := ⟨x.toNat, by omega⟩
  rw [and7n n (by omega)]
  omega
theorem and63 {x : Int} (h0 : 0 ≤ x) (h1 : x < 128) : (zf32 3 (Int32.ofInt x) (Int32.ofInt 63)).toInt = x % 64 := by
  obtain ⟨n, rfl⟩ : ∃ n : Nat, x = (n : Int) := ⟨x.toNat, by omega⟩
  rw [and63n n (by omega)]
  omega
theorem shr3 {x : Int} (h0 : 0 ≤ x) (h1 : x < 64) : (zf32 7 (Int32.ofInt x) (Int32.ofInt 3)).toInt = x / 8 := by
  obtain ⟨n, rfl⟩ : ∃ n : Nat, x = (n : Int) := ⟨x.toNat, by omega⟩
  rw [shr3n n (by omega)]
  omega
