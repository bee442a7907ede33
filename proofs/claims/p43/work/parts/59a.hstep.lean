/-! STEPS BY HAND over the concrete machine -/
section HS
variable {D : zD} {T : zT} {d mi pc nx a b : Nat} {z : Int} {cs : List (Int × Nat)} {h : zH} {L : zL} {S : List zV} {r : zR}
theorem hq_push {t : Nat} (hi : T mi pc = some (0, nx, t, b, z, cs)) (k : zRun D T d mi nx (h, L, (t, z) :: S) r) : zRun D T d mi pc (h, L, S) r := zRun.step hi rfl k
theorem hq_pushZ {t : Nat} {w : Int} (hi : T mi pc = some (0, nx, t, b, z, cs)) (hw : z = w) (k : zRun D T d mi nx (h, L, (t, w) :: S) r) : zRun D T d mi pc (h, L, S) r := by
  subst hw
  exact zRun.step hi rfl k
theorem hq_goto (hi : T mi pc = some (1, nx, a, b, z, cs)) (k : zRun D T d mi nx (h, L, S) r) : zRun D T d mi pc (h, L, S) r := zRun.step hi rfl k
theorem hq_load (hi : T mi pc = some (2, nx, a, b, z, cs)) {v : zV} (hv : L a = some v) (hk : zkind v = b) (k : zRun D T d mi nx (h, L, v :: S) r) : zRun D T d mi pc (h, L, S) r := by
  refine zRun.step hi ?_ k
  show z_load nx a b (h, L, S) = _
  unfold z_load
  dsimp only
  rw [hv]
  exact if_pos hk
theorem hq_store (hi : T mi pc = some (3, nx, a, b, z, cs)) {v : zV} (hk : zkind v = b ∧ b ≠ 1) (k : zRun D T d mi nx (h, zput1 L a v, S) r) : zRun D T d mi pc (h, L, v :: S) r := by
  refine zRun.step hi ?_ k
  show z_store1 nx a b (h, L, v :: S) = _
  exact if_pos hk
theorem hq_iinc (hi : T mi pc = some (5, nx, a, b, z, cs)) {x w : Int} (hv : L a = some (0, x)) (he : (Int32.ofInt x + Int32.ofInt z).toInt = w) (k : zRun D T d mi nx (h, zput1 L a (0, w), S) r) : zRun D T d mi pc (h, L, S) r := by
  subst he
  refine zRun.step hi ?_ k
  show z_iinc nx a z (h, L, S) = _
  unfold z_iinc
  dsimp only
  rw [hv]
  rfl
theorem hq_iincZ (hi : T mi pc = some (5, nx, a, b, z, cs)) {x u w : Int} (hu : z = u) (hv : L a = some (0, x)) (he : (Int32.ofInt x + Int32.ofInt u).toInt = w) (k : zRun D T d mi nx (h, zput1 L a (0, w), S) r) : zRun D T d mi pc (h, L, S) r := by
  subst hu
  exact hq_iinc hi hv he k
theorem hq_bin (hi : T mi pc = some (7, nx, a, b, z, cs)) {x y w : Int} (he : (zf32 b (Int32.ofInt x) (Int32.ofInt y)).toInt = w) (k : zRun D T d mi nx (h, L, (0, w) :: S) r) : zRun D T d mi pc (h, L, (0, y) :: (0, x) :: S) r := by
  subst he
  exact zRun.step hi rfl k
theorem hq_div (hi : T mi pc = some (8, nx, a, b, z, cs)) {x y w : Int} (hy : y ≠ 0) (he : (zd32 b (Int32.ofInt x) (Int32.ofInt y)).toInt = w) (k : zRun D T d mi nx (h, L, (0, w) :: S) r) : zRun D T d mi pc (h, L, (0, y) :: (0, x) :: S) r := by
  subst he
  refine zRun.step hi ?_ k
  show z_div32 nx b (h, L, (0, y) :: (0, x) :: S) = _
  exact if_neg hy
theorem hq_i2l (hi : T mi pc = some (13, nx, a, b, z, cs)) {x : Int} (k : zRun D T d mi nx (h, L, (1, x) :: S) r) : zRun D T d mi pc (h, L, (0, x) :: S) r := zRun.step hi rfl k
theorem hq_dup (hi : T mi pc = some (15, nx, a, 2, z, cs)) {v : zV} (hc : zcat v = 1) (k : zRun D T d mi nx (h, L, v :: v :: S) r) : zRun D T d mi pc (h, L, v :: S) r := by
  refine zRun.step hi ?_ k
  show z_stk nx 2 (h, L, v :: S) = _
  exact if_pos hc
theorem hq_ifT (hi : T mi pc = some (16, nx, a, b, z, cs)) {x : Int} (hb : zrel b x 0 = true) (k : zRun D T d mi a (h, L, S) r) : zRun D T d mi pc (h, L, (0, x) :: S) r := by
  refine zRun.step hi ?_ k
  show znx (if zrel b x 0 then a else nx) (h, L, S) = _
  rw [if_pos hb]
  rfl
theorem hq_ifF (hi : T mi pc = some (16, nx, a, b, z, cs)) {x : Int} (hb : zrel b x 0 = false) (k : zRun D T d mi nx (h, L, S) r) : zRun D T d mi pc (h, L, (0, x) :: S) r := by
  refine zRun.step hi ?_ k
  show znx (if zrel b x 0 then a else nx) (h, L, S) = _
  rw [hb, if_neg Bool.false_ne_true]
  rfl
theorem hq_icT (hi : T mi pc = some (17, nx, a, b, z, cs)) {x y : Int} (hb : zrel b x y = true) (k : zRun D T d mi a (h, L, S) r) : zRun D T d mi pc (h, L, (0, y) :: (0, x) :: S) r := by
  refine zRun.step hi ?_ k
  show znx (if zrel b x y then a else nx) (h, L, S) = _
  rw [if_pos hb]
  rfl
theorem hq_icF (hi : T mi pc = some (17, nx, a, b, z, cs)) {x y : Int} (hb : zrel b x y = false) (k : zRun D T d mi nx (h, L, S) r) : zRun D T d mi pc (h, L, (0, y) :: (0, x) :: S) r := by
  refine zRun.step hi ?_ k
  show znx (if zrel b x y then a else nx) (h, L, S) = _
  rw [hb, if_neg Bool.false_ne_true]
  rfl
theorem hq_lcmp (hi : T mi pc = some (18, nx, a, b, z, cs)) {x y w : Int} (he : (if y < x then (1 : Int) else if x = y then 0 else -1) = w) (k : zRun D T d mi nx (h, L, (0, w) :: S) r) : zRun D T d mi pc (h, L, (1, y) :: (1, x) :: S) r := by
  subst he
  exact zRun.step hi rfl k
theorem hq_getf (hi : T mi pc = some (20, nx, a, b, z, cs)) {x : Int} {v : zV} (hr : zisO a x = true) (hv : h x.toNat b = v) (k : zRun D T d mi nx (h, L, v :: S) r) : zRun D T d mi pc (h, L, (2, x) :: S) r := by
  subst hv
  refine zRun.step hi ?_ k
  show (if zisO a x then znx nx (h, L, h x.toNat b :: S) else none) = _
  rw [if_pos hr]
  rfl
theorem hq_putf (hi : T mi pc = some (21, nx, a, b, z, cs)) {x : Int} {v : zV} (hr : zisO a x = true ∧ zfit z.toNat v = true) (k : zRun D T d mi nx (zset h x.toNat b v, L, S) r) : zRun D T d mi pc (h, L, v :: (2, x) :: S) r := by
  refine zRun.step hi ?_ k
  show (if zisO a x ∧ zfit z.toNat v then znx nx (zset h x.toNat b v, L, S) else none) = _
  rw [if_pos hr]
  rfl
theorem hq_ald (hi : T mi pc = some (22, nx, a, b, z, cs)) {x i : Int} {v : zV} (hr : zarr a x i = true) (hv : h x.toNat i.toNat = v) (k : zRun D T d mi nx (h, L, v :: S) r) : zRun D T d mi pc (h, L, (0, i) :: (2, x) :: S) r := by
  subst hv
  refine zRun.step hi ?_ k
  show (if zarr a x i then znx nx (h, L, h x.toNat i.toNat :: S) else none) = _
  rw [if_pos hr]
  rfl
theorem hq_ast (hi : T mi pc = some (23, nx, a, b, z, cs)) {x i : Int} {v : zV} (hr : zarr a x i = true ∧ zfit a v = true ∧ a < 4) (k : zRun D T d mi nx (zset h x.toNat i.toNat v, L, S) r) : zRun D T d mi pc (h, L, v :: (0, i) :: (2, x) :: S) r := by
  refine zRun.step hi ?_ k
  show (if zarr a x i ∧ zfit a v ∧ a < 4 then znx nx (zset h x.toNat i.toNat v, L, S) else none) = _
  rw [if_pos hr]
  rfl
theorem hq_call (hi : T mi pc = some (29, nx, a, b, z, cs)) {as S' : List zV} {h1 : zH} {v : Option zV} (ht : ztake b S [] = some (as, S')) (hc : zsum S' ≤ 8 ∧ zsum as ≤ (cs.head?.elim 0 (fun q => q.2)) ∧ (0 ≤ z → (as.head?.any fun v => v.1 == 2 && zisO z.toNat v.2) = true)) (h1r : zRun D T d a 0 (h, zargs 0 as, []) (h1, v)) (k : zRun D T (d + 1) mi nx (h1, L, zpush v S') r) : zRun D T (d + 1) mi pc (h, L, S) r := by
  refine zRun.call (r1 := (h1, v)) hi ?_ h1r k
  show z_call nx a b z (cs.head?.elim 0 (fun q => q.2)) (h, L, S) = _
  unfold z_call
  dsimp only
  rw [ht]
  exact if_pos hc
theorem hq_ret (hi : T mi pc = some (30, nx, a, 1, z, cs)) {v : zV} (hf : zfit a v = true ∧ v.1 = 0) : zRun D T d mi pc (h, L, [v]) (h, some v) := by
  refine zRun.ret hi ?_
  show (if zfit a v ∧ v.1 = 0 then (some (Sum.inl (h, some v)) : Option zO) else none) = _
  rw [if_pos hf]
end HS
/-! arithmetic -/
theorem hq_ofI {x : Int} (h1 : -2147483648 ≤ x) (h2 : x < 2147483648) : (Int32.ofInt x).toInt = x := by
  exact Int32.toInt_ofInt_of_le (by omega) (by omega)
theorem hq_add {x y : Int} (h1 : -2147483648 ≤ x + y) (h2 : x + y < 2147483648) : (zf32 0 (Int32.ofInt x) (Int32.ofInt y)).toInt = x + y := by
  show (Int32.ofInt x + Int32.ofInt y).toInt = x + y
  rw [← Int32.ofInt_add]
  exact hq_ofI h1 h2
theorem hq_inc {x y : Int} (h1 : -2147483648 ≤ x + y) (h2 : x + y < 2147483648) : (Int32.ofInt x + Int32.ofInt y).toInt = x + y := hq_add h1 h2
theorem hq_sub {x y : Int} (h1 : -2147483648 ≤ x - y) (h2 : x - y < 2147483648) : (zf32 1 (Int32.ofInt x) (Int32.ofInt y)).toInt = x - y := by
  show (Int32.ofInt x - Int32.ofInt y).toInt = x - y
  rw [← Int32.ofInt_sub]
  exact hq_ofI h1 h2
theorem hq_mul {x y : Int} (h1 : -2147483648 ≤ x * y) (h2 : x * y < 2147483648) : (zf32 2 (Int32.ofInt x) (Int32.ofInt y)).toInt = x * y := by
  show (Int32.ofInt x * Int32.ofInt y).toInt = x * y
  rw [← Int32.ofInt_mul]
  exact hq_ofI h1 h2
theorem hq_divI {x y : Int} (h0 : 0 ≤ x) (h1 : x < 2147483648) (h2 : 0 < y) (h3 : y < 2147483648) : (Int32.ofInt x / Int32.ofInt y).toInt = x / y := by
  have q : 0 ≤ x / y := Int.ediv_nonneg h0 (by omega)
  have q2 : x / y ≤ x := Int.ediv_le_self _ h0
  rw [Int32.toInt_div, hq_ofI (by omega) h1, hq_ofI (by omega) h3, Int.tdiv_eq_ediv_of_nonneg h0]
  exact Int.bmod_eq_of_le (by omega) (by omega)
theorem hq_quo {x y : Int} (h0 : 0 ≤ x) (h1 : x < 2147483648) (h2 : 0 < y) (h3 : y < 2147483648) : (zd32 0 (Int32.ofInt x) (Int32.ofInt y)).toInt = x / y := hq_divI h0 h1 h2 h3
theorem hq_rem {x y : Int} (h0 : 0 ≤ x) (h1 : x < 2147483648) (h2 : 0 < y) (h3 : y < 2147483648) : (zd32 1 (Int32.ofInt x) (Int32.ofInt y)).toInt = x % y := by
  have e : (Int32.ofInt x / Int32.ofInt y) = Int32.ofInt (x / y) := by
    have := hq_divI h0 h1 h2 h3
    rw [← this, Int32.ofInt_toInt]
  show (Int32.ofInt x - Int32.ofInt x / Int32.ofInt y * Int32.ofInt y).toInt = x % y
  rw [e, ← Int32.ofInt_mul, ← Int32.ofInt_sub]
  have m1 : 0 ≤ x % y := Int.emod_nonneg _ (by omega)
  have m2 : x % y < y := Int.emod_lt_of_pos _ h2
  have m3 : x - x / y * y = x % y := by rw [Int.mul_comm, Int.emod_def]
  rw [m3]
  exact hq_ofI (by omega) (by omega)
