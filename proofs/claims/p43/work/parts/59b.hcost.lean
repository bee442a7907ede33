/-! RUNS BY HAND: what the reference's small methods answer -/
def hTab (T : zT) : Prop := ∀ mi t, x_nth zMT mi = some t → ∀ pc i, z_at t pc = some i → T mi pc = some i
theorem zr0T {x y : Int} (h : x < y) : zrel 0 x y = true := decide_eq_true h
theorem zr0F {x y : Int} (h : y ≤ x) : zrel 0 x y = false := decide_eq_false (by omega)
theorem zr1T {x y : Int} (h : y < x) : zrel 1 x y = true := decide_eq_true h
theorem zr1F {x y : Int} (h : x ≤ y) : zrel 1 x y = false := decide_eq_false (by omega)
theorem zr2T {x y : Int} (h : x = y) : zrel 2 x y = true := decide_eq_true h
theorem zr2F {x y : Int} (h : x ≠ y) : zrel 2 x y = false := decide_eq_false h
theorem za126 {i : Int} (h1 : 0 ≤ i) (h2 : i < 2750) : zarr 0 126 i = true := by
  show (true && (decide (0 ≤ i) && decide (i < 2750))) = true
  rw [decide_eq_true h1, decide_eq_true h2]; rfl
theorem za130 {i : Int} (h1 : 0 ≤ i) (h2 : i < 48) : zarr 0 130 i = true := by
  show (true && (decide (0 ≤ i) && decide (i < 48))) = true
  rw [decide_eq_true h1, decide_eq_true h2]; rfl
theorem za132 {i : Int} (h1 : 0 ≤ i) (h2 : i < 49) : zarr 0 132 i = true := by
  show (true && (decide (0 ≤ i) && decide (i < 49))) = true
  rw [decide_eq_true h1, decide_eq_true h2]; rfl
theorem za129 {i : Int} (h1 : 0 ≤ i) (h2 : i < 48) : zarr 3 129 i = true := by
  show (true && (decide (0 ≤ i) && decide (i < 48))) = true
  rw [decide_eq_true h1, decide_eq_true h2]; rfl
def hc (h : zH) (k : Nat) : Int := (h 126 k).2
def hout (h : zH) (k : Nat) : Int := (h 130 k).2
-- what these methods rest on
def hHp (h : zH) : Prop := (h 121 20 = (2, 126) ∧ h 121 27 = (2, 130) ∧ h 121 30 = (2, 132)) ∧ (∀ k, k < 2750 → (h 126 k).1 = 0) ∧ (∀ k, k < 48 → (h 130 k).1 = 0 ∧ 0 ≤ hout h k ∧ hout h k ≤ 1000000) ∧ (2 ≤ hc h 0 ∧ hc h 0 ≤ 8) ∧ (1 ≤ hc h 1 ∧ hc h 1 ≤ 6) ∧ (∀ k, k < 48 → (-1 ≤ hc h (5 + k) ∧ hc h (5 + k) ≤ 4) ∧ (0 ≤ hc h (53 + k) ∧ hc h (53 + k) ≤ 9)) ∧ ∀ k, k < 144 → 0 ≤ hc h (101 + k) ∧ hc h (101 + k) ≤ 3
theorem hHp.c {h : zH} (hp : hHp h) : h 121 20 = (2, 126) := hp.1.1
theorem hHp.o {h : zH} (hp : hHp h) : h 121 27 = (2, 130) := hp.1.2.1
theorem hHp.w {h : zH} (hp : hHp h) : h 121 30 = (2, 132) := hp.1.2.2
theorem hKd {h : zH} (hp : hHp h) {k : Nat} (hk : k < 2750) : h 126 k = (0, hc h k) := Prod.ext (hp.2.1 k hk) rfl
theorem hKo {h : zH} (hp : hHp h) {k : Nat} (hk : k < 48) : h 130 k = (0, hout h k) := Prod.ext (hp.2.2.1 k hk).1 rfl
section HB
variable {D : zD} {T : zT} {h : zH} {d : Nat}
theorem hm_isIn (hT : hTab T) : ∀ pc i, z_at zt_X12_isIn pc = some i → T 252 pc = some i := hT 252 _ rfl
theorem hm_isCell (hT : hTab T) : ∀ pc i, z_at zt_X12_isCell pc = some i → T 244 pc = some i := hT 244 _ rfl
theorem hm_at2 (hT : hTab T) : ∀ pc i, z_at zt_X12_at2 pc = some i → T 197 pc = some i := hT 197 _ rfl
theorem hm_cells (hT : hTab T) : ∀ pc i, z_at zt_X12_cells pc = some i → T 206 pc = some i := hT 206 _ rfl
theorem hm_stateOf (hT : hTab T) : ∀ pc i, z_at zt_X12_stateOf pc = some i → T 314 pc = some i := hT 314 _ rfl
theorem hm_state (hT : hTab T) : ∀ pc i, z_at zt_X12_state pc = some i → T 313 pc = some i := hT 313 _ rfl
theorem hm_crumbsOf (hT : hTab T) : ∀ pc i, z_at zt_X12_crumbsOf pc = some i → T 215 pc = some i := hT 215 _ rfl
theorem hm_letterCost (hT : hTab T) : ∀ pc i, z_at zt_X12_letterCost pc = some i → T 271 pc = some i := hT 271 _ rfl
theorem hm_beside (hT : hTab T) : ∀ pc i, z_at zt_X12_beside pc = some i → T 200 pc = some i := hT 200 _ rfl
theorem hm_costOf (hT : hTab T) : ∀ pc i, z_at zt_X12_costOf pc = some i → T 212 pc = some i := hT 212 _ rfl
theorem hm_goesBy (hT : hTab T) : ∀ pc i, z_at zt_X12_goesBy pc = some i → T 232 pc = some i := hT 232 _ rfl
theorem hm_wayOf (hT : hTab T) : ∀ pc i, z_at zt_X12_wayOf pc = some i → T 336 pc = some i := hT 336 _ rfl
theorem hm_tellWay (hT : hTab T) : ∀ pc i, z_at zt_X12_tellWay pc = some i → T 324 pc = some i := hT 324 _ rfl
theorem hm_tellCompany (hT : hTab T) : ∀ pc i, z_at zt_X12_tellCompany pc = some i → T 323 pc = some i := hT 323 _ rfl
theorem hm_heapFrom (hT : hTab T) : ∀ pc i, z_at zt_X12_heapFrom pc = some i → T 237 pc = some i := hT 237 _ rfl
theorem hm_doOne (hT : hTab T) : ∀ pc i, z_at zt_X12_doOne pc = some i → T 220 pc = some i := hT 220 _ rfl
theorem hm_avoids (hT : hTab T) : ∀ pc i, z_at zt_X12_avoids pc = some i → T 198 pc = some i := hT 198 _ rfl
theorem r_isInT (hT : hTab T) {x lo hi : Int} (h1 : lo ≤ x) (h2 : x ≤ hi) : zRun D T (d) 252 0 (h, zargs 0 [(1, x), (1, lo), (1, hi)], []) (h, some (0, 1)) := by
  have hm := hm_isIn (T := T) hT
  refine hq_load (hm _ _ rfl) rfl rfl ?_
  refine hq_load (hm _ _ rfl) rfl rfl ?_
  refine hq_lcmp (hm _ _ rfl) rfl ?_
  refine hq_ifF (hm _ _ rfl) (zr0F (by split <;> (try split) <;> omega)) ?_
  refine hq_load (hm _ _ rfl) rfl rfl ?_
  refine hq_load (hm _ _ rfl) rfl rfl ?_
  refine hq_lcmp (hm _ _ rfl) rfl ?_
  refine hq_ifF (hm _ _ rfl) (zr1F (by split <;> (try split) <;> omega)) ?_
  refine hq_pushZ (w := 1) (hm _ _ rfl) rfl ?_
  refine hq_goto (hm _ _ rfl) ?_
  exact hq_ret (hm _ _ rfl) ⟨rfl, rfl⟩
theorem r_isInF (hT : hTab T) {x lo hi : Int} (h1 : x < lo ∨ hi < x) : zRun D T d 252 0 (h, zargs 0 [(1, x), (1, lo), (1, hi)], []) (h, some (0, 0)) := by
  have hm := hm_isIn (T := T) hT
  by_cases h0 : x < lo
  · refine hq_load (hm _ _ rfl) rfl rfl ?_
    refine hq_load (hm _ _ rfl) rfl rfl ?_
    refine hq_lcmp (hm _ _ rfl) rfl ?_
    refine hq_ifT (hm _ _ rfl) (zr0T (by split <;> (try split) <;> omega)) ?_
    refine hq_pushZ (w := 0) (hm _ _ rfl) rfl ?_
    exact hq_ret (hm _ _ rfl) ⟨rfl, rfl⟩
  · refine hq_load (hm _ _ rfl) rfl rfl ?_
    refine hq_load (hm _ _ rfl) rfl rfl ?_
    refine hq_lcmp (hm _ _ rfl) rfl ?_
    refine hq_ifF (hm _ _ rfl) (zr0F (by split <;> (try split) <;> omega)) ?_
    refine hq_load (hm _ _ rfl) rfl rfl ?_
    refine hq_load (hm _ _ rfl) rfl rfl ?_
    refine hq_lcmp (hm _ _ rfl) rfl ?_
    refine hq_ifT (hm _ _ rfl) (zr1T (by split <;> (try split) <;> omega)) ?_
    refine hq_pushZ (w := 0) (hm _ _ rfl) rfl ?_
    exact hq_ret (hm _ _ rfl) ⟨rfl, rfl⟩
theorem r_isCellT (hT : hTab T) (hp : hHp h) {x y : Int} (h1 : 0 ≤ x ∧ x ≤ hc h 0 - 1 ∧ 0 ≤ y ∧ y ≤ hc h 1 - 1) : zRun D T (d + 1) 244 0 (h, zargs 0 [(2, 121), (0, x), (0, y)], []) (h, some (0, 1)) := by
  have hm := hm_isCell (T := T) hT
  obtain ⟨-, -, -, b0, b1, -⟩ := id hp
  refine hq_load (hm _ _ rfl) rfl rfl ?_
  refine hq_i2l (hm _ _ rfl) ?_
  refine hq_pushZ (w := 0) (hm _ _ rfl) rfl ?_
  refine hq_load (hm _ _ rfl) rfl rfl ?_
  refine hq_getf (hm _ _ rfl) rfl hp.c ?_
  refine hq_pushZ (w := 0) (hm _ _ rfl) rfl ?_
  refine hq_ald (hm _ _ rfl) (za126 (by omega) (by omega)) (hKd hp (k := 0) (by omega)) ?_
  refine hq_pushZ (w := 1) (hm _ _ rfl) rfl ?_
  refine hq_bin (hm _ _ rfl) (hq_sub (by omega) (by omega)) ?_
  refine hq_i2l (hm _ _ rfl) ?_
  refine hq_call (hm _ _ rfl) rfl ⟨Nat.le_of_ble_eq_true rfl, Nat.le_of_ble_eq_true rfl, fun h => absurd h (by decide)⟩ (r_isInT hT (by omega) (by omega)) ?_
  refine hq_ifF (hm _ _ rfl) (zr2F (by omega)) ?_
  refine hq_load (hm _ _ rfl) rfl rfl ?_
  refine hq_i2l (hm _ _ rfl) ?_
  refine hq_pushZ (w := 0) (hm _ _ rfl) rfl ?_
  refine hq_load (hm _ _ rfl) rfl rfl ?_
  refine hq_getf (hm _ _ rfl) rfl hp.c ?_
  refine hq_pushZ (w := 1) (hm _ _ rfl) rfl ?_
  refine hq_ald (hm _ _ rfl) (za126 (by omega) (by omega)) (hKd hp (k := 1) (by omega)) ?_
  refine hq_pushZ (w := 1) (hm _ _ rfl) rfl ?_
  refine hq_bin (hm _ _ rfl) (hq_sub (by omega) (by omega)) ?_
  refine hq_i2l (hm _ _ rfl) ?_
  refine hq_call (hm _ _ rfl) rfl ⟨Nat.le_of_ble_eq_true rfl, Nat.le_of_ble_eq_true rfl, fun h => absurd h (by decide)⟩ (r_isInT hT (by omega) (by omega)) ?_
  refine hq_ifF (hm _ _ rfl) (zr2F (by omega)) ?_
  refine hq_pushZ (w := 1) (hm _ _ rfl) rfl ?_
  refine hq_goto (hm _ _ rfl) ?_
  exact hq_ret (hm _ _ rfl) ⟨rfl, rfl⟩
theorem r_isCellF (hT : hTab T) (hp : hHp h) {x y : Int} (h1 : ¬ (0 ≤ x ∧ x ≤ hc h 0 - 1 ∧ 0 ≤ y ∧ y ≤ hc h 1 - 1)) : zRun D T (d + 1) 244 0 (h, zargs 0 [(2, 121), (0, x), (0, y)], []) (h, some (0, 0)) := by
  have hm := hm_isCell (T := T) hT
  obtain ⟨-, -, -, b0, b1, -⟩ := id hp
  by_cases h0 : 0 ≤ x ∧ x ≤ hc h 0 - 1
  · refine hq_load (hm _ _ rfl) rfl rfl ?_
    refine hq_i2l (hm _ _ rfl) ?_
    refine hq_pushZ (w := 0) (hm _ _ rfl) rfl ?_
    refine hq_load (hm _ _ rfl) rfl rfl ?_
    refine hq_getf (hm _ _ rfl) rfl hp.c ?_
    refine hq_pushZ (w := 0) (hm _ _ rfl) rfl ?_
    refine hq_ald (hm _ _ rfl) (za126 (by omega) (by omega)) (hKd hp (k := 0) (by omega)) ?_
    refine hq_pushZ (w := 1) (hm _ _ rfl) rfl ?_
    refine hq_bin (hm _ _ rfl) (hq_sub (by omega) (by omega)) ?_
    refine hq_i2l (hm _ _ rfl) ?_
    refine hq_call (hm _ _ rfl) rfl ⟨Nat.le_of_ble_eq_true rfl, Nat.le_of_ble_eq_true rfl, fun h => absurd h (by decide)⟩ (r_isInT hT (by omega) (by omega)) ?_
    refine hq_ifF (hm _ _ rfl) (zr2F (by omega)) ?_
    refine hq_load (hm _ _ rfl) rfl rfl ?_
    refine hq_i2l (hm _ _ rfl) ?_
    refine hq_pushZ (w := 0) (hm _ _ rfl) rfl ?_
    refine hq_load (hm _ _ rfl) rfl rfl ?_
    refine hq_getf (hm _ _ rfl) rfl hp.c ?_
    refine hq_pushZ (w := 1) (hm _ _ rfl) rfl ?_
    refine hq_ald (hm _ _ rfl) (za126 (by omega) (by omega)) (hKd hp (k := 1) (by omega)) ?_
    refine hq_pushZ (w := 1) (hm _ _ rfl) rfl ?_
    refine hq_bin (hm _ _ rfl) (hq_sub (by omega) (by omega)) ?_
    refine hq_i2l (hm _ _ rfl) ?_
    refine hq_call (hm _ _ rfl) rfl ⟨Nat.le_of_ble_eq_true rfl, Nat.le_of_ble_eq_true rfl, fun h => absurd h (by decide)⟩ (r_isInF hT (by omega)) ?_
    refine hq_ifT (hm _ _ rfl) (zr2T rfl) ?_
    refine hq_pushZ (w := 0) (hm _ _ rfl) rfl ?_
    exact hq_ret (hm _ _ rfl) ⟨rfl, rfl⟩
  · refine hq_load (hm _ _ rfl) rfl rfl ?_
    refine hq_i2l (hm _ _ rfl) ?_
    refine hq_pushZ (w := 0) (hm _ _ rfl) rfl ?_
    refine hq_load (hm _ _ rfl) rfl rfl ?_
    refine hq_getf (hm _ _ rfl) rfl hp.c ?_
    refine hq_pushZ (w := 0) (hm _ _ rfl) rfl ?_
    refine hq_ald (hm _ _ rfl) (za126 (by omega) (by omega)) (hKd hp (k := 0) (by omega)) ?_
    refine hq_pushZ (w := 1) (hm _ _ rfl) rfl ?_
    refine hq_bin (hm _ _ rfl) (hq_sub (by omega) (by omega)) ?_
    refine hq_i2l (hm _ _ rfl) ?_
    refine hq_call (hm _ _ rfl) rfl ⟨Nat.le_of_ble_eq_true rfl, Nat.le_of_ble_eq_true rfl, fun h => absurd h (by decide)⟩ (r_isInF hT (by omega)) ?_
    refine hq_ifT (hm _ _ rfl) (zr2T rfl) ?_
    refine hq_pushZ (w := 0) (hm _ _ rfl) rfl ?_
    exact hq_ret (hm _ _ rfl) ⟨rfl, rfl⟩
theorem h_prod (hp : hHp h) {x y : Int} (h1 : 0 ≤ x ∧ x ≤ hc h 0 - 1 ∧ 0 ≤ y ∧ y ≤ hc h 1 - 1) : 0 ≤ hc h 0 * y ∧ 0 ≤ hc h 0 * y + x ∧ hc h 0 * y + x < hc h 0 * hc h 1 ∧ hc h 0 * hc h 1 ≤ 48 := by
  obtain ⟨-, -, -, b0, b1, -⟩ := id hp
  have m1 : 0 ≤ hc h 0 * y := Int.mul_nonneg (by omega) (by omega)
  have m2 : hc h 0 * y ≤ hc h 0 * (hc h 1 - 1) := Int.mul_le_mul_of_nonneg_left (by omega) (by omega)
  have m3 : hc h 0 * (hc h 1 - 1) = hc h 0 * hc h 1 - hc h 0 := by rw [Int.mul_sub, Int.mul_one]
  have m4 : hc h 0 * hc h 1 ≤ 8 * 6 := Int.mul_le_mul (by omega) (by omega) (by omega) (by omega)
  omega
theorem r_at2 (hT : hTab T) (hp : hHp h) {x y : Int} (h1 : 0 ≤ x ∧ x ≤ hc h 0 - 1 ∧ 0 ≤ y ∧ y ≤ hc h 1 - 1) : zRun D T (d) 197 0 (h, zargs 0 [(2, 121), (0, x), (0, y)], []) (h, some (0, hc h 0 * y + x)) := by
  have hm := hm_at2 (T := T) hT
  obtain ⟨m1, m2, m3, m4⟩ := h_prod hp h1
  obtain ⟨-, -, -, b0, b1, -⟩ := id hp
  refine hq_load (hm _ _ rfl) rfl rfl ?_
  refine hq_getf (hm _ _ rfl) rfl hp.c ?_
  refine hq_pushZ (w := 0) (hm _ _ rfl) rfl ?_
  refine hq_ald (hm _ _ rfl) (za126 (by omega) (by omega)) (hKd hp (k := 0) (by omega)) ?_
  refine hq_load (hm _ _ rfl) rfl rfl ?_
  refine hq_bin (hm _ _ rfl) (hq_mul (by omega) (by omega)) ?_
  refine hq_load (hm _ _ rfl) rfl rfl ?_
  refine hq_bin (hm _ _ rfl) (hq_add (by omega) (by omega)) ?_
  exact hq_ret (hm _ _ rfl) ⟨rfl, rfl⟩
theorem r_cells (hT : hTab T) (hp : hHp h) : zRun D T (d) 206 0 (h, zargs 0 [(2, 121)], []) (h, some (0, hc h 0 * hc h 1)) := by
  have hm := hm_cells (T := T) hT
  obtain ⟨-, -, -, b0, b1, -⟩ := id hp
  have m4 : hc h 0 * hc h 1 ≤ 8 * 6 := Int.mul_le_mul (by omega) (by omega) (by omega) (by omega)
  have m1 : 0 ≤ hc h 0 * hc h 1 := Int.mul_nonneg (by omega) (by omega)
  refine hq_load (hm _ _ rfl) rfl rfl ?_
  refine hq_getf (hm _ _ rfl) rfl hp.c ?_
  refine hq_pushZ (w := 0) (hm _ _ rfl) rfl ?_
  refine hq_ald (hm _ _ rfl) (za126 (by omega) (by omega)) (hKd hp (k := 0) (by omega)) ?_
  refine hq_load (hm _ _ rfl) rfl rfl ?_
  refine hq_getf (hm _ _ rfl) rfl hp.c ?_
  refine hq_pushZ (w := 1) (hm _ _ rfl) rfl ?_
  refine hq_ald (hm _ _ rfl) (za126 (by omega) (by omega)) (hKd hp (k := 1) (by omega)) ?_
  refine hq_bin (hm _ _ rfl) (hq_mul (by omega) (by omega)) ?_
  exact hq_ret (hm _ _ rfl) ⟨rfl, rfl⟩
def bX (h : zH) (cell way : Int) : Int := cell % hc h 0 + (if way = 0 then 1 else if way = 2 then -1 else 0)
def bY (h : zH) (cell way : Int) : Int := cell / hc h 0 + (if way = 1 then 1 else if way = 3 then -1 else 0)
def bE (h : zH) (cell way : Int) : Int := if 0 ≤ bX h cell way ∧ bX h cell way ≤ hc h 0 - 1 ∧ 0 ≤ bY h cell way ∧ bY h cell way ≤ hc h 1 - 1 then hc h 0 * bY h cell way + bX h cell way else -1
theorem bE_b (hp : hHp h) (cell way : Int) : -1 ≤ bE h cell way ∧ bE h cell way < hc h 0 * hc h 1 ∧ hc h 0 * hc h 1 ≤ 48 := by
  obtain ⟨-, -, -, b0, b1, -⟩ := id hp
  have m4 : hc h 0 * hc h 1 ≤ 8 * 6 := Int.mul_le_mul (by omega) (by omega) (by omega) (by omega)
  have m1 : 0 ≤ hc h 0 * hc h 1 := Int.mul_nonneg (by omega) (by omega)
  unfold bE
  split
  · rename_i hx
    obtain ⟨m1, m2, m3, m4⟩ := h_prod hp hx
    omega
  · omega
theorem r_beside (hT : hTab T) (hp : hHp h) {cell way : Int} (h1 : 0 ≤ cell) (h2 : cell < 48) : zRun D T (d + 2) 200 0 (h, zargs 0 [(2, 121), (0, cell), (0, way)], []) (h, some (0, bE h cell way)) := by
  have hm := hm_beside (T := T) hT
  obtain ⟨-, -, -, b0, b1, -⟩ := id hp
  have q1 : 0 ≤ cell % hc h 0 := Int.emod_nonneg _ (by omega)
  have q2 : cell % hc h 0 < hc h 0 := Int.emod_lt_of_pos _ (by omega)
  have q3 : 0 ≤ cell / hc h 0 := Int.ediv_nonneg h1 (by omega)
  have q4 : cell / hc h 0 ≤ cell := Int.ediv_le_self _ h1
  have ex : ∃ dx, dx = (if way = 0 then (1 : Int) else if way = 2 then -1 else 0) ∧ -1 ≤ dx ∧ dx ≤ 1 := ⟨_, rfl, by split <;> (try split) <;> omega, by split <;> (try split) <;> omega⟩
  have ey : ∃ dy, dy = (if way = 1 then (1 : Int) else if way = 3 then -1 else 0) ∧ -1 ≤ dy ∧ dy ≤ 1 := ⟨_, rfl, by split <;> (try split) <;> omega, by split <;> (try split) <;> omega⟩
  obtain ⟨dx, edx, x1, x2⟩ := ex
  obtain ⟨dy, edy, y1, y2⟩ := ey
  have eX : bX h cell way = cell % hc h 0 + dx := by rw [edx]; rfl
  have eY : bY h cell way = cell / hc h 0 + dy := by rw [edy]; rfl
  refine hq_load (hm _ _ rfl) rfl rfl ?_
  refine hq_load (hm _ _ rfl) rfl rfl ?_
  refine hq_getf (hm _ _ rfl) rfl hp.c ?_
  refine hq_pushZ (w := 0) (hm _ _ rfl) rfl ?_
  refine hq_ald (hm _ _ rfl) (za126 (by omega) (by omega)) (hKd hp (k := 0) (by omega)) ?_
  refine hq_div (hm _ _ rfl) (by omega) (hq_rem h1 (by omega) (by omega) (by omega)) ?_
  have k26 : zRun D T (d + 2) 200 26 (h, zargs 0 [(2, 121), (0, cell), (0, way)], [(0, dx), (0, cell % hc h 0)]) (h, some (0, bE h cell way)) := by
    refine hq_bin (hm _ _ rfl) (hq_add (by omega) (by omega)) ?_
    refine hq_store (hm _ _ rfl) ⟨rfl, Nat.ne_of_beq_eq_false rfl⟩ ?_
    refine hq_load (hm _ _ rfl) rfl rfl ?_
    refine hq_load (hm _ _ rfl) rfl rfl ?_
    refine hq_getf (hm _ _ rfl) rfl hp.c ?_
    refine hq_pushZ (w := 0) (hm _ _ rfl) rfl ?_
    refine hq_ald (hm _ _ rfl) (za126 (by omega) (by omega)) (hKd hp (k := 0) (by omega)) ?_
    refine hq_div (hm _ _ rfl) (by omega) (hq_quo h1 (by omega) (by omega) (by omega)) ?_
    have k55 : zRun D T (d + 2) 200 55 (h, zput1 (zargs 0 [(2, 121), (0, cell), (0, way)]) 3 (0, cell % hc h 0 + dx), [(0, dy), (0, cell / hc h 0)]) (h, some (0, bE h cell way)) := by
      refine hq_bin (hm _ _ rfl) (hq_add (by omega) (by omega)) ?_
      refine hq_store (hm _ _ rfl) ⟨rfl, Nat.ne_of_beq_eq_false rfl⟩ ?_
      by_cases hin : 0 ≤ bX h cell way ∧ bX h cell way ≤ hc h 0 - 1 ∧ 0 ≤ bY h cell way ∧ bY h cell way ≤ hc h 1 - 1
      · have eb : bE h cell way = hc h 0 * (cell / hc h 0 + dy) + (cell % hc h 0 + dx) := by rw [← eX, ← eY]; exact if_pos hin
        rw [eX, eY] at hin
        rw [eb]
        refine hq_load (hm _ _ rfl) rfl rfl ?_
        refine hq_load (hm _ _ rfl) rfl rfl ?_
        refine hq_load (hm _ _ rfl) rfl rfl ?_
        refine hq_call (hm _ _ rfl) rfl ⟨Nat.le_of_ble_eq_true rfl, Nat.le_of_ble_eq_true rfl, fun _ => rfl⟩ (r_isCellT hT hp hin) ?_
        refine hq_ifF (hm _ _ rfl) (zr2F (by omega)) ?_
        refine hq_load (hm _ _ rfl) rfl rfl ?_
        refine hq_load (hm _ _ rfl) rfl rfl ?_
        refine hq_load (hm _ _ rfl) rfl rfl ?_
        refine hq_call (hm _ _ rfl) rfl ⟨Nat.le_of_ble_eq_true rfl, Nat.le_of_ble_eq_true rfl, fun _ => rfl⟩ (r_at2 hT hp hin) ?_
        refine hq_goto (hm _ _ rfl) ?_
        exact hq_ret (hm _ _ rfl) ⟨rfl, rfl⟩
      · have eb : bE h cell way = -1 := if_neg hin
        rw [eX, eY] at hin
        rw [eb]
        refine hq_load (hm _ _ rfl) rfl rfl ?_
        refine hq_load (hm _ _ rfl) rfl rfl ?_
        refine hq_load (hm _ _ rfl) rfl rfl ?_
        refine hq_call (hm _ _ rfl) rfl ⟨Nat.le_of_ble_eq_true rfl, Nat.le_of_ble_eq_true rfl, fun _ => rfl⟩ (r_isCellF hT hp hin) ?_
        refine hq_ifT (hm _ _ rfl) (zr2T rfl) ?_
        refine hq_pushZ (w := -1) (hm _ _ rfl) rfl ?_
        exact hq_ret (hm _ _ rfl) ⟨rfl, rfl⟩
    by_cases w1 : way = 1
    · rw [if_pos w1] at edy
      rw [edy] at k55
      refine hq_load (hm _ _ rfl) rfl rfl ?_
      refine hq_pushZ (w := 1) (hm _ _ rfl) rfl ?_
      refine hq_icT (hm _ _ rfl) (zr2T w1) ?_
      refine hq_pushZ (w := 1) (hm _ _ rfl) rfl ?_
      refine hq_goto (hm _ _ rfl) ?_
      exact k55
    · rw [if_neg w1] at edy
      by_cases w3 : way = 3
      · rw [if_pos w3] at edy
        rw [edy] at k55
        refine hq_load (hm _ _ rfl) rfl rfl ?_
        refine hq_pushZ (w := 1) (hm _ _ rfl) rfl ?_
        refine hq_icF (hm _ _ rfl) (zr2F w1) ?_
        refine hq_load (hm _ _ rfl) rfl rfl ?_
        refine hq_pushZ (w := 3) (hm _ _ rfl) rfl ?_
        refine hq_icT (hm _ _ rfl) (zr2T w3) ?_
        refine hq_pushZ (w := -1) (hm _ _ rfl) rfl ?_
        refine hq_goto (hm _ _ rfl) ?_
        exact k55
      · rw [if_neg w3] at edy
        rw [edy] at k55
        refine hq_load (hm _ _ rfl) rfl rfl ?_
        refine hq_pushZ (w := 1) (hm _ _ rfl) rfl ?_
        refine hq_icF (hm _ _ rfl) (zr2F w1) ?_
        refine hq_load (hm _ _ rfl) rfl rfl ?_
        refine hq_pushZ (w := 3) (hm _ _ rfl) rfl ?_
        refine hq_icF (hm _ _ rfl) (zr2F w3) ?_
        refine hq_pushZ (w := 0) (hm _ _ rfl) rfl ?_
        exact k55
  by_cases w0 : way = 0
  · rw [if_pos w0] at edx
    rw [edx] at k26
    refine hq_load (hm _ _ rfl) rfl rfl ?_
    refine hq_ifT (hm _ _ rfl) (zr2T w0) ?_
    refine hq_pushZ (w := 1) (hm _ _ rfl) rfl ?_
    refine hq_goto (hm _ _ rfl) ?_
    exact k26
  · rw [if_neg w0] at edx
    by_cases w2 : way = 2
    · rw [if_pos w2] at edx
      rw [edx] at k26
      refine hq_load (hm _ _ rfl) rfl rfl ?_
      refine hq_ifF (hm _ _ rfl) (zr2F w0) ?_
      refine hq_load (hm _ _ rfl) rfl rfl ?_
      refine hq_pushZ (w := 2) (hm _ _ rfl) rfl ?_
      refine hq_icT (hm _ _ rfl) (zr2T w2) ?_
      refine hq_pushZ (w := -1) (hm _ _ rfl) rfl ?_
      refine hq_goto (hm _ _ rfl) ?_
      exact k26
    · rw [if_neg w2] at edx
      rw [edx] at k26
      refine hq_load (hm _ _ rfl) rfl rfl ?_
      refine hq_ifF (hm _ _ rfl) (zr2F w0) ?_
      refine hq_load (hm _ _ rfl) rfl rfl ?_
      refine hq_pushZ (w := 2) (hm _ _ rfl) rfl ?_
      refine hq_icF (hm _ _ rfl) (zr2F w2) ?_
      refine hq_pushZ (w := 0) (hm _ _ rfl) rfl ?_
      exact k26
def lE (x : Int) : Int := if x = 0 then 2 else if x = 1 then 1 else if x = 3 then 5 else if x = 4 then 3 else 4
theorem r_letterCost (hT : hTab T) {x : Int} : zRun D T d 271 0 (h, zargs 0 [(0, x)], []) (h, some (0, lE x)) := by
  have hm := hm_letterCost (T := T) hT
  unfold lE
  split
  · rename_i e0
    refine hq_load (hm _ _ rfl) rfl rfl ?_
    refine hq_ifT (hm _ _ rfl) (zr2T e0) ?_
    refine hq_pushZ (w := 2) (hm _ _ rfl) rfl ?_
    refine hq_goto (hm _ _ rfl) ?_
    exact hq_ret (hm _ _ rfl) ⟨rfl, rfl⟩
  · rename_i e0
    split
    · rename_i e1
      refine hq_load (hm _ _ rfl) rfl rfl ?_
      refine hq_ifF (hm _ _ rfl) (zr2F e0) ?_
      refine hq_load (hm _ _ rfl) rfl rfl ?_
      refine hq_pushZ (w := 1) (hm _ _ rfl) rfl ?_
      refine hq_icT (hm _ _ rfl) (zr2T e1) ?_
      refine hq_pushZ (w := 1) (hm _ _ rfl) rfl ?_
      refine hq_goto (hm _ _ rfl) ?_
      exact hq_ret (hm _ _ rfl) ⟨rfl, rfl⟩
    · rename_i e1
      split
      · rename_i e3
        refine hq_load (hm _ _ rfl) rfl rfl ?_
        refine hq_ifF (hm _ _ rfl) (zr2F e0) ?_
        refine hq_load (hm _ _ rfl) rfl rfl ?_
        refine hq_pushZ (w := 1) (hm _ _ rfl) rfl ?_
        refine hq_icF (hm _ _ rfl) (zr2F e1) ?_
        refine hq_load (hm _ _ rfl) rfl rfl ?_
        refine hq_pushZ (w := 3) (hm _ _ rfl) rfl ?_
        refine hq_icT (hm _ _ rfl) (zr2T e3) ?_
        refine hq_pushZ (w := 5) (hm _ _ rfl) rfl ?_
        refine hq_goto (hm _ _ rfl) ?_
        exact hq_ret (hm _ _ rfl) ⟨rfl, rfl⟩
      · rename_i e3
        split
        · rename_i e4
          refine hq_load (hm _ _ rfl) rfl rfl ?_
          refine hq_ifF (hm _ _ rfl) (zr2F e0) ?_
          refine hq_load (hm _ _ rfl) rfl rfl ?_
          refine hq_pushZ (w := 1) (hm _ _ rfl) rfl ?_
          refine hq_icF (hm _ _ rfl) (zr2F e1) ?_
          refine hq_load (hm _ _ rfl) rfl rfl ?_
          refine hq_pushZ (w := 3) (hm _ _ rfl) rfl ?_
          refine hq_icF (hm _ _ rfl) (zr2F e3) ?_
          refine hq_load (hm _ _ rfl) rfl rfl ?_
          refine hq_pushZ (w := 4) (hm _ _ rfl) rfl ?_
          refine hq_icT (hm _ _ rfl) (zr2T e4) ?_
          refine hq_pushZ (w := 3) (hm _ _ rfl) rfl ?_
          refine hq_goto (hm _ _ rfl) ?_
          exact hq_ret (hm _ _ rfl) ⟨rfl, rfl⟩
        · rename_i e4
          refine hq_load (hm _ _ rfl) rfl rfl ?_
          refine hq_ifF (hm _ _ rfl) (zr2F e0) ?_
          refine hq_load (hm _ _ rfl) rfl rfl ?_
          refine hq_pushZ (w := 1) (hm _ _ rfl) rfl ?_
          refine hq_icF (hm _ _ rfl) (zr2F e1) ?_
          refine hq_load (hm _ _ rfl) rfl rfl ?_
          refine hq_pushZ (w := 3) (hm _ _ rfl) rfl ?_
          refine hq_icF (hm _ _ rfl) (zr2F e3) ?_
          refine hq_load (hm _ _ rfl) rfl rfl ?_
          refine hq_pushZ (w := 4) (hm _ _ rfl) rfl ?_
          refine hq_icF (hm _ _ rfl) (zr2F e4) ?_
          refine hq_pushZ (w := 4) (hm _ _ rfl) rfl ?_
          exact hq_ret (hm _ _ rfl) ⟨rfl, rfl⟩
theorem lE_b (x : Int) : 1 ≤ lE x ∧ lE x ≤ 5 := by
  unfold lE
  split <;> (try split) <;> (try split) <;> (try split) <;> omega
def cR (h : zH) (cell : Int) : Int := lE (hc h (5 + cell).toNat) + hc h (53 + cell).toNat
theorem cR_b (hp : hHp h) {cell : Int} (h1 : 0 ≤ cell) (h2 : cell < 48) : (1 ≤ cR h cell ∧ cR h cell ≤ 14) ∧ 0 ≤ hc h (53 + cell).toNat ∧ hc h (53 + cell).toNat ≤ 9 := by
  obtain ⟨-, -, -, -, -, b2, -⟩ := id hp
  have b := (b2 cell.toNat (by omega)).2
  rw [show 53 + cell.toNat = (53 + cell).toNat by omega] at b
  have l := lE_b (hc h (5 + cell).toNat)
  unfold cR
  omega
theorem r_crumbsOf (hT : hTab T) (hp : hHp h) {cell : Int} (h1 : 0 ≤ cell) (h2 : cell < 48) : zRun D T (d + 1) 215 0 (h, zargs 0 [(2, 121), (0, cell)], []) (h, some (0, cR h cell)) := by
  have hm := hm_crumbsOf (T := T) hT
  have cb := cR_b hp h1 h2
  refine hq_load (hm _ _ rfl) rfl rfl ?_
  refine hq_getf (hm _ _ rfl) rfl hp.c ?_
  refine hq_pushZ (w := 5) (hm _ _ rfl) rfl ?_
  refine hq_load (hm _ _ rfl) rfl rfl ?_
  refine hq_bin (hm _ _ rfl) (hq_add (by omega) (by omega)) ?_
  refine hq_ald (hm _ _ rfl) (za126 (by omega) (by omega)) (hKd hp (by omega)) ?_
  refine hq_call (hm _ _ rfl) rfl ⟨Nat.le_of_ble_eq_true rfl, Nat.le_of_ble_eq_true rfl, fun h => absurd h (by decide)⟩ (r_letterCost hT) ?_
  refine hq_load (hm _ _ rfl) rfl rfl ?_
  refine hq_getf (hm _ _ rfl) rfl hp.c ?_
  refine hq_pushZ (w := 53) (hm _ _ rfl) rfl ?_
  refine hq_load (hm _ _ rfl) rfl rfl ?_
  refine hq_bin (hm _ _ rfl) (hq_add (by omega) (by omega)) ?_
  refine hq_ald (hm _ _ rfl) (za126 (by omega) (by omega)) (hKd hp (by omega)) ?_
  refine hq_bin (hm _ _ rfl) (hq_add (by show _ ≤ cR h cell; omega) (by show cR h cell < _; omega)) ?_
  exact hq_ret (hm _ _ rfl) ⟨rfl, rfl⟩
theorem r_state (hT : hTab T) {copy cell : Int} (h0 : 0 ≤ copy ∧ copy ≤ 2) (h1 : 0 ≤ cell) (h2 : cell < 48) : zRun D T (d) 313 0 (h, zargs 0 [(0, copy), (0, cell)], []) (h, some (0, 101 + 48 * copy + cell)) := by
  have hm := hm_state (T := T) hT
  refine hq_pushZ (w := 101) (hm _ _ rfl) rfl ?_
  refine hq_pushZ (w := 48) (hm _ _ rfl) rfl ?_
  refine hq_load (hm _ _ rfl) rfl rfl ?_
  refine hq_bin (hm _ _ rfl) (hq_mul (by omega) (by omega)) ?_
  refine hq_bin (hm _ _ rfl) (hq_add (by omega) (by omega)) ?_
  refine hq_load (hm _ _ rfl) rfl rfl ?_
  refine hq_bin (hm _ _ rfl) (hq_add (by omega) (by omega)) ?_
  exact hq_ret (hm _ _ rfl) ⟨rfl, rfl⟩
theorem r_stateOf (hT : hTab T) (hp : hHp h) {copy cell : Int} (h0 : 0 ≤ copy ∧ copy ≤ 2) (h1 : 0 ≤ cell) (h2 : cell < 48) : zRun D T (d + 1) 314 0 (h, zargs 0 [(2, 121), (0, copy), (0, cell)], []) (h, some (0, hc h (101 + 48 * copy + cell).toNat)) := by
  have hm := hm_stateOf (T := T) hT
  refine hq_load (hm _ _ rfl) rfl rfl ?_
  refine hq_getf (hm _ _ rfl) rfl hp.c ?_
  refine hq_load (hm _ _ rfl) rfl rfl ?_
  refine hq_load (hm _ _ rfl) rfl rfl ?_
  refine hq_call (hm _ _ rfl) rfl ⟨Nat.le_of_ble_eq_true rfl, Nat.le_of_ble_eq_true rfl, fun h => absurd h (by decide)⟩ (r_state hT h0 h1 h2) ?_
  refine hq_ald (hm _ _ rfl) (za126 (by omega) (by omega)) (hKd hp (by omega)) ?_
  exact hq_ret (hm _ _ rfl) ⟨rfl, rfl⟩
def cS (h : zH) (copy cell : Int) : Int := if copy < 0 then 0 else hc h (101 + 48 * copy + cell).toNat
def cE (h : zH) (copy cell : Int) : Int := if cS h copy cell = 2 then 5 + hc h (53 + cell).toNat else if cS h copy cell > 0 ∨ hc h (5 + cell).toNat = 3 then 1000000 else cR h cell
theorem cE_b (hp : hHp h) {copy cell : Int} (h1 : 0 ≤ cell) (h2 : cell < 48) : (1 ≤ cE h copy cell ∧ cE h copy cell ≤ 14) ∨ cE h copy cell = 1000000 := by
  have cb := cR_b hp h1 h2
  unfold cE
  split
  · left; omega
  · split
    · right; rfl
    · left; omega
theorem r_costOf (hT : hTab T) (hp : hHp h) {copy cell : Int} (h0 : -1 ≤ copy ∧ copy ≤ 2) (h1 : 0 ≤ cell) (h2 : cell < 48) : zRun D T (d + 2) 212 0 (h, zargs 0 [(2, 121), (0, copy), (0, cell)], []) (h, some (0, cE h copy cell)) := by
  have hm := hm_costOf (T := T) hT
  have cb := cR_b hp h1 h2
  have k14 : zRun D T (d + 2) 212 14 (h, zargs 0 [(2, 121), (0, copy), (0, cell)], [(0, cS h copy cell)]) (h, some (0, cE h copy cell)) := by
    refine hq_store (hm _ _ rfl) ⟨rfl, Nat.ne_of_beq_eq_false rfl⟩ ?_
    unfold cE
    split
    · rename_i e2
      refine hq_load (hm _ _ rfl) rfl rfl ?_
      refine hq_pushZ (w := 2) (hm _ _ rfl) rfl ?_
      refine hq_icT (hm _ _ rfl) (zr2T e2) ?_
      refine hq_pushZ (w := 5) (hm _ _ rfl) rfl ?_
      refine hq_load (hm _ _ rfl) rfl rfl ?_
      refine hq_getf (hm _ _ rfl) rfl hp.c ?_
      refine hq_pushZ (w := 53) (hm _ _ rfl) rfl ?_
      refine hq_load (hm _ _ rfl) rfl rfl ?_
      refine hq_bin (hm _ _ rfl) (hq_add (by omega) (by omega)) ?_
      refine hq_ald (hm _ _ rfl) (za126 (by omega) (by omega)) (hKd hp (by omega)) ?_
      refine hq_bin (hm _ _ rfl) (hq_add (by omega) (by omega)) ?_
      exact hq_ret (hm _ _ rfl) ⟨rfl, rfl⟩
    · rename_i e2
      split
      · rename_i e3
        by_cases e4 : cS h copy cell > 0
        · refine hq_load (hm _ _ rfl) rfl rfl ?_
          refine hq_pushZ (w := 2) (hm _ _ rfl) rfl ?_
          refine hq_icF (hm _ _ rfl) (zr2F e2) ?_
          refine hq_load (hm _ _ rfl) rfl rfl ?_
          refine hq_ifT (hm _ _ rfl) (zr1T e4) ?_
          refine hq_pushZ (w := 1000000) (hm _ _ rfl) rfl ?_
          refine hq_goto (hm _ _ rfl) ?_
          exact hq_ret (hm _ _ rfl) ⟨rfl, rfl⟩
        · refine hq_load (hm _ _ rfl) rfl rfl ?_
          refine hq_pushZ (w := 2) (hm _ _ rfl) rfl ?_
          refine hq_icF (hm _ _ rfl) (zr2F e2) ?_
          refine hq_load (hm _ _ rfl) rfl rfl ?_
          refine hq_ifF (hm _ _ rfl) (zr1F (by omega)) ?_
          refine hq_load (hm _ _ rfl) rfl rfl ?_
          refine hq_getf (hm _ _ rfl) rfl hp.c ?_
          refine hq_pushZ (w := 5) (hm _ _ rfl) rfl ?_
          refine hq_load (hm _ _ rfl) rfl rfl ?_
          refine hq_bin (hm _ _ rfl) (hq_add (by omega) (by omega)) ?_
          refine hq_ald (hm _ _ rfl) (za126 (by omega) (by omega)) (hKd hp (by omega)) ?_
          refine hq_pushZ (w := 3) (hm _ _ rfl) rfl ?_
          refine hq_icT (hm _ _ rfl) (zr2T (e3.resolve_left e4)) ?_
          refine hq_pushZ (w := 1000000) (hm _ _ rfl) rfl ?_
          refine hq_goto (hm _ _ rfl) ?_
          exact hq_ret (hm _ _ rfl) ⟨rfl, rfl⟩
      · rename_i e3
        refine hq_load (hm _ _ rfl) rfl rfl ?_
        refine hq_pushZ (w := 2) (hm _ _ rfl) rfl ?_
        refine hq_icF (hm _ _ rfl) (zr2F e2) ?_
        refine hq_load (hm _ _ rfl) rfl rfl ?_
        refine hq_ifF (hm _ _ rfl) (zr1F (by omega)) ?_
        refine hq_load (hm _ _ rfl) rfl rfl ?_
        refine hq_getf (hm _ _ rfl) rfl hp.c ?_
        refine hq_pushZ (w := 5) (hm _ _ rfl) rfl ?_
        refine hq_load (hm _ _ rfl) rfl rfl ?_
        refine hq_bin (hm _ _ rfl) (hq_add (by omega) (by omega)) ?_
        refine hq_ald (hm _ _ rfl) (za126 (by omega) (by omega)) (hKd hp (by omega)) ?_
        refine hq_pushZ (w := 3) (hm _ _ rfl) rfl ?_
        refine hq_icF (hm _ _ rfl) (zr2F (fun e => e3 (Or.inr e))) ?_
        refine hq_load (hm _ _ rfl) rfl rfl ?_
        refine hq_load (hm _ _ rfl) rfl rfl ?_
        refine hq_call (hm _ _ rfl) rfl ⟨Nat.le_of_ble_eq_true rfl, Nat.le_of_ble_eq_true rfl, fun _ => rfl⟩ (r_crumbsOf hT hp h1 h2) ?_
        exact hq_ret (hm _ _ rfl) ⟨rfl, rfl⟩
  by_cases w : copy < 0
  · rw [show cS h copy cell = 0 from if_pos w] at k14
    refine hq_load (hm _ _ rfl) rfl rfl ?_
    refine hq_ifT (hm _ _ rfl) (zr0T w) ?_
    refine hq_pushZ (w := 0) (hm _ _ rfl) rfl ?_
    refine hq_goto (hm _ _ rfl) ?_
    exact k14
  · rw [show cS h copy cell = hc h (101 + 48 * copy + cell).toNat from if_neg w] at k14
    refine hq_load (hm _ _ rfl) rfl rfl ?_
    refine hq_ifF (hm _ _ rfl) (zr0F (by omega)) ?_
    refine hq_load (hm _ _ rfl) rfl rfl ?_
    refine hq_load (hm _ _ rfl) rfl rfl ?_
    refine hq_load (hm _ _ rfl) rfl rfl ?_
    refine hq_call (hm _ _ rfl) rfl ⟨Nat.le_of_ble_eq_true rfl, Nat.le_of_ble_eq_true rfl, fun _ => rfl⟩ (r_stateOf hT hp (by omega) h1 h2) ?_
    exact k14
def gE (h : zH) (copy cell way : Int) : Int := if bE h cell way < 0 ∨ cE h copy (bE h cell way) = 1000000 ∨ hout h (bE h cell way).toNat = 1000000 then 1000000 else 100 * cE h copy (bE h cell way) + 1 + hout h (bE h cell way).toNat
theorem r_goesBy (hT : hTab T) (hp : hHp h) {copy cell way : Int} (h0 : -1 ≤ copy ∧ copy ≤ 2) (h1 : 0 ≤ cell) (h2 : cell < 48) : zRun D T (d + 3) 232 0 (h, zargs 0 [(2, 121), (0, copy), (0, cell), (0, way)], []) (h, some (0, gE h copy cell way)) := by
  have hm := hm_goesBy (T := T) hT
  have bb := bE_b hp cell way
  refine hq_load (hm _ _ rfl) rfl rfl ?_
  refine hq_load (hm _ _ rfl) rfl rfl ?_
  refine hq_load (hm _ _ rfl) rfl rfl ?_
  refine hq_call (hm _ _ rfl) rfl ⟨Nat.le_of_ble_eq_true rfl, Nat.le_of_ble_eq_true rfl, fun _ => rfl⟩ (r_beside hT hp h1 h2) ?_
  refine hq_store (hm _ _ rfl) ⟨rfl, Nat.ne_of_beq_eq_false rfl⟩ ?_
  by_cases e1 : bE h cell way < 0
  · rw [show gE h copy cell way = 1000000 from if_pos (Or.inl e1)]
    refine hq_load (hm _ _ rfl) rfl rfl ?_
    refine hq_ifT (hm _ _ rfl) (zr0T e1) ?_
    refine hq_pushZ (w := 1000000) (hm _ _ rfl) rfl ?_
    exact hq_ret (hm _ _ rfl) ⟨rfl, rfl⟩
  by_cases e2 : cE h copy (bE h cell way) = 1000000
  · rw [show gE h copy cell way = 1000000 from if_pos (Or.inr (Or.inl e2))]
    refine hq_load (hm _ _ rfl) rfl rfl ?_
    refine hq_ifF (hm _ _ rfl) (zr0F (by omega)) ?_
    refine hq_load (hm _ _ rfl) rfl rfl ?_
    refine hq_load (hm _ _ rfl) rfl rfl ?_
    refine hq_load (hm _ _ rfl) rfl rfl ?_
    refine hq_call (hm _ _ rfl) rfl ⟨Nat.le_of_ble_eq_true rfl, Nat.le_of_ble_eq_true rfl, fun _ => rfl⟩ (r_costOf hT hp h0 (by omega) (by omega)) ?_
    refine hq_pushZ (w := 1000000) (hm _ _ rfl) rfl ?_
    refine hq_icT (hm _ _ rfl) (zr2T e2) ?_
    refine hq_pushZ (w := 1000000) (hm _ _ rfl) rfl ?_
    exact hq_ret (hm _ _ rfl) ⟨rfl, rfl⟩
  by_cases e3 : hout h (bE h cell way).toNat = 1000000
  · rw [show gE h copy cell way = 1000000 from if_pos (Or.inr (Or.inr e3))]
    refine hq_load (hm _ _ rfl) rfl rfl ?_
    refine hq_ifF (hm _ _ rfl) (zr0F (by omega)) ?_
    refine hq_load (hm _ _ rfl) rfl rfl ?_
    refine hq_load (hm _ _ rfl) rfl rfl ?_
    refine hq_load (hm _ _ rfl) rfl rfl ?_
    refine hq_call (hm _ _ rfl) rfl ⟨Nat.le_of_ble_eq_true rfl, Nat.le_of_ble_eq_true rfl, fun _ => rfl⟩ (r_costOf hT hp h0 (by omega) (by omega)) ?_
    refine hq_pushZ (w := 1000000) (hm _ _ rfl) rfl ?_
    refine hq_icF (hm _ _ rfl) (zr2F e2) ?_
    refine hq_load (hm _ _ rfl) rfl rfl ?_
    refine hq_getf (hm _ _ rfl) rfl hp.o ?_
    refine hq_load (hm _ _ rfl) rfl rfl ?_
    refine hq_ald (hm _ _ rfl) (za130 (by omega) (by omega)) (hKo hp (by omega)) ?_
    refine hq_pushZ (w := 1000000) (hm _ _ rfl) rfl ?_
    refine hq_icT (hm _ _ rfl) (zr2T e3) ?_
    refine hq_pushZ (w := 1000000) (hm _ _ rfl) rfl ?_
    exact hq_ret (hm _ _ rfl) ⟨rfl, rfl⟩
  have cb := (cE_b hp (copy := copy) (cell := bE h cell way) (by omega) (by omega)).resolve_right e2
  have ob := (hp.2.2.1 (bE h cell way).toNat (by omega)).2
  rw [show gE h copy cell way = 100 * cE h copy (bE h cell way) + 1 + hout h (bE h cell way).toNat from if_neg (fun e => e.elim e1 (fun e => e.elim e2 e3))]
  refine hq_load (hm _ _ rfl) rfl rfl ?_
  refine hq_ifF (hm _ _ rfl) (zr0F (by omega)) ?_
  refine hq_load (hm _ _ rfl) rfl rfl ?_
  refine hq_load (hm _ _ rfl) rfl rfl ?_
  refine hq_load (hm _ _ rfl) rfl rfl ?_
  refine hq_call (hm _ _ rfl) rfl ⟨Nat.le_of_ble_eq_true rfl, Nat.le_of_ble_eq_true rfl, fun _ => rfl⟩ (r_costOf hT hp h0 (by omega) (by omega)) ?_
  refine hq_pushZ (w := 1000000) (hm _ _ rfl) rfl ?_
  refine hq_icF (hm _ _ rfl) (zr2F e2) ?_
  refine hq_load (hm _ _ rfl) rfl rfl ?_
  refine hq_getf (hm _ _ rfl) rfl hp.o ?_
  refine hq_load (hm _ _ rfl) rfl rfl ?_
  refine hq_ald (hm _ _ rfl) (za130 (by omega) (by omega)) (hKo hp (by omega)) ?_
  refine hq_pushZ (w := 1000000) (hm _ _ rfl) rfl ?_
  refine hq_icF (hm _ _ rfl) (zr2F e3) ?_
  refine hq_pushZ (w := 100) (hm _ _ rfl) rfl ?_
  refine hq_load (hm _ _ rfl) rfl rfl ?_
  refine hq_load (hm _ _ rfl) rfl rfl ?_
  refine hq_load (hm _ _ rfl) rfl rfl ?_
  refine hq_call (hm _ _ rfl) rfl ⟨Nat.le_of_ble_eq_true rfl, Nat.le_of_ble_eq_true rfl, fun _ => rfl⟩ (r_costOf hT hp h0 (by omega) (by omega)) ?_
  refine hq_bin (hm _ _ rfl) (hq_mul (by omega) (by omega)) ?_
  refine hq_pushZ (w := 1) (hm _ _ rfl) rfl ?_
  refine hq_bin (hm _ _ rfl) (hq_add (by omega) (by omega)) ?_
  refine hq_load (hm _ _ rfl) rfl rfl ?_
  refine hq_getf (hm _ _ rfl) rfl hp.o ?_
  refine hq_load (hm _ _ rfl) rfl rfl ?_
  refine hq_ald (hm _ _ rfl) (za130 (by omega) (by omega)) (hKo hp (by omega)) ?_
  refine hq_bin (hm _ _ rfl) (hq_add (by omega) (by omega)) ?_
  exact hq_ret (hm _ _ rfl) ⟨rfl, rfl⟩
end HB
