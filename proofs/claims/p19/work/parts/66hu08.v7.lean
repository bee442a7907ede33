/-! THE REFERENCE'S LANDS -/
def gJ (P : PT) (q : Nat) : Nat := (P 0 0).toNat * (q / 8) + q % 8
def gQ (P : PT) (n : Nat) : Nat := 8 * (n / (P 0 0).toNat) + n % (P 0 0).toNat
theorem gJ_i {P : PT} (h0 : 0 ≤ P 0 0) (q : Nat) : ((gJ P q : Nat) : Int) = P 0 0 * ((q / 8 : Nat) : Int) + ((q % 8 : Nat) : Int) := by
  unfold gJ
  rw [Int.natCast_add, Int.natCast_mul, Int.toNat_of_nonneg h0]
theorem gJ_lt {P : PT} (lb : lB P) {q : Nat} (g : gIn P q) : gJ P q < 48 := by
  obtain ⟨⟨w0, w8⟩, ⟨r0, r6⟩, _⟩ := lb
  obtain ⟨g0, g1, g2⟩ := g
  unfold gJ
  have e : (P 0 0).toNat * (q / 8) ≤ 8 * (q / 8) := Nat.mul_le_mul_right _ (by omega)
  omega
theorem gJ_m {P : PT} (lb : lB P) {q : Nat} (g : gIn P q) : ((gJ P q : Nat) : Int) % P 0 0 = ((q % 8 : Nat) : Int) ∧ ((gJ P q : Nat) : Int) / P 0 0 = ((q / 8 : Nat) : Int) := by
  have h0 := lb.1.1
  obtain ⟨g0, g1, g2⟩ := g
  have hw : 0 < P 0 0 := by omega
  rw [gJ_i h0]
  constructor
  · rw [Int.add_comm, Int.add_mul_emod_self_left]
    exact Int.emod_eq_of_lt (by omega) g1
  · rw [Int.add_comm, Int.add_mul_ediv_left _ _ (by omega), Int.ediv_eq_zero_of_lt (by omega) g1, Int.zero_add]
theorem gJ_inj {P : PT} (lb : lB P) {q r : Nat} (g : gIn P q) (g' : gIn P r) (e : gJ P q = gJ P r) : q = r := by
  have a := gJ_m lb g
  have b := gJ_m lb g'
  rw [e] at a
  omega
theorem gQ_ok {P : PT} (lb : lB P) {n : Nat} (hn : n < (P 0 0).toNat * (P 0 1).toNat) : gIn P (gQ P n) ∧ gJ P (gQ P n) = n := by
  obtain ⟨⟨w0, w8⟩, ⟨r0, r6⟩, _⟩ := lb
  have hw : 0 < (P 0 0).toNat := by
    by_cases c : (P 0 0).toNat = 0
    · rw [c, Nat.zero_mul] at hn
      exact absurd hn (Nat.not_lt_zero _)
    · omega
  have m := Nat.mod_lt n hw
  have dv : n / (P 0 0).toNat < (P 0 1).toNat := Nat.div_lt_of_lt_mul hn
  have e8 : gQ P n / 8 = n / (P 0 0).toNat := by unfold gQ; omega
  have e7 : gQ P n % 8 = n % (P 0 0).toNat := by unfold gQ; omega
  refine ⟨⟨by unfold gQ; omega, by omega, by omega⟩, ?_⟩
  unfold gJ
  rw [e8, e7]
  exact Nat.div_add_mod n (P 0 0).toNat
theorem gJ_all {P : PT} (lb : lB P) {q : Nat} (g : gIn P q) : gJ P q < (P 0 0).toNat * (P 0 1).toNat := by
  obtain ⟨⟨w0, w8⟩, ⟨r0, r6⟩, _⟩ := lb
  obtain ⟨g0, g1, g2⟩ := g
  unfold gJ
  have : (P 0 0).toNat * (q / 8 + 1) ≤ (P 0 0).toNat * (P 0 1).toNat := Nat.mul_le_mul_left _ (by omega)
  rw [Nat.mul_add, Nat.mul_one] at this
  omega
theorem gQ_J {P : PT} (lb : lB P) {q : Nat} (g : gIn P q) : gQ P (gJ P q) = q := gJ_inj lb (gQ_ok lb (gJ_all lb g)).1 g (gQ_ok lb (gJ_all lb g)).2
/-- block at o: all of a LAND but its ORDERS -/
def rBk (o : Nat) (P : PT) (h : zH) : Prop := (h 126 o = (0, P 0 0) ∧ h 126 (o + 1) = (0, P 0 1) ∧ h 126 (o + 2) = (0, P 0 2) ∧ h 126 (o + 3) = (0, P 0 3) ∧ h 126 (o + 4) = (0, P 0 4)) ∧ (∀ q, gIn P q → h 126 (o + 5 + gJ P q) = (0, P 1 q) ∧ h 126 (o + 53 + gJ P q) = (0, P 2 q)) ∧ (∀ k q : Nat, k < 3 → gIn P q → h 126 (o + 101 + 48 * k + gJ P q) = (0, P 3 (48 * k + q))) ∧ ∀ k : Nat, (k : Int) < P 0 3 → h 126 (o + 245 + k) = (0, ((gJ P (P 6 k).toNat : Nat) : Int)) ∧ h 126 (o + 251 + k) = (0, ((gJ P (P 7 k).toNat : Nat) : Int)) ∧ h 126 (o + 257 + k) = (0, ((gJ P (P 5 k).toNat : Nat) : Int)) ∧ h 126 (o + 263 + k) = (0, P 8 k) ∧ h 126 (o + 269 + k) = (0, P 9 k)
section RF
variable {P : PT} {h h' : zH}
theorem rBk.w (g : rBk 0 P h) : h 126 0 = (0, P 0 0) := g.1.1
theorem rBk.r (g : rBk 0 P h) : h 126 1 = (0, P 0 1) := g.1.2.1
theorem rBk.c (g : rBk 0 P h) : h 126 2 = (0, P 0 2) := g.1.2.2.1
theorem rBk.m (g : rBk 0 P h) : h 126 3 = (0, P 0 3) := g.1.2.2.2.1
theorem rBk.e (g : rBk 0 P h) : h 126 4 = (0, P 0 4) := g.1.2.2.2.2
theorem rBk.l (g : rBk 0 P h) {q : Nat} (i : gIn P q) : h 126 (5 + ((gJ P q : Nat) : Int)).toNat = (0, P 1 q) := by
  have e := (g.2.1 q i).1
  rw [show 0 + 5 + gJ P q = (5 + ((gJ P q : Nat) : Int)).toNat by omega] at e
  exact e
theorem rBk.s (g : rBk 0 P h) {q : Nat} (i : gIn P q) : h 126 (53 + ((gJ P q : Nat) : Int)).toNat = (0, P 2 q) := by
  have e := (g.2.1 q i).2
  rw [show 0 + 53 + gJ P q = (53 + ((gJ P q : Nat) : Int)).toNat by omega] at e
  exact e
theorem rBk.st (g : rBk 0 P h) {k q : Nat} (hk : k < 3) (i : gIn P q) : h 126 ((101 + (48 * (k : Int))) + ((gJ P q : Nat) : Int)).toNat = (0, P 3 (48 * k + q)) := by
  have e := g.2.2.1 k q hk i
  rw [show 0 + 101 + 48 * k + gJ P q = ((101 + (48 * (k : Int))) + ((gJ P q : Nat) : Int)).toNat by omega] at e
  exact e
theorem rBk.at (g : rBk 0 P h) {k : Nat} (hk : (k : Int) < P 0 3) : h 126 (245 + (k : Int)).toNat = (0, ((gJ P (P 6 k).toNat : Nat) : Int)) := by
  have e := (g.2.2.2 k hk).1
  rw [show 0 + 245 + k = (245 + (k : Int)).toNat by omega] at e
  exact e
theorem rBk.go (g : rBk 0 P h) {k : Nat} (hk : (k : Int) < P 0 3) : h 126 (251 + (k : Int)).toNat = (0, ((gJ P (P 7 k).toNat : Nat) : Int)) := by
  have e := (g.2.2.2 k hk).2.1
  rw [show 0 + 251 + k = (251 + (k : Int)).toNat by omega] at e
  exact e
theorem rBk.ho (g : rBk 0 P h) {k : Nat} (hk : (k : Int) < P 0 3) : h 126 (257 + (k : Int)).toNat = (0, ((gJ P (P 5 k).toNat : Nat) : Int)) := by
  have e := (g.2.2.2 k hk).2.2.1
  rw [show 0 + 257 + k = (257 + (k : Int)).toNat by omega] at e
  exact e
theorem rBk.by (g : rBk 0 P h) {k : Nat} (hk : (k : Int) < P 0 3) : h 126 (263 + (k : Int)).toNat = (0, P 8 k) := by
  have e := (g.2.2.2 k hk).2.2.2.1
  rw [show 0 + 263 + k = (263 + (k : Int)).toNat by omega] at e
  exact e
theorem rBk.sp (g : rBk 0 P h) {k : Nat} (hk : (k : Int) < P 0 3) : h 126 (269 + (k : Int)).toNat = (0, P 9 k) := by
  have e := (g.2.2.2 k hk).2.2.2.2
  rw [show 0 + 269 + k = (269 + (k : Int)).toNat by omega] at e
  exact e
theorem rBk.eq {o : Nat} (g : rBk o P h) (lb : lB P) (f : ∀ b, o ≤ b → b < o + 275 → h' 126 b = h 126 b) : rBk o P h' := by
  obtain ⟨⟨a0, a1, a2, a3, a4⟩, b1, b2, b3⟩ := g
  refine ⟨⟨(f _ (by omega) (by omega)).trans a0, (f _ (by omega) (by omega)).trans a1, (f _ (by omega) (by omega)).trans a2, (f _ (by omega) (by omega)).trans a3, (f _ (by omega) (by omega)).trans a4⟩, fun q i => ?_, fun k q hk i => ?_, fun k hk => ?_⟩
  · have := gJ_lt lb i
    exact ⟨(f _ (by omega) (by omega)).trans (b1 q i).1, (f _ (by omega) (by omega)).trans (b1 q i).2⟩
  · have := gJ_lt lb i
    exact (f _ (by omega) (by omega)).trans (b2 k q hk i)
  · have := lb.2.2.2.2
    obtain ⟨c1, c2, c3, c4, c5⟩ := b3 k hk
    exact ⟨(f _ (by omega) (by omega)).trans c1, (f _ (by omega) (by omega)).trans c2, (f _ (by omega) (by omega)).trans c3, (f _ (by omega) (by omega)).trans c4, (f _ (by omega) (by omega)).trans c5⟩
end RF
/-- what it costs by copy cp (below 0: the ground) -/
def rC (P : PT) (cp : Int) (q : Nat) : Int := if cp < 0 then gGr P q else gSh P cp.toNat q
theorem rC_b {P : PT} (hb : fB P) {cp : Int} {q : Nat} (hq : q < 48) : 0 ≤ rC P cp q ∧ rC P cp q ≤ 14 := by
  have a := gGr_b hb hq
  have b := gSh_b hb (k := cp.toNat) hq
  unfold rC
  split <;> omega
def rCF (P : PT) (cp : Int) (q : Nat) : Int := if rC P cp q = 0 then 1000000 else rC P cp q
/-- over a cell's neighbour -/
def gGo (P : PT) (cp : Int) (d : Nat → Int) (q k : Nat) : Int := if gNb P q k = -1 then 1000000 else if rC P cp (gNb P q k).toNat = 0 then 1000000 else if d (gNb P q k).toNat = 1000000 then 1000000 else 100 * rC P cp (gNb P q k).toNat + 1 + d (gNb P q k).toNat
def dX (d : Nat) : Int := if d = 0 then 1 else if d = 2 then -1 else 0
def dY (d : Nat) : Int := if d = 1 then 1 else if d = 3 then -1 else 0
theorem gNb_xy {P : PT} (lb : lB P) {q d : Nat} (g : gIn P q) (hd : d < 4) : gNb P q d = if (0 ≤ ((q % 8 : Nat) : Int) + dX d ∧ ((q % 8 : Nat) : Int) + dX d ≤ P 0 0 - 1) ∧ 0 ≤ ((q / 8 : Nat) : Int) + dY d ∧ ((q / 8 : Nat) : Int) + dY d ≤ P 0 1 - 1 then 8 * (((q / 8 : Nat) : Int) + dY d) + (((q % 8 : Nat) : Int) + dX d) else -1 := by
  obtain ⟨⟨w0, w8⟩, ⟨r0, r6⟩, _⟩ := lb
  obtain ⟨g0, g1, g2⟩ := g
  have : d = 0 ∨ d = 1 ∨ d = 2 ∨ d = 3 := by omega
  rcases this with rfl | rfl | rfl | rfl
  · show cBs (P 0 0) (P 0 1) q 0 = _
    rw [show dX 0 = 1 from rfl, show dY 0 = 0 from rfl]
    unfold cBs
    rw [if_pos rfl]
    by_cases c : ((q % 8 : Nat) : Int) + 1 < P 0 0
    · rw [if_pos c, if_pos (by omega)]; omega
    · rw [if_neg c, if_neg (by omega)]
  · show cBs (P 0 0) (P 0 1) q 1 = _
    rw [show dX 1 = 0 from rfl, show dY 1 = 1 from rfl]
    unfold cBs
    rw [if_neg (by decide), if_pos rfl]
    by_cases c : (q : Int) + 8 < P 0 1 * 8
    · rw [if_pos c, if_pos (by omega)]; omega
    · rw [if_neg c, if_neg (by omega)]
  · show cBs (P 0 0) (P 0 1) q 2 = _
    rw [show dX 2 = -1 from rfl, show dY 2 = 0 from rfl]
    unfold cBs
    rw [if_neg (by decide), if_neg (by decide), if_pos rfl]
    by_cases c : 0 < q % 8
    · rw [if_pos c, if_pos (by omega)]; omega
    · rw [if_neg c, if_neg (by omega)]
  · show cBs (P 0 0) (P 0 1) q 3 = _
    rw [show dX 3 = 0 from rfl, show dY 3 = -1 from rfl]
    unfold cBs
    rw [if_neg (by decide), if_neg (by decide), if_neg (by decide)]
    by_cases c : 8 ≤ q
    · rw [if_pos c, if_pos (by omega)]; omega
    · rw [if_neg c, if_neg (by omega)]
theorem gJ_xy {P : PT} (h0 : 0 ≤ P 0 0) {q2 : Nat} {x y : Int} (hx : 0 ≤ x ∧ x < 8) (hy : 0 ≤ y) (e : 8 * y + x = (q2 : Int)) : P 0 0 * y + x = ((gJ P q2 : Nat) : Int) := by
  rw [gJ_i h0, show ((q2 / 8 : Nat) : Int) = y by omega, show ((q2 % 8 : Nat) : Int) = x by omega]
theorem wy_b {w y : Int} (h1 : 0 ≤ w ∧ w ≤ 8) (h2 : 0 ≤ y ∧ y ≤ 8) : 0 ≤ w * y ∧ w * y ≤ 64 := by
  have a := Int.mul_nonneg h1.1 h2.1
  have b : w * y ≤ 8 * y := Int.mul_le_mul_of_nonneg_right h1.2 h2.1
  omega
theorem gGo_r {P : PT} {cp : Int} {d : Nat → Int} {q k b : Nat} (e : gNb P q k = (b : Int)) : gGo P cp d q k = if rC P cp b = 0 then 1000000 else if d b = 1000000 then 1000000 else 100 * rC P cp b + 1 + d b := by
  unfold gGo
  rw [if_neg (by omega), e, Int.toNat_natCast]
def oHp (P : PT) (d : Nat → Int) (h : zH) : Prop := ∀ r, gIn P r → h 130 (gJ P r) = (0, d r)
def oU (P : PT) (cp : Int) (to : Nat) (d : Nat → Int) : Prop := d to = 0 ∧ wU (gIn P) (gNb P) (rC P cp) g100 to d
def oRL (P : PT) (cp : Int) (d : Nat → Int) (m : Int) (n e : Nat) : Prop := m = 0 → ∀ q' : Nat, gIn P q' → ∀ e' : Nat, e' < 4 → (gJ P q' < n ∨ (gJ P q' = n ∧ e' < e)) → d q' ≤ gGo P cp d q' e'
theorem oU_set {P : PT} {cp : Int} {to : Nat} {d : Nat → Int} (lb : lB P) (hu : oU P cp to d) (h0 : ∀ q, gIn P q → 0 ≤ rC P cp q) {q e : Nat} (gq : gIn P q) (he : e < 4) (hl : gGo P cp d q e < d q) : oU P cp to (fun x => if x = q then gGo P cp d q e else d x) := by
  obtain ⟨ht, hu1, hu2⟩ := hu
  have bq := hu1 q gq
  have w6 : wFar = 1000000 := rfl
  obtain ⟨b, cb, en, ab⟩ : ∃ b : Nat, gIn P b ∧ gNb P q e = (b : Int) ∧ wAdj (gNb P) b q := by
    rcases (gOk lb).2 q e gq he with f | ⟨b, g, f, a⟩
    · have : gGo P cp d q e = 1000000 := if_pos f
      omega
    · exact ⟨b, g, f, a⟩
  have r := gGo_r (P := P) (cp := cp) (d := d) en
  have bb := hu1 b cb
  have c0 := h0 b cb
  by_cases z1 : rC P cp b = 0
  · rw [if_pos z1] at r
    omega
  · rw [if_neg z1] at r
    by_cases z2 : d b = 1000000
    · rw [if_pos z2] at r
      omega
    · rw [if_neg z2] at r
      have hbq : b ≠ q := fun c => by rw [c] at r c0; omega
      have hqt : q ≠ to := fun c => by rw [c, ht] at hl; rw [c] at r; omega
      refine ⟨?_, fun x gx => ?_, fun x gx hx fx => ?_⟩
      · show (if to = q then gGo P cp d q e else d to) = 0
        rw [if_neg (fun c => hqt c.symm)]; exact ht
      · show 0 ≤ (if x = q then gGo P cp d q e else d x) ∧ (if x = q then gGo P cp d q e else d x) ≤ wFar
        by_cases c : x = q
        · rw [if_pos c]; omega
        · rw [if_neg c]; exact hu1 x gx
      · have fx : (if x = q then gGo P cp d q e else d x) < wFar := fx
        show ∃ y, gIn P y ∧ wAdj (gNb P) x y ∧ 0 < rC P cp y ∧ (if y = q then gGo P cp d q e else d y) < wFar ∧ g100 (rC P cp y) + (if y = q then gGo P cp d q e else d y) ≤ (if x = q then gGo P cp d q e else d x)
        by_cases c : x = q
        · refine ⟨b, cb, by rw [c]; exact ⟨e, he, en⟩, by omega, ?_, ?_⟩
          · rw [if_neg hbq]; omega
          · rw [if_neg hbq, if_pos c, r]
            unfold g100
            omega
        · rw [if_neg c] at fx ⊢
          obtain ⟨y, gy, ay, py, fy, ly⟩ := hu2 x gx hx fx
          refine ⟨y, gy, ay, py, ?_, ?_⟩
          · by_cases cc : y = q
            · rw [if_pos cc]; omega
            · rw [if_neg cc]; exact fy
          · by_cases cc : y = q
            · rw [if_pos cc]
              rw [cc] at ly ⊢
              omega
            · rw [if_neg cc]; exact ly
theorem oU_D {P : PT} {cp : Int} {to : Nat} {d co : Nat → Int} (hu : oU P cp to d) (hco : ∀ q, gIn P q → rC P cp q = co q) (hr : ∀ q : Nat, gIn P q → ∀ e : Nat, e < 4 → d q ≤ gGo P cp d q e) : wD (gIn P) (gNb P) co g100 to d := by
  have w6 : wFar = 1000000 := rfl
  refine ⟨hu.1, ⟨hu.2.1, fun a ca hat fa => ?_⟩, fun a b ca cb ab pb fb => ?_⟩
  · obtain ⟨b, cb, ab, pb, fb, l⟩ := hu.2.2 a ca hat fa
    rw [hco b cb] at pb l
    exact ⟨b, cb, ab, pb, fb, l⟩
  · obtain ⟨e, he, en⟩ := ab
    have k := hr a ca e he
    rw [← hco b cb] at pb ⊢
    rw [gGo_r en, if_neg (by omega), if_neg (by omega)] at k
    unfold g100
    omega
theorem oU_ini {P : PT} {cp : Int} {to : Nat} : oU P cp to (fun x => if x = to then 0 else 1000000) := by
  refine ⟨if_pos rfl, fun a _ => ?_, fun a _ hat hf => ?_⟩
  · show 0 ≤ (if a = to then (0 : Int) else 1000000) ∧ (if a = to then (0 : Int) else 1000000) ≤ wFar
    unfold wFar
    split <;> omega
  · have hf : (if a = to then (0 : Int) else 1000000) < wFar := hf
    rw [if_neg hat] at hf
    unfold wFar at hf
    omega
theorem oU_b {P : PT} {cp : Int} {to : Nat} {d : Nat → Int} {h : zH} (hu : oU P cp to d) (hp : oHp P d h) : ∀ r, gIn P r → h 130 (gJ P r) = (0, d r) ∧ 0 ≤ d r ∧ d r ≤ 1000000 := fun r g => ⟨hp r g, hu.2.1 r g⟩
/-- costs alike where there are cells -/
theorem wD_co {P : PT} {co co' : Nat → Int} {to : Nat} {d : Nat → Int} (e : ∀ q, gIn P q → co q = co' q) (h : wD (gIn P) (gNb P) co g100 to d) : wD (gIn P) (gNb P) co' g100 to d := by
  refine ⟨h.1, ⟨h.2.1.1, fun a ca hat fa => ?_⟩, fun a b ca cb ab pb fb => ?_⟩
  · obtain ⟨b, cb, ab, pb, fb, l⟩ := h.2.1.2 a ca hat fa
    rw [e b cb] at pb l
    exact ⟨b, cb, ab, pb, fb, l⟩
  · rw [← e b cb] at pb ⊢
    exact h.2.2 a b ca cb ab pb fb
/-! the row of CELLS told by the reference -/
def rHp (P : PT) (p : Nat → Nat) (n : Nat) (h : zH) : Prop := (∀ i, i ≤ n → h 132 i = (0, ((gJ P (p i) : Nat) : Int))) ∧ h 121 31 = (0, ((n + 1 : Nat) : Int))
def rwF (h0 h : zH) : Prop := ∀ a b, ¬ (a = 130 ∨ a = 132 ∨ (a = 121 ∧ b = 31)) → h a b = h0 a b
theorem rwF.z {h0 h : zH} {a b : Nat} {v : zV} (ha : a = 130 ∨ a = 132 ∨ (a = 121 ∧ b = 31)) (g : rwF h0 h) : rwF h0 (zset h a b v) := fun x y hn => (zset_ne (fun c => hn (by omega))).trans (g x y hn)
theorem rHp_s {P : PT} {p : Nat → Nat} {n : Nat} {h : zH} (g : rHp P p n h) : rHp P p (n + 1) (zset (zset h 132 (n + 1) (0, ((gJ P (p (n + 1)) : Nat) : Int))) 121 31 (0, (((n + 1 : Nat) : Int) + 1))) := by
  refine ⟨fun i hi => (zset_ne (by omega)).trans ?_, zset_same⟩
  by_cases c : i = n + 1
  · rw [c]; exact zset_same
  · exact (zset_ne (fun e => c e.2)).trans (g.1 i (by omega))
theorem gGo_hit {P : PT} {cp : Int} {d co : Nat → Int} {a k : Nat} (lb : lB P) (hco : ∀ q, gIn P q → rC P cp q = co q) (h0 : ∀ q, gIn P q → 0 ≤ rC P cp q) (bd : ∀ q, gIn P q → 0 ≤ d q ∧ d q ≤ 1000000) (ga : gIn P a) (fa : d a < wFar) (hk : k < 4) : gGo P cp d a k = d a ↔ wHb (gNb P) co d a k = true := by
  have w6 : wFar = 1000000 := rfl
  rcases (gOk lb).2 a k ga hk with f | ⟨b, gb, f, _⟩
  · constructor
    · intro c
      have : gGo P cp d a k = 1000000 := if_pos f
      omega
    · intro c
      have := (wHb_i c).1
      omega
  · rw [wHb_b f, gGo_r f, ← hco b gb]
    have c0 := h0 b gb
    have bb := bd b gb
    constructor
    · intro c
      by_cases z1 : rC P cp b = 0
      · rw [if_pos z1] at c; omega
      · rw [if_neg z1] at c
        by_cases z2 : d b = 1000000
        · rw [if_pos z2] at c; omega
        · rw [if_neg z2] at c
          unfold g100
          exact ⟨by omega, by omega, by omega⟩
    · rintro ⟨z1, z2, z3⟩
      rw [if_neg (by omega), if_neg (by omega)]
      unfold g100 at z3
      omega
