/-! THE WATCHER: sums of bits, quotients, rests; what follows from facts; branches -/
theorem a_min_ok (a b : Int) : a_min a b ≤ a ∧ a_min a b ≤ b ∧ (a_min a b = a ∨ a_min a b = b) := by
  unfold a_min
  by_cases h : a ≤ b
  · rw [a_decT h]; exact ⟨Int.le_refl _, h, Or.inl rfl⟩
  · rw [a_decN h]; exact ⟨by show b ≤ a; omega, Int.le_refl _, Or.inr rfl⟩
theorem a_max_ok (a b : Int) : a ≤ a_max a b ∧ b ≤ a_max a b ∧ (a_max a b = a ∨ a_max a b = b) := by
  unfold a_max
  by_cases h : a ≤ b
  · rw [a_decT h]; exact ⟨h, Int.le_refl _, Or.inr rfl⟩
  · rw [a_decN h]; exact ⟨Int.le_refl _, by show b ≤ a; omega, Or.inl rfl⟩
section AK2
variable {β : Type} {X : aX} {ρ : Nat → Int} {q : aQ} {h : zH} {f : aQ → aV → Option β} {r : β} {t : Nat}
theorem a_andK_ok {x y : aV} {zx zy : zV} {z : Int} (hr : a_andK t q x y f = some r) (g : aDen X ρ q h) (hx : aR ρ q.1 x zx) (hy : aR ρ q.1 y zy) (hz : (a_lo t ≤ zx.2 ∧ zx.2 ≤ a_hi t) → (a_lo t ≤ zy.2 ∧ zy.2 ≤ a_hi t) → ((0 ≤ zx.2 → 0 ≤ z ∧ z ≤ zx.2) ∧ (0 ≤ zy.2 → 0 ≤ z ∧ z ≤ zy.2)) ∧ (0 ≤ zx.2 → 0 ≤ zy.2 → z = Int.ofNat (Nat.land zx.2.toNat zy.2.toNat))) (hb : a_lo t ≤ z ∧ z ≤ a_hi t) : aMk X ρ q h (t, z) f r := by
  unfold a_andK at hr
  obtain ⟨lx, hxx, hr, b1, b2⟩ := a_rng_den hr g hx
  obtain ⟨ly, hyy, hr, b3, b4⟩ := a_rng_den hr g hy
  rcases x_condT hr with ⟨hc, hr⟩ | ⟨-, hr⟩
  · rw [Bool.and_eq_true] at hc
    obtain ⟨c1, c2⟩ := a_in_ok hc.1
    obtain ⟨c3, c4⟩ := a_in_ok hc.2
    obtain ⟨⟨z1, z2⟩, z3⟩ := hz ⟨by omega, by omega⟩ ⟨by omega, by omega⟩
    rcases x_condT hr with ⟨hc, hr⟩ | ⟨-, hr⟩
    · have hc := a_ofDec hc
      have z2 := z2 (by omega)
      rcases x_condT hr with ⟨hd, hr⟩ | ⟨-, hr⟩
      · have hd := a_ofDec hd
        have z1 := z1 (by omega)
        rcases x_condT hr with ⟨he, hr⟩ | ⟨-, hr⟩
        · rw [Bool.and_eq_true, a_dec_eq, a_dec_eq] at he
          rw [x_kN_eq] at hr
          refine aMk.here hr g ⟨Nat.zero_le _, ?_⟩
          rw [z3 (by omega) (by omega), show zx.2 = lx from by omega, show zy.2 = ly from by omega]
          rfl
        · rcases (a_min_ok hxx hyy).2.2 with e | e
          · exact a_newK_ok hr g z1.1 (by rw [e]; omega)
          · exact a_newK_ok hr g z1.1 (by rw [e]; omega)
      · exact a_newK_ok hr g z2.1 (by omega)
    · rcases x_condT hr with ⟨hd, hr⟩ | ⟨-, hr⟩
      · have hd := a_ofDec hd
        have z1 := z1 (by omega)
        exact a_newK_ok hr g z1.1 (by omega)
      · exact a_anyK_ok hr g hb.1 hb.2
  · exact a_anyK_ok hr g hb.1 hb.2
theorem a_shrK_ok {x y : aV} {zx zy : zV} {z : Int} (hr : a_shrK q x y f = some r) (g : aDen X ρ q h) (hx : aR ρ q.1 x zx) (hy : aR ρ q.1 y zy) (hz : 0 ≤ zy.2 → zy.2 < 32 → 0 ≤ zx.2 → zx.2 ≤ 2147483647 → z = zx.2 / ((2 ^ zy.2.toNat : Nat) : Int)) (hb : a_lo 0 ≤ z ∧ z ≤ a_hi 0) : aMk X ρ q h (0, z) f r := by
  unfold a_shrK at hr
  obtain ⟨lx, hxx, hr, b1, b2⟩ := a_rng_den hr g hx
  rcases x_condT hr with ⟨hc, hr⟩ | ⟨-, hr⟩
  · simp only [Bool.and_eq_true, a_dec_eq] at hc
    obtain ⟨c0, c1, c2, c3, c4⟩ := hc
    have hcy := aR_const c0 hy
    obtain ⟨c5, c6⟩ := a_in_ok c4
    have c6 : hxx ≤ 2147483647 := c6
    have hz := hz (by omega) (by omega) (by omega) (by omega)
    have hp : (0 : Int) < ((2 ^ zy.2.toNat : Nat) : Int) := Int.ofNat_lt.mpr (Nat.two_pow_pos _)
    have hr : a_newK 0 (lx / ((2 ^ y.2.2.toNat : Nat) : Int)) (hxx / ((2 ^ y.2.2.toNat : Nat) : Int)) q f = some r := hr
    rw [← hcy] at hr
    exact a_newK_ok hr g (by rw [hz]; exact Int.ediv_le_ediv hp b1) (by rw [hz]; exact Int.ediv_le_ediv hp b2)
  · exact a_anyK_ok hr g hb.1 hb.2
theorem a_divK_ok {x y : aV} {zx zy : zV} {z : Int} (hr : a_divK t q x y f = some r) (g : aDen X ρ q h) (hx : aR ρ q.1 x zx) (hy : aR ρ q.1 y zy) (hz : 1 ≤ zy.2 → 0 ≤ zx.2 → zx.2 ≤ a_hi t → zy.2 ≤ a_hi t → z = zx.2 / zy.2) (hb : a_lo t ≤ z ∧ z ≤ a_hi t) : zy.2 ≠ 0 ∧ aMk X ρ q h (t, z) f r := by
  unfold a_divK at hr
  obtain ⟨lx, hxx, hr, b1, b2⟩ := a_rng_den hr g hx
  obtain ⟨ly, hyy, hr, b3, b4⟩ := a_rng_den hr g hy
  rcases x_condT hr with ⟨hc, hr⟩ | ⟨-, hr⟩
  · simp only [Bool.and_eq_true, a_dec_eq] at hc
    obtain ⟨c0, c1, c2, c3⟩ := hc
    have c2 := a_in_ok c2
    have c3 := a_in_ok c3
    refine ⟨by omega, ?_⟩
    have hz := hz (by omega) (by omega) (by omega) (by omega)
    refine a_newK_ok hr g ?_ ?_
    · rw [hz]
      refine (Int.le_ediv_iff_mul_le (by omega)).mpr ?_
      have h5 : lx / hyy * zy.2 ≤ lx / hyy * hyy := Int.mul_le_mul_of_nonneg_left b4 (Int.ediv_nonneg c1 (by omega))
      have h6 : lx / hyy * hyy ≤ lx := Int.ediv_mul_le _ (by omega)
      omega
    · rw [hz]
      refine (Int.le_ediv_iff_mul_le (by omega)).mpr ?_
      have h5 : zx.2 / zy.2 * ly ≤ zx.2 / zy.2 * zy.2 := Int.mul_le_mul_of_nonneg_left b3 (Int.ediv_nonneg (by omega) (by omega))
      have h6 : zx.2 / zy.2 * zy.2 ≤ zx.2 := Int.ediv_mul_le _ (by omega)
      omega
  · rcases x_condT hr with ⟨hc, hr⟩ | ⟨-, hr⟩
    · rw [Bool.or_eq_true, a_dec_eq, a_dec_eq] at hc
      exact ⟨by omega, a_anyK_ok hr g hb.1 hb.2⟩
    · cases hr
theorem a_rem32K_ok {x y : aV} {zx zy : zV} {z : Int} (hr : a_rem32K q x y f = some r) (g : aDen X ρ q h) (hx : aR ρ q.1 x zx) (hy : aR ρ q.1 y zy) (hz : (a_lo 0 ≤ zx.2 ∧ zx.2 ≤ a_hi 0) → (a_lo 0 ≤ zy.2 ∧ zy.2 ≤ a_hi 0) → z = zx.2.tmod zy.2) (hb : a_lo 0 ≤ z ∧ z ≤ a_hi 0) : zy.2 ≠ 0 ∧ aMk X ρ q h (0, z) f r := by
  unfold a_rem32K at hr
  obtain ⟨lx, hxx, hr, b1, b2⟩ := a_rng_den hr g hx
  obtain ⟨ly, hyy, hr, b3, b4⟩ := a_rng_den hr g hy
  rcases x_condT hr with ⟨hc, hr⟩ | ⟨-, hr⟩
  · simp only [Bool.and_eq_true, a_dec_eq] at hc
    obtain ⟨c0, c2, c3⟩ := hc
    have c2 := a_in_ok c2
    have c3 := a_in_ok c3
    refine ⟨by omega, ?_⟩
    have hz := hz ⟨by omega, by omega⟩ ⟨by omega, by omega⟩
    have hm := tmod_bounds (a := zx.2) (M := zy.2) (by omega)
    rcases x_condT hr with ⟨hd, hr⟩ | ⟨-, hr⟩
    · have hd := a_ofDec hd
      have h0 : 0 ≤ zx.2.tmod zy.2 := Int.tmod_nonneg _ (by omega)
      have h1 : zx.2.tmod zy.2 ≤ zx.2 := by
        rw [Int.tmod_eq_emod_of_nonneg (by omega)]
        have h7 : 0 ≤ zy.2 * (zx.2 / zy.2) := Int.mul_nonneg (by omega) (Int.ediv_nonneg (by omega) (by omega))
        rw [Int.emod_def]
        omega
      rcases x_condT hr with ⟨he, hr⟩ | ⟨-, hr⟩
      · rw [Bool.and_eq_true, a_dec_eq, a_dec_eq] at he
        rw [x_kZ_eq] at hr
        refine aMk.here hr g ⟨Nat.zero_le _, ?_⟩
        rw [hz, show zx.2 = lx from by omega, show zy.2 = ly from by omega, Int.tmod_eq_emod_of_nonneg hd]
        rfl
      · rcases (a_min_ok hxx (hyy - 1)).2.2 with e | e
        · exact a_newK_ok hr g (by omega) (by rw [e]; omega)
        · exact a_newK_ok hr g (by omega) (by rw [e]; omega)
    · exact a_newK_ok hr g (by omega) (by omega)
  · rcases x_condT hr with ⟨hc, hr⟩ | ⟨-, hr⟩
    · rw [Bool.or_eq_true, a_dec_eq, a_dec_eq] at hc
      exact ⟨by omega, a_anyK_ok hr g hb.1 hb.2⟩
    · cases hr
theorem a_new2_ok {lo hi z b1 b2 : Int} {t1 t2 : List (Int × Nat)} (hr : a_newK t lo hi q (fun q' v => f (a_fact (a_fact q' ((1, q.1) :: t1, b1)) ((-1, q.1) :: t2, b2)) v) = some r) (g : aDen X ρ q h) (h1 : lo ≤ z) (h2 : z ≤ hi) (s1 : aScope q.1 t1) (s2 : aScope q.1 t2) (e1 : z + alin ρ t1 ≤ b1) (e2 : -z + alin ρ t2 ≤ b2) : aMk X ρ q h (t, z) f r := by
  rw [a_newK_eq] at hr
  have ha := aup_ag ρ q.1 z
  refine ⟨_, _, aup ρ q.1 z, hr, ha, Nat.le_succ _, aDen.fact (aDen.fact (g.push h1 h2) ?_ ?_) ?_ ?_, Nat.le_refl _, ?_⟩
  · intro p hp
    rcases List.mem_cons.mp hp with e | e
    · rw [e]; exact Nat.lt_succ_self _
    · exact s1.up p e
  · show 1 * aup ρ q.1 z q.1 + alin (aup ρ q.1 z) t1 ≤ b1
    rw [aup_at, alin_ag ha s1]; omega
  · intro p hp
    rcases List.mem_cons.mp hp with e | e
    · rw [e]; exact Nat.lt_succ_self _
    · exact s2.up p e
  · show (-1) * aup ρ q.1 z q.1 + alin (aup ρ q.1 z) t2 ≤ b2
    rw [aup_at, alin_ag ha s2]; omega
  · show (t, z) = (t, aup ρ q.1 z q.1 + 0)
    rw [aup_at, Int.add_zero]
theorem a_cond_le {b : Bool} {x y z : Int} (h1 : b = true → x ≤ z) (h2 : b = false → y ≤ z) : cond b x y ≤ z := by cases b <;> simp_all
theorem a_cond_ge {b : Bool} {x y z : Int} (h1 : b = true → z ≤ x) (h2 : b = false → z ≤ y) : z ≤ cond b x y := by cases b <;> simp_all
theorem a_tmod_sign (a m : Int) : (0 ≤ a → 0 ≤ a.tmod m) ∧ (a ≤ 0 → a.tmod m ≤ 0) := by
  refine ⟨fun h => Int.tmod_nonneg _ h, fun h => ?_⟩
  have := Int.tmod_nonneg (a := -a) m (by omega)
  rw [Int.neg_tmod] at this
  omega
theorem a_tmod_near (a m : Int) (hm : m < 0) : m < a.tmod m ∧ a.tmod m < -m := by
  have := tmod_bounds (a := a) (M := -m) (by omega)
  rw [Int.tmod_neg] at this
  omega
theorem a_rem64K_ok {x y : aV} {zx zy : zV} {z : Int} (hr : a_rem64K q x y f = some r) (g : aDen X ρ q h) (hx : aR ρ q.1 x zx) (hy : aR ρ q.1 y zy) (hz : (a_lo 1 ≤ zx.2 ∧ zx.2 ≤ a_hi 1) → (a_lo 1 ≤ zy.2 ∧ zy.2 ≤ a_hi 1) → z = zx.2.tmod zy.2) : zy.2 ≠ 0 ∧ aMk X ρ q h (1, z) f r := by
  unfold a_rem64K at hr
  obtain ⟨lx, hxx, hr, b1, b2⟩ := a_rng_den hr g hx
  obtain ⟨ly, hyy, hr, b3, b4⟩ := a_rng_den hr g hy
  rcases x_condT hr with ⟨hc, hr⟩ | ⟨-, hr⟩
  · rw [Bool.and_eq_true] at hc
    have c2 := a_in_ok hc.1
    have c3 := a_in_ok hc.2
    have hz := hz ⟨by omega, by omega⟩ ⟨by omega, by omega⟩
    have hs := a_tmod_sign zx.2 zy.2
    rcases x_condT hr with ⟨hd, hr⟩ | ⟨-, hr⟩
    · have hd := a_ofDec hd
      refine ⟨by omega, ?_⟩
      rw [x_spine_eq, x_kZ_eq] at hr
      have hm := tmod_bounds (a := zx.2) (M := zy.2) (by omega)
      have l := alin_tm ρ (-1) y
      rw [← aR_val hy] at l
      refine a_new2_ok hr g (a_cond_le (fun e => ?_) (fun e => ?_)) (a_cond_ge (fun e => ?_) (fun e => ?_)) (aScope_tm hy.1) (aScope_tm hy.1) (by omega) (by omega)
      · have := a_ofDec e; omega
      · omega
      · have := a_ofDec e; omega
      · omega
    · rcases x_condT hr with ⟨hd, hr⟩ | ⟨-, hr⟩
      · have hd := a_ofDec hd
        refine ⟨by omega, ?_⟩
        rw [x_spine_eq, x_kZ_eq] at hr
        have hm := a_tmod_near zx.2 zy.2 (by omega)
        have l := alin_tm ρ 1 y
        rw [← aR_val hy] at l
        refine a_new2_ok hr g (a_cond_le (fun e => ?_) (fun e => ?_)) (a_cond_ge (fun e => ?_) (fun e => ?_)) (aScope_tm hy.1) (aScope_tm hy.1) (by omega) (by omega)
        · have := a_ofDec e; omega
        · omega
        · have := a_ofDec e; omega
        · omega
      · cases hr
  · cases hr
theorem a_negK_ok {x : aV} {zx : zV} {z : Int} (hr : a_negK t q x f = some r) (g : aDen X ρ q h) (hx : aR ρ q.1 x zx) (hz : a_lo t ≤ -zx.2 → -zx.2 ≤ a_hi t → z = -zx.2) (hb : a_lo t ≤ z ∧ z ≤ a_hi t) : aMk X ρ q h (t, z) f r := by
  unfold a_negK at hr
  obtain ⟨lx, hxx, hr, b1, b2⟩ := a_rng_den hr g hx
  rcases x_condT hr with ⟨hc, hr⟩ | ⟨-, hr⟩
  · have c := a_in_ok hc
    have hz := hz (by omega) (by omega)
    exact a_newK_ok hr g (by omega) (by omega)
  · exact a_anyK_ok hr g hb.1 hb.2
theorem a_cutK_ok {lo hi : Int} {x : aV} {zx : zV} {z : Int} (hr : a_cutK lo hi q x f = some r) (g : aDen X ρ q h) (hx : aR ρ q.1 x zx) (hz : lo ≤ zx.2 → zx.2 ≤ hi → z = zx.2) (hb : lo ≤ z ∧ z ≤ hi) : aMk X ρ q h (0, z) f r := by
  unfold a_cutK at hr
  obtain ⟨lx, hxx, hr, b1, b2⟩ := a_rng_den hr g hx
  rcases x_condT hr with ⟨hc, hr⟩ | ⟨-, hr⟩
  · rw [Bool.and_eq_true, a_dec_eq, a_dec_eq] at hc
    refine aMk.here hr g ⟨hx.1, ?_⟩
    rw [hz (by omega) (by omega), aR_val hx]
  · exact a_newK_ok hr g hb.1 hb.2
theorem a_nrmK_ok {γ : Type} {v : aV} {zv : zV} {k : aV → Option γ} {r : γ} (hr : a_nrmK q.2.1 v k = some r) (g : aDen X ρ q h) (hv : aR ρ q.1 v zv) : ∃ w, k w = some r ∧ aR ρ q.1 w zv := by
  unfold a_nrmK at hr
  obtain ⟨lx, hxx, hr, b1, b2⟩ := a_rng_den hr g hv
  rcases x_condT hr with ⟨hc, hr⟩ | ⟨-, hr⟩
  · have hc := a_ofDec hc
    refine ⟨_, hr, Nat.zero_le _, ?_⟩
    have e : zv.2 = lx := by omega
    rw [hv.2] at e ⊢
    exact congrArg _ e
  · rw [x_kN_eq, x_kZ_eq] at hr
    exact ⟨_, hr, hv⟩
end AK2
/-! facts -/
theorem a_ins_ok (ρ : Nat → Int) (c : Int) (i : Nat) : ∀ l : List (Int × Nat), alin ρ (a_ins c i l) = c * ρ i + alin ρ l
  | [] => rfl
  | p :: t => by
    show alin ρ (cond (Nat.beq p.2 i) (cond (@decide (p.1 + c = 0) (a_decEqZ _ _)) t ((p.1 + c, i) :: t)) (p :: a_ins c i t)) = c * ρ i + (p.1 * ρ p.2 + alin ρ t)
    cases hb : Nat.beq p.2 i with
    | true =>
      have hb := Nat.eq_of_beq_eq_true hb
      rw [hb]
      by_cases hc : p.1 + c = 0
      · rw [a_decT hc]
        show alin ρ t = _
        have : p.1 = -c := by omega
        rw [this, Int.neg_mul]; omega
      · rw [a_decN hc]
        show (p.1 + c) * ρ i + alin ρ t = _
        rw [Int.add_mul]; omega
    | false =>
      show p.1 * ρ p.2 + alin ρ (a_ins c i t) = _
      rw [a_ins_ok ρ c i t]; omega
theorem a_less_ok (ρ : Nat → Int) (ts : List (Int × Nat)) : ∀ fs : List (Int × Nat), alin ρ (a_less ts fs) = alin ρ ts - alin ρ fs
  | [] => by show alin ρ ts = alin ρ ts - 0; omega
  | p :: fs => by
    show alin ρ (a_ins (-p.1) p.2 (a_less ts fs)) = alin ρ ts - (p.1 * ρ p.2 + alin ρ fs)
    rw [a_ins_ok, a_less_ok ρ ts fs, Int.neg_mul]; omega
theorem a_sup_ok {ρ : Nat → Int} {n : Nat} {E : aB} (he : ∀ x ∈ E, x.1 < n ∧ x.2.1 ≤ ρ x.1 ∧ ρ x.1 ≤ x.2.2) : ∀ {ts : List (Int × Nat)} {s : Int}, a_sup E ts = some s → alin ρ ts ≤ s
  | [], s, h => by cases h; exact Int.le_refl _
  | p :: ts, s, h => by
    have h : (match a_get E p.2 with
      | some q => match a_sup E ts with
        | some s => some (cond (@decide (0 ≤ p.1) (a_decLe _ _)) (p.1 * q.2 + s) (p.1 * q.1 + s))
        | none => none
      | none => none) = some s := h
    split at h
    · rename_i q hq
      split at h
      · rename_i s0 hs0
        have ih := a_sup_ok he hs0
        obtain ⟨-, g1, g2⟩ := a_get_ok he hq
        have h := Option.some.inj h
        rw [← h]
        show p.1 * ρ p.2 + alin ρ ts ≤ _
        by_cases hp : 0 ≤ p.1
        · rw [a_decT hp]
          show _ ≤ p.1 * q.2 + s0
          have := Int.mul_le_mul_of_nonneg_left g2 hp
          omega
        · rw [a_decN hp]
          show _ ≤ p.1 * q.1 + s0
          have := Int.mul_le_mul_of_nonpos_left (a := p.1) (by omega) g1
          omega
      · cases h
    · cases h
theorem a_ent_ok {ρ : Nat → Int} {m : Nat} {E : aB} {Fs : List aF} (he : aEnv ρ m E Fs) : ∀ (n : Nat) {ts : List (Int × Nat)} {b : Int}, a_ent E Fs n ts b = true → alin ρ ts ≤ b := by
  have base : ∀ {ts : List (Int × Nat)} {b : Int}, (match a_sup E ts with
      | some s => @decide (s ≤ b) (a_decLe _ _)
      | none => false) = true → alin ρ ts ≤ b := by
    intro ts b h
    split at h
    · rename_i s hs
      have h1 := a_sup_ok he.1 hs
      have h2 := a_ofDec h
      omega
    · cases h
  intro n
  induction n with
  | zero => exact fun h => base h
  | succ n ih =>
    intro ts b h
    have h : ((match a_sup E ts with
      | some s => @decide (s ≤ b) (a_decLe _ _)
      | none => false) || List.rec (motive := fun _ => Bool) false (fun x _ ih2 => (a_hasT ts x.1 && a_ent E Fs n (a_less ts x.1) (b - x.2)) || ih2) Fs) = true := h
    rw [Bool.or_eq_true] at h
    rcases h with h | h
    · exact base h
    · have go : ∀ l : List aF, (∀ x ∈ l, x ∈ Fs) → List.rec (motive := fun _ => Bool) false (fun x _ ih2 => (a_hasT ts x.1 && a_ent E Fs n (a_less ts x.1) (b - x.2)) || ih2) l = true → alin ρ ts ≤ b := by
        intro l
        induction l with
        | nil => exact fun _ h => by cases h
        | cons x l ihl =>
          intro hm h
          have h : ((a_hasT ts x.1 && a_ent E Fs n (a_less ts x.1) (b - x.2)) || List.rec (motive := fun _ => Bool) false (fun x _ ih2 => (a_hasT ts x.1 && a_ent E Fs n (a_less ts x.1) (b - x.2)) || ih2) l) = true := h
          rw [Bool.or_eq_true, Bool.and_eq_true] at h
          rcases h with h | h
          · have h1 := ih h.2
            have h2 := (he.2 x (hm x List.mem_cons_self)).2
            rw [a_less_ok] at h1
            omega
          · exact ihl (fun y hy => hm y (List.mem_cons_of_mem _ hy)) h
      exact go Fs (fun _ h => h) h
theorem a_leq_ok {X : aX} {ρ : Nat → Int} {q : aQ} {h : zH} (g : aDen X ρ q h) {x y : aV} {c : Int} (hq : a_leq q x y c = true) : aev ρ x.2.1 x.2.2 ≤ aev ρ y.2.1 y.2.2 + c := by
  unfold a_leq at hq
  have h1 := a_ent_ok g.1 3 hq
  rw [a_less_ok] at h1
  have l1 := alin_tm ρ 1 x
  have l2 := alin_tm ρ 1 y
  omega
/-! branches -/
theorem a_app_ok {α : Type} {a b : Option (List α)} {r : List α} (h : a_app a b = some r) : ∃ ra rb, a = some ra ∧ b = some rb ∧ r = ra ++ rb := by
  unfold a_app at h
  split at h
  · split at h
    · exact ⟨_, _, rfl, rfl, (Option.some.inj h).symm⟩
    · cases h
  · cases h
section AB
variable {β : Type} {X : aX} {ρ : Nat → Int} {q : aQ} {h : zH} {r : List β}
theorem a_nhi_ok {γ : Type} {n : Nat} {E : aB} {x : aV} {lx hx b : Int} {f : aB → Option γ} {r : γ} (hr : a_nhi E x lx hx b f = some r) (he : ∀ y ∈ E, y.1 < n ∧ y.2.1 ≤ ρ y.1 ∧ ρ y.1 ≤ y.2.2) (hs : x.2.1 ≤ n) (h1 : lx ≤ aev ρ x.2.1 x.2.2) (h2 : aev ρ x.2.1 x.2.2 ≤ b) : ∃ E', f E' = some r ∧ ∀ y ∈ E', y.1 < n ∧ y.2.1 ≤ ρ y.1 ∧ ρ y.1 ≤ y.2.2 := by
  obtain ⟨t, s, o⟩ := x
  cases s with
  | zero => exact ⟨E, hr, he⟩
  | succ i =>
    have hr : cond (@decide (b < hx) (a_decLt _ _)) (x_kZ (lx - o) (fun l => x_kZ (b - o) (fun u => f ((i, l, u) :: E)))) (f E) = some r := hr
    rcases x_condT hr with ⟨-, hr⟩ | ⟨-, hr⟩
    · rw [x_kZ_eq, x_kZ_eq] at hr
      refine ⟨_, hr, fun y hy => ?_⟩
      rcases List.mem_cons.mp hy with e | e
      · rw [e]
        have h1 : lx ≤ ρ i + o := h1
        have h2 : ρ i + o ≤ b := h2
        exact ⟨hs, by show lx - o ≤ ρ i; omega, by show ρ i ≤ b - o; omega⟩
      · exact he y e
    · exact ⟨E, hr, he⟩
theorem a_nlo_ok {γ : Type} {n : Nat} {E : aB} {x : aV} {lx hx b : Int} {f : aB → Option γ} {r : γ} (hr : a_nlo E x lx hx b f = some r) (he : ∀ y ∈ E, y.1 < n ∧ y.2.1 ≤ ρ y.1 ∧ ρ y.1 ≤ y.2.2) (hs : x.2.1 ≤ n) (h1 : aev ρ x.2.1 x.2.2 ≤ hx) (h2 : b ≤ aev ρ x.2.1 x.2.2) : ∃ E', f E' = some r ∧ ∀ y ∈ E', y.1 < n ∧ y.2.1 ≤ ρ y.1 ∧ ρ y.1 ≤ y.2.2 := by
  obtain ⟨t, s, o⟩ := x
  cases s with
  | zero => exact ⟨E, hr, he⟩
  | succ i =>
    have hr : cond (@decide (lx < b) (a_decLt _ _)) (x_kZ (b - o) (fun l => x_kZ (hx - o) (fun u => f ((i, l, u) :: E)))) (f E) = some r := hr
    rcases x_condT hr with ⟨-, hr⟩ | ⟨-, hr⟩
    · rw [x_kZ_eq, x_kZ_eq] at hr
      refine ⟨_, hr, fun y hy => ?_⟩
      rcases List.mem_cons.mp hy with e | e
      · rw [e]
        have h1 : ρ i + o ≤ hx := h1
        have h2 : b ≤ ρ i + o := h2
        exact ⟨hs, by show b - o ≤ ρ i; omega, by show ρ i ≤ hx - o; omega⟩
      · exact he y e
    · exact ⟨E, hr, he⟩
theorem a_leK_ok {x y : aV} {zx zy : zV} {c : Int} {f : aQ → Option (List β)} (hr : a_leK q x y c f = some r) (g : aDen X ρ q h) (hx : aR ρ q.1 x zx) (hy : aR ρ q.1 y zy) (hle : zx.2 ≤ zy.2 + c) : ∃ q', f q' = some r ∧ q'.1 = q.1 ∧ q'.2.2.2 = q.2.2.2 ∧ aDen X ρ q' h := by
  unfold a_leK at hr
  rcases x_condT hr with ⟨hs, hr⟩ | ⟨-, hr⟩
  · rcases x_condT hr with ⟨-, hr⟩ | ⟨hc, -⟩
    · exact ⟨q, hr, rfl, rfl, g⟩
    · have hc := a_ofDecF hc
      have e1 := aR_val hx
      have e2 := aR_val hy
      rw [← Int.zero_add x.2.2, aev_add, Nat.eq_of_beq_eq_true hs] at e1
      rw [← Int.zero_add y.2.2, aev_add] at e2
      omega
  rcases x_condT hr with ⟨hs, -⟩ | ⟨-, hr⟩
  · rw [Bool.and_eq_true] at hs
    have k := a_leq_ok g hs.2
    have e1 := aR_val hx
    have e2 := aR_val hy
    omega
  obtain ⟨lx, hxx, hr, b1, b2⟩ := a_rng_den hr g hx
  obtain ⟨ly, hyy, hr, b3, b4⟩ := a_rng_den hr g hy
  rcases x_condT hr with ⟨-, hr⟩ | ⟨hc, -⟩
  · have e1 := aR_val hx
    have e2 := aR_val hy
    obtain ⟨E1, hr, g1⟩ := a_nhi_ok (ρ := ρ) hr g.1.1 hx.1 (by omega) (by omega)
    obtain ⟨E2, hr, g2⟩ := a_nlo_ok (ρ := ρ) hr g1 hy.1 (by omega) (by omega)
    rcases x_condT hr with ⟨-, hr⟩ | ⟨-, hr⟩
    · exact ⟨_, hr, rfl, rfl, g.bound g2⟩
    · rw [x_kZ_eq, x_spine_eq] at hr
      refine ⟨_, hr, rfl, rfl, ?_⟩
      have gf := aDen.fact (g.bound g2) (x := (a_tm 1 x ++ a_tm (-1) y, c + y.2.2 - x.2.2)) (aScope_app (aScope_tm hx.1) (aScope_tm hy.1)) ?_
      · exact gf
      · show alin ρ (a_tm 1 x ++ a_tm (-1) y) ≤ c + y.2.2 - x.2.2
        have l1 := alin_tm ρ 1 x
        have l2 := alin_tm ρ (-1) y
        rw [alin_app]
        omega
  · have := a_ofDecF hc
    omega
theorem a_neK_ok {x y : aV} {zx zy : zV} {f : aQ → Option (List β)} (hr : a_neK q x y f = some r) (g : aDen X ρ q h) (hx : aR ρ q.1 x zx) (hy : aR ρ q.1 y zy) (hne : zx.2 ≠ zy.2) : ∃ q' r', (∀ o ∈ r', o ∈ r) ∧ f q' = some r' ∧ q'.1 = q.1 ∧ q'.2.2.2 = q.2.2.2 ∧ aDen X ρ q' h := by
  unfold a_neK at hr
  rcases x_condT hr with ⟨hs, hr⟩ | ⟨-, hr⟩
  · rcases x_condT hr with ⟨hc, -⟩ | ⟨-, hr⟩
    · have hc := a_ofDec hc
      have e1 := aR_val hx
      have e2 := aR_val hy
      rw [Nat.eq_of_beq_eq_true hs, hc] at e1
      exact absurd (e1.trans e2.symm) hne
    · exact ⟨q, r, fun _ ho => ho, hr, rfl, rfl, g⟩
  rcases x_condT hr with ⟨-, hr⟩ | ⟨-, hr⟩
  · rcases x_condT hr with ⟨hs, -⟩ | ⟨-, hr⟩
    · rw [Bool.and_eq_true] at hs
      have k := a_leq_ok g hs.1
      have k2 := a_leq_ok g hs.2
      have e1 := aR_val hx
      have e2 := aR_val hy
      omega
    · obtain ⟨ra, rb, h1, h2, rfl⟩ := a_app_ok hr
      by_cases hlt : zx.2 < zy.2
      · obtain ⟨q', d1, d2, d3, d4⟩ := a_leK_ok h1 g hx hy (by omega)
        exact ⟨q', ra, fun o ho => List.mem_append_left _ ho, d1, d2, d3, d4⟩
      · obtain ⟨q', d1, d2, d3, d4⟩ := a_leK_ok h2 g hy hx (by omega)
        exact ⟨q', rb, fun o ho => List.mem_append_right _ ho, d1, d2, d3, d4⟩
  have ret1 : ∀ {q' : aQ}, f q' = some r → q'.1 = q.1 → q'.2.2.2 = q.2.2.2 → aDen X ρ q' h → ∃ q' r', (∀ o ∈ r', o ∈ r) ∧ f q' = some r' ∧ q'.1 = q.1 ∧ q'.2.2.2 = q.2.2.2 ∧ aDen X ρ q' h := fun d1 d2 d3 d4 => ⟨_, r, fun _ ho => ho, d1, d2, d3, d4⟩
  obtain ⟨lx, hxx, hr, b1, b2⟩ := a_rng_den hr g hx
  obtain ⟨ly, hyy, hr, b3, b4⟩ := a_rng_den hr g hy
  rcases x_condT hr with ⟨hc, hr⟩ | ⟨-, hr⟩
  · have hc := a_ofDec hc
    rcases x_condT hr with ⟨hd, hr⟩ | ⟨-, hr⟩
    · have hd := a_ofDec hd
      obtain ⟨q', d1, d2, d3, d4⟩ := a_leK_ok hr g hy hx (by omega); exact ret1 d1 d2 d3 d4
    · rcases x_condT hr with ⟨hd, hr⟩ | ⟨-, hr⟩
      · have hd := a_ofDec hd
        obtain ⟨q', d1, d2, d3, d4⟩ := a_leK_ok hr g hx hy (by omega); exact ret1 d1 d2 d3 d4
      · exact ret1 hr rfl rfl g
  · rcases x_condT hr with ⟨hc, hr⟩ | ⟨-, hr⟩
    · have hc := a_ofDec hc
      rcases x_condT hr with ⟨hd, hr⟩ | ⟨-, hr⟩
      · have hd := a_ofDec hd
        obtain ⟨q', d1, d2, d3, d4⟩ := a_leK_ok hr g hx hy (by omega); exact ret1 d1 d2 d3 d4
      · rcases x_condT hr with ⟨hd, hr⟩ | ⟨-, hr⟩
        · have hd := a_ofDec hd
          obtain ⟨q', d1, d2, d3, d4⟩ := a_leK_ok hr g hy hx (by omega); exact ret1 d1 d2 d3 d4
        · exact ret1 hr rfl rfl g
    · exact ret1 hr rfl rfl g
theorem a_br_ok {b : Nat} {x y : aV} {zx zy : zV} {T F : aQ → Option (List β)} (hr : a_br b q x y T F = some r) (g : aDen X ρ q h) (hx : aR ρ q.1 x zx) (hy : aR ρ q.1 y zy) : ∃ q' r', (∀ o ∈ r', o ∈ r) ∧ q'.1 = q.1 ∧ q'.2.2.2 = q.2.2.2 ∧ aDen X ρ q' h ∧ ((zrel b zx.2 zy.2 = true ∧ T q' = some r') ∨ (zrel b zx.2 zy.2 = false ∧ F q' = some r')) := by
  match b, hr with
  | 0, hr =>
    obtain ⟨ra, rb, h1, h2, rfl⟩ := a_app_ok hr
    by_cases hc : zx.2 < zy.2
    · obtain ⟨q', e1, e2, e3, e4⟩ := a_leK_ok h1 g hx hy (by omega)
      exact ⟨q', ra, fun o ho => List.mem_append_left _ ho, e2, e3, e4, Or.inl ⟨a_decT hc, e1⟩⟩
    · obtain ⟨q', e1, e2, e3, e4⟩ := a_leK_ok h2 g hy hx (by omega)
      exact ⟨q', rb, fun o ho => List.mem_append_right _ ho, e2, e3, e4, Or.inr ⟨a_decN hc, e1⟩⟩
  | 1, hr =>
    obtain ⟨ra, rb, h1, h2, rfl⟩ := a_app_ok hr
    by_cases hc : zy.2 < zx.2
    · obtain ⟨q', e1, e2, e3, e4⟩ := a_leK_ok h1 g hy hx (by omega)
      exact ⟨q', ra, fun o ho => List.mem_append_left _ ho, e2, e3, e4, Or.inl ⟨a_decT hc, e1⟩⟩
    · obtain ⟨q', e1, e2, e3, e4⟩ := a_leK_ok h2 g hx hy (by omega)
      exact ⟨q', rb, fun o ho => List.mem_append_right _ ho, e2, e3, e4, Or.inr ⟨a_decN hc, e1⟩⟩
  | b + 2, hr =>
    obtain ⟨ra, rb, h1, h2, rfl⟩ := a_app_ok hr
    by_cases hc : zx.2 = zy.2
    · obtain ⟨q1, e1, e2, e3, e4⟩ := a_leK_ok h1 g hx hy (by omega)
      obtain ⟨q2, d1, d2, d3, d4⟩ := a_leK_ok e1 e4 (by rw [e2]; exact hy) (by rw [e2]; exact hx) (by omega)
      exact ⟨q2, ra, fun o ho => List.mem_append_left _ ho, d2.trans e2, d3.trans e3, d4, Or.inl ⟨a_decT hc, d1⟩⟩
    · obtain ⟨q', r', e0, e1, e2, e3, e4⟩ := a_neK_ok h2 g hx hy hc
      exact ⟨q', r', fun o ho => List.mem_append_right _ (e0 o ho), e2, e3, e4, Or.inr ⟨a_decN hc, e1⟩⟩
end AB
