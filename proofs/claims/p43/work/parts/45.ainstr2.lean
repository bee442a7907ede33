/-! THE WATCHER'S INSTRUCTIONS HOLD, second part -/
section AI2
variable {X : aX} {ρ : Nat → Int} {q : aQ} {L : aL} {S : List aV} {h : zH} {M : zL} {Z : List zV} {outs : List aOut} {nx : Nat}
theorem ap_stk (a b : Nat) (z : Int) (cs : List (Int × Nat)) : aStepOK X (15, nx, a, b, z, cs) := by
  intro ρ q L S outs h M Z hr hd hL hS
  have hr : a_stk nx b q L S = some outs := hr
  unfold a_stk at hr
  match S, Z, hS, hr with
  | [], _, _, hr => cases hr
  | v :: S, zv :: Z, ⟨hv, hS⟩, hr =>
    have hcat := a_cat_ok hv
    match b, hr with
    | 0, hr =>
      rcases x_condT hr with ⟨hc, hr⟩ | ⟨-, hr⟩
      · refine ⟨_, (show (if zcat zv = 1 then znx nx (h, M, Z) else none) = some (.inr (.inl (nx, h, M, Z))) from ?_), a_go_ok hr (Nat.le_refl _) ⟨hd, hL, hS⟩⟩
        rw [if_pos (hcat.trans (Nat.eq_of_beq_eq_true hc))]; rfl
      · cases hr
    | 1, hr =>
      rcases x_condT hr with ⟨hc, hr⟩ | ⟨-, hr⟩
      · refine ⟨_, (show (if zcat zv = 2 then znx nx (h, M, Z) else none) = some (.inr (.inl (nx, h, M, Z))) from ?_), a_go_ok hr (Nat.le_refl _) ⟨hd, hL, hS⟩⟩
        rw [if_pos (hcat.trans (Nat.eq_of_beq_eq_true hc))]; rfl
      · cases hr
    | 2, hr =>
      rcases x_condT hr with ⟨hc, hr⟩ | ⟨-, hr⟩
      · refine ⟨_, (show (if zcat zv = 1 then znx nx (h, M, zv :: zv :: Z) else none) = some (.inr (.inl (nx, h, M, zv :: zv :: Z))) from ?_), a_go_ok hr (Nat.le_refl _) ⟨hd, hL, hv, hv, hS⟩⟩
        rw [if_pos (hcat.trans (Nat.eq_of_beq_eq_true hc))]; rfl
      · cases hr
    | 3, hr =>
      match S, Z, hS, hr with
      | [], _, _, hr => cases hr
      | w :: S, zw :: Z, ⟨hw, hS⟩, hr =>
        have hcat2 := a_cat_ok hw
        have hr : cond (Nat.beq (a_cat v) 1 && Nat.beq (a_cat w) 1) (some [Sum.inr (Sum.inl (nx, q, L, v :: w :: v :: w :: S))]) none = some outs := hr
        rcases x_condT hr with ⟨hc, hr⟩ | ⟨-, hr⟩
        · rw [Bool.and_eq_true] at hc
          refine ⟨_, (show (if zcat zv = 1 ∧ zcat zw = 1 then znx nx (h, M, zv :: zw :: zv :: zw :: Z) else none) = some (.inr (.inl (nx, h, M, zv :: zw :: zv :: zw :: Z))) from ?_), a_go_ok hr (Nat.le_refl _) ⟨hd, hL, hv, hw, hv, hw, hS⟩⟩
          rw [if_pos ⟨hcat.trans (Nat.eq_of_beq_eq_true hc.1), hcat2.trans (Nat.eq_of_beq_eq_true hc.2)⟩]; rfl
        · cases hr
    | 4, hr =>
      rcases x_condT hr with ⟨hc, hr⟩ | ⟨-, hr⟩
      · refine ⟨_, (show (if zcat zv = 2 then znx nx (h, M, zv :: zv :: Z) else none) = some (.inr (.inl (nx, h, M, zv :: zv :: Z))) from ?_), a_go_ok hr (Nat.le_refl _) ⟨hd, hL, hv, hv, hS⟩⟩
        rw [if_pos (hcat.trans (Nat.eq_of_beq_eq_true hc))]; rfl
      · cases hr
    | b + 5, hr => cases hr
theorem a_goq_ok {q' : aQ} {st : zS} {n : Nat} (hr : a_go nx L S q' = some outs) (hn : n = q'.1) (hd : aDen X ρ q' st.1) (hL : aRL ρ n L st.2.1) (hS : aRl ρ n S st.2.2) : aCov X ρ n outs (.inr (.inl (nx, st))) := by
  subst hn
  exact a_go_ok hr (Nat.le_refl _) ⟨hd, hL, hS⟩
theorem ap_if (a b : Nat) (z : Int) (cs : List (Int × Nat)) : aStepOK X (16, nx, a, b, z, cs) := by
  intro ρ q L S outs h M Z hr hd hL hS
  have hr : a_if nx a b q L S = some outs := hr
  unfold a_if at hr
  obtain ⟨x, S', zx, Z', hr, rfl, hx, hS⟩ := a_one_ok hr hS
  obtain ⟨q', r', h1, h2, h3, h4, h5⟩ := a_br_ok hr hd hx (y := (0, 0, 0)) (zy := (0, 0)) ⟨Nat.zero_le _, rfl⟩
  refine ⟨_, (show z_if nx a b (h, M, (0, zx) :: Z') = some (.inr (.inl ((if zrel b zx 0 then a else nx), h, M, Z'))) from rfl), ?_⟩
  rcases h5 with ⟨e1, e2⟩ | ⟨e1, e2⟩
  · have e1 : zrel b zx 0 = true := e1
    rw [if_pos e1]
    exact (a_goq_ok e2 h2.symm h4 hL hS).sub h1
  · have e1 : zrel b zx 0 = false := e1
    rw [if_neg (by rw [e1]; decide)]
    exact (a_goq_ok e2 h2.symm h4 hL hS).sub h1
theorem ap_icmp (a b : Nat) (z : Int) (cs : List (Int × Nat)) : aStepOK X (17, nx, a, b, z, cs) := by
  intro ρ q L S outs h M Z hr hd hL hS
  have hr : a_icmp nx a b q L S = some outs := hr
  unfold a_icmp at hr
  obtain ⟨x, y, S', zx, zy, Z', hr, rfl, hx, hy, hS⟩ := a_two_ok hr hS
  obtain ⟨q', r', h1, h2, h3, h4, h5⟩ := a_br_ok hr hd hx hy
  refine ⟨_, (show z_icmp nx a b (h, M, (0, zy) :: (0, zx) :: Z') = some (.inr (.inl ((if zrel b zx zy then a else nx), h, M, Z'))) from rfl), ?_⟩
  rcases h5 with ⟨e1, e2⟩ | ⟨e1, e2⟩
  · have e1 : zrel b zx zy = true := e1
    rw [if_pos e1]
    exact (a_goq_ok e2 h2.symm h4 hL hS).sub h1
  · have e1 : zrel b zx zy = false := e1
    rw [if_neg (by rw [e1]; decide)]
    exact (a_goq_ok e2 h2.symm h4 hL hS).sub h1
theorem ap_lcmp (a b : Nat) (z : Int) (cs : List (Int × Nat)) : aStepOK X (18, nx, a, b, z, cs) := by
  intro ρ q L S outs h M Z hr hd hL hS
  have hr : a_lcmp nx q L S = some outs := hr
  unfold a_lcmp at hr
  obtain ⟨x, y, S', zx, zy, Z', hr, rfl, hx, hy, hS⟩ := a_two_ok hr hS
  refine ⟨_, (show z_lcmp nx (h, M, (1, zy) :: (1, zx) :: Z') = some (.inr (.inl (nx, h, M, (0, if zy < zx then 1 else if zx = zy then 0 else -1) :: Z'))) from rfl), ?_⟩
  obtain ⟨q', r', h1, h2, h3, h4, h5⟩ := a_br_ok hr hd hx hy
  rcases h5 with ⟨e1, e2⟩ | ⟨e1, e2⟩
  · have e1 : zx < zy := a_ofDec e1
    rw [if_neg (by omega), if_neg (by omega)]
    exact (a_goq_ok (st := (h, M, (0, -1) :: Z')) e2 h2.symm h4 hL ⟨⟨Nat.zero_le _, rfl⟩, hS⟩).sub h1
  · have e1 : ¬ zx < zy := a_ofDecF e1
    obtain ⟨q2, r2, g1, g2, g3, g4, g5⟩ := a_br_ok e2 h4 (by rw [h2]; exact hx) (by rw [h2]; exact hy)
    have hn : q.1 = q2.1 := (g2.trans h2).symm
    rcases g5 with ⟨f1, f2⟩ | ⟨f1, f2⟩
    · have f1 : zy < zx := a_ofDec f1
      rw [if_pos f1]
      exact (a_goq_ok (st := (h, M, (0, 1) :: Z')) f2 hn g4 hL ⟨⟨Nat.zero_le _, rfl⟩, hS⟩).sub (fun o ho => h1 o (g1 o ho))
    · have f1 : ¬ zy < zx := a_ofDecF f1
      rw [if_neg f1, if_pos (by omega)]
      exact (a_goq_ok (st := (h, M, (0, 0) :: Z')) f2 hn g4 hL ⟨⟨Nat.zero_le _, rfl⟩, hS⟩).sub (fun o ho => h1 o (g1 o ho))
theorem a_swR_ok {x : aV} {zx : Int} : ∀ {cs : List (Int × Nat)} {q : aQ} {outs : List aOut}, a_swR nx L S x cs q = some outs → aDen X ρ q h → aR ρ q.1 x (0, zx) → aRL ρ q.1 L M → aRl ρ q.1 S Z → aCov X ρ q.1 outs (.inr (.inl (zfind nx zx cs, h, M, Z)))
  | [], q, outs, hr, hd, hx, hL, hS => a_goq_ok hr rfl hd hL hS
  | c :: cs, q, outs, hr, hd, hx, hL, hS => by
    have hr : a_br 0 q x (0, 0, c.1) (a_swR nx L S x cs) (fun q => a_br 1 q x (0, 0, c.1) (a_swR nx L S x cs) (fun q => a_go c.2 L S q)) = some outs := hr
    show aCov X ρ q.1 outs (.inr (.inl ((if zx = c.1 then c.2 else zfind nx zx cs), h, M, Z)))
    obtain ⟨q', r', h1, h2, h3, h4, h5⟩ := a_br_ok hr hd hx (y := (0, 0, c.1)) (zy := (0, c.1)) ⟨Nat.zero_le _, rfl⟩
    rcases h5 with ⟨e1, e2⟩ | ⟨e1, e2⟩
    · have e1 : zx < c.1 := a_ofDec e1
      rw [if_neg (by omega)]
      have := a_swR_ok e2 h4 (by rw [h2]; exact hx) (by rw [h2]; exact hL) (by rw [h2]; exact hS)
      rw [h2] at this
      exact this.sub h1
    · have e1 : ¬ zx < c.1 := a_ofDecF e1
      obtain ⟨q2, r2, g1, g2, g3, g4, g5⟩ := a_br_ok e2 h4 (by rw [h2]; exact hx) (y := (0, 0, c.1)) (zy := (0, c.1)) ⟨Nat.zero_le _, rfl⟩
      have hn : q.1 = q2.1 := (g2.trans h2).symm
      rcases g5 with ⟨f1, f2⟩ | ⟨f1, f2⟩
      · have f1 : c.1 < zx := a_ofDec f1
        rw [if_neg (by omega)]
        have := a_swR_ok f2 g4 (by rw [← hn]; exact hx) (by rw [← hn]; exact hL) (by rw [← hn]; exact hS)
        rw [← hn] at this
        exact this.sub (fun o ho => h1 o (g1 o ho))
      · have f1 : ¬ c.1 < zx := a_ofDecF f1
        rw [if_pos (by omega)]
        exact (a_goq_ok f2 hn g4 hL hS).sub (fun o ho => h1 o (g1 o ho))
theorem ap_sw (a b : Nat) (z : Int) (cs : List (Int × Nat)) : aStepOK X (19, nx, a, b, z, cs) := by
  intro ρ q L S outs h M Z hr hd hL hS
  have hr : a_sw nx cs q L S = some outs := hr
  unfold a_sw at hr
  obtain ⟨x, S', zx, Z', hr, rfl, hx, hS⟩ := a_one_ok hr hS
  exact ⟨_, rfl, a_swR_ok hr hd hx hL hS⟩
theorem ap_getf (a b : Nat) (z : Int) (cs : List (Int × Nat)) : aStepOK X (20, nx, a, b, z, cs) := by
  intro ρ q L S outs h M Z hr hd hL hS
  have hr : a_getf X.1 nx a b q L S = some outs := hr
  unfold a_getf at hr
  obtain ⟨x, S', zx, Z', hr, rfl, hx, hS⟩ := a_one_ok hr hS
  rcases x_condT hr with ⟨hc, hr⟩ | ⟨-, hr⟩
  · rw [Bool.and_eq_true, Bool.and_eq_true, a_dec_eq] at hc
    obtain ⟨c1, c2, c3⟩ := hc
    have hzx : zx = x.2.2 := aR_const c1 hx
    have hO := a_isO_ok c3
    rw [← hzx] at hO hr c2
    refine ⟨_, (show z_getf nx a b (h, M, (2, zx) :: Z') = some (.inr (.inl (nx, h, M, h zx.toNat b :: Z'))) from ?_), ?_⟩
    · show (if zisO a zx then znx nx (h, M, h zx.toNat b :: Z') else none) = _
      rw [if_pos hO]; rfl
    · have e0 : (aev ρ 0 (Int.ofNat b)).toNat = b := rfl
      split at hr
      · rename_i v hg
        obtain ⟨-, hv⟩ := a_oget_ok hd.2.2.1 hg
        rw [e0] at hv
        obtain ⟨w, hr, hw⟩ := a_nrmK_ok hr hd hv
        exact a_push_ok (aMk.here hr hd hw) hL hS
      · split at hr
        · rename_i l hl
          split at hr
          · rename_i t ht
            rw [x_kN_eq] at hr
            have hat := a_uniF_ok (j := b) ht (hd.2.1 _ _ hl) (Int.le_refl _) (Int.le_refl _)
            obtain ⟨outs', s1, s2⟩ := a_readK_ok (s := 0) (o := Int.ofNat b) hr hd (Nat.zero_le _) (Int.natCast_nonneg b) (by rw [e0]; exact hat)
            rw [e0] at s2
            exact (a_push_ok s2 hL hS).sub s1
          · cases hr
        · cases hr
  · cases hr
theorem a_fitc_ok {c : Nat} {v : aV} {zv : zV} {n : Nat} {lo hi : Int} (h : a_fitc c v lo hi = true) (hv : aR ρ n v zv) (h1 : lo ≤ zv.2) (h2 : zv.2 ≤ hi) : zfit c zv = true := by
  have ht : zv.1 = v.1 := by rw [hv.2]
  match c, h with
  | 0, h =>
    have h : Nat.beq v.1 0 = true := h
    show decide (zv.1 = 0) = true
    rw [ht, Nat.eq_of_beq_eq_true h]; rfl
  | 1, h =>
    have h : Nat.beq v.1 1 = true := h
    show decide (zv.1 = 1) = true
    rw [ht, Nat.eq_of_beq_eq_true h]; rfl
  | 2, h =>
    have h : (Nat.beq v.1 0 && (@decide (-128 ≤ lo) (a_decLe _ _) && @decide (hi ≤ 127) (a_decLe _ _))) = true := h
    rw [Bool.and_eq_true, Bool.and_eq_true, a_dec_eq, a_dec_eq] at h
    show (decide (zv.1 = 0) && (decide (-128 ≤ zv.2) && decide (zv.2 ≤ 127))) = true
    rw [ht, Nat.eq_of_beq_eq_true h.1, a_decT (show -128 ≤ zv.2 by omega), a_decT (show zv.2 ≤ 127 by omega)]; rfl
  | 3, h =>
    have h : (Nat.beq v.1 0 && (@decide (0 ≤ lo) (a_decLe _ _) && @decide (hi ≤ 1) (a_decLe _ _))) = true := h
    rw [Bool.and_eq_true, Bool.and_eq_true, a_dec_eq, a_dec_eq] at h
    show (decide (zv.1 = 0) && (decide (0 ≤ zv.2) && decide (zv.2 ≤ 1))) = true
    rw [ht, Nat.eq_of_beq_eq_true h.1, a_decT (show 0 ≤ zv.2 by omega), a_decT (show zv.2 ≤ 1 by omega)]; rfl
  | 4, h =>
    have h : Nat.beq (a_kind v) 2 = true := h
    show decide (zkind zv = 2) = true
    rw [a_kind_ok hv, Nat.eq_of_beq_eq_true h]; rfl
  | c + 5, h => cases h
theorem ap_putf (hX : aOK X) (a b : Nat) (z : Int) (cs : List (Int × Nat)) : aStepOK X (21, nx, a, b, z, cs) := by
  intro ρ q L S outs h M Z hr hd hL hS
  have hr : a_putf X.1 X.2.2.2.2 nx a b z q L S = some outs := hr
  unfold a_putf at hr
  split at hr
  · rename_i v x S'
    rcases x_condT hr with ⟨hc, hr⟩ | ⟨-, hr⟩
    · rw [Bool.and_eq_true, Bool.and_eq_true, Bool.and_eq_true, a_dec_eq] at hc
      obtain ⟨c0, c1, c2, c3⟩ := hc
      match Z, hS with
      | zv :: zx :: Z, ⟨hv, hx, hS⟩ =>
        have hzx := aR_const c1 hx
        have e1 : zx = (2, zx.2) := by rw [hx.2, Nat.eq_of_beq_eq_true c0]
        have hO := a_isO_ok c3
        rw [← hzx] at hO hr c2
        obtain ⟨lo, hi, hr, b1, b2⟩ := a_rng_den hr hd hv
        rcases x_condT hr with ⟨hf, hr⟩ | ⟨-, hr⟩
        · have hfit := a_fitc_ok hf hv b1 b2
          refine ⟨_, (show z_putf nx a b z (h, M, zv :: zx :: Z) = some (.inr (.inl (nx, zset h zx.2.toNat b zv, M, Z))) from ?_), ?_⟩
          · rw [e1]
            show (if zisO a zx.2 ∧ zfit z.toNat zv then znx nx (zset h zx.2.toNat b zv, M, Z) else none) = _
            rw [if_pos ⟨hO, hfit⟩]; rfl
          · split at hr
            · rename_i l hl
              rw [x_kN_eq] at hr
              obtain ⟨q', w1, w2, w3⟩ := a_wrK_ok (s := 0) (o := Int.ofNat b) hX hr hd hl (Nat.zero_le _) (Int.natCast_nonneg b) (Int.le_refl _) (Int.le_refl _) hv
              exact a_goq_ok w1 w2.symm w3 hL hS
            · cases hr
        · cases hr
    · cases hr
  · cases hr
theorem a_idxK_ok {γ : Type} {i : aV} {zi0 : zV} {lo hi : Int} {n : Nat} {f : Nat → Int → Option γ} {r : γ} (hr : a_idxK i lo hi f = some r) (hi0 : aR ρ n i zi0) (h1 : lo ≤ zi0.2) (h2 : zi0.2 ≤ hi) : ∃ s o, f s o = some r ∧ s ≤ n ∧ aev ρ s o = zi0.2 := by
  unfold a_idxK at hr
  rcases x_condT hr with ⟨hc, hr⟩ | ⟨-, hr⟩
  · have hc := a_ofDec hc
    exact ⟨0, lo, hr, Nat.zero_le _, by show lo = zi0.2; omega⟩
  · rw [x_kN_eq, x_kZ_eq] at hr
    exact ⟨_, _, hr, hi0.1, (aR_val hi0).symm⟩
theorem a_minL_ok {z : Int} : ∀ {l : List Int} {w : Int × Int}, a_minL l = some w → z ∈ l → w.1 ≤ z ∧ z ≤ w.2
  | [], w, h, _ => by cases h
  | a :: l, w, h, hz => by
    have h : (match a_minL l with
      | some q => some (a_min a q.1, a_max a q.2)
      | none => some (a, a)) = some w := h
    split at h
    · rename_i q hq
      cases h
      have m := a_min_ok a q.1
      have m' := a_max_ok a q.2
      rcases List.mem_cons.mp hz with e | e
      · rw [e]; exact ⟨m.1, m'.1⟩
      · have ih := a_minL_ok hq e
        exact ⟨Int.le_trans m.2.1 ih.1, Int.le_trans ih.2 m'.2.1⟩
    · rename_i hq
      cases h
      rcases List.mem_cons.mp hz with e | e
      · rw [e]; exact ⟨Int.le_refl _, Int.le_refl _⟩
      · cases l with
        | nil => cases e
        | cons b l =>
          exfalso
          have hq : (match a_minL l with
            | some q => some (a_min b q.1, a_max b q.2)
            | none => some (b, b)) = none := hq
          split at hq <;> cases hq
theorem ap_ald (hX : aOK X) (a b : Nat) (z : Int) (cs : List (Int × Nat)) : aStepOK X (22, nx, a, b, z, cs) := by
  intro ρ q L S outs h M Z hr hd hL hS
  have hr : a_ald X.1 nx a q L S = some outs := hr
  unfold a_ald at hr
  split at hr
  · rename_i i x S' _
    rcases x_condT hr with ⟨hc, hr⟩ | ⟨-, hr⟩
    · rw [Bool.and_eq_true] at hc
      obtain ⟨c0, c1⟩ := hc
      match Z, hS with
      | zi0 :: zx :: Z, ⟨hi0, hx, hS⟩ =>
        have hzx := aR_const c1 hx
        have e0 : zi0 = (0, zi0.2) := by rw [hi0.2, Nat.eq_of_beq_eq_true c0]
        rcases x_condT hr with ⟨ht, hr⟩ | ⟨-, hr⟩
        · have e1 : zx = (2, zx.2) := by rw [hx.2, Nat.eq_of_beq_eq_true ht]
          rw [← hzx] at hr
          obtain ⟨lo, hi, hr, b1, b2⟩ := a_rng_den hr hd hi0
          rcases x_condT hr with ⟨ha, hr⟩ | ⟨-, hr⟩
          · rw [Bool.and_eq_true, a_dec_eq] at ha
            have harr := a_arr_ok ha.2 b1 b2
            obtain ⟨ty, n, hsh, hcode, i0, i1⟩ := zarr_den harr
            refine ⟨_, (show z_ald X.2.1 nx a (h, M, zi0 :: zx :: Z) = some (.inr (.inl (nx, h, M, h zx.2.toNat zi0.2.toNat :: Z))) from ?_), ?_⟩
            · rw [e0, e1]
              show (if zarr a zx.2 zi0.2 then znx nx (h, M, h zx.2.toNat zi0.2.toNat :: Z) else none) = _
              rw [if_pos harr]; rfl
            · obtain ⟨s, o, hr, hs, hev⟩ := a_idxK_ok hr hi0 b1 b2
              split at hr
              · rename_i v hg
                obtain ⟨-, hv⟩ := a_oget_ok hd.2.2.1 hg
                rw [hev] at hv
                obtain ⟨w, hr, hw⟩ := a_nrmK_ok hr hd hv
                exact a_push_ok (aMk.here hr hd hw) hL hS
              · split at hr
                · rename_i l hl
                  split at hr
                  · rename_i t htt
                    rw [x_kN_eq] at hr
                    have hat := a_uniF_ok (j := zi0.2.toNat) htt (hd.2.1 _ _ hl) (by omega) (by omega)
                    obtain ⟨outs', s1, s2⟩ := a_readK_ok (s := s) (o := o) hr hd hs (by rw [hev]; exact i0) (by rw [hev]; exact hat)
                    rw [hev] at s2
                    exact (a_push_ok s2 hL hS).sub s1
                  · cases hr
                · cases hr
          · cases hr
        · rcases x_condT hr with ⟨ht, hr⟩ | ⟨-, hr⟩
          · rw [Bool.and_eq_true] at ht
            have e1 : zx = (3, zx.2) := by rw [hx.2, Nat.eq_of_beq_eq_true ht.1]
            have ha := Nat.eq_of_beq_eq_true ht.2
            rw [← hzx] at hr
            have fin : ∀ v : Int, (0 ≤ zx.2 ∧ zx.2 < 3) → 0 ≤ zi0.2 → zi0.2 < (zlen X.2.1 zx.2.toNat : Int) → v = zat X.2.1 zx.2.toNat zi0.2.toNat → z_ald X.2.1 nx a (h, M, zi0 :: zx :: Z) = some (.inr (.inl (nx, h, M, (0, v) :: Z))) := by
              intro v h1 h2 h3 hv
              rw [e0, e1]
              show (if a = 0 ∧ 0 ≤ zx.2 ∧ zx.2 < 3 ∧ 0 ≤ zi0.2 ∧ zi0.2 < (zlen X.2.1 zx.2.toNat : Int) then znx nx (h, M, (0, zat X.2.1 zx.2.toNat zi0.2.toNat) :: Z) else none) = _
              rw [if_pos ⟨ha, h1.1, h1.2, h2, h3⟩, hv]; rfl
            rcases x_condT hr with ⟨hz, hr⟩ | ⟨-, hr⟩
            · have hz := a_ofDec hz
              rcases x_condT hr with ⟨hg, hr⟩ | ⟨-, hr⟩
              · rw [Bool.and_eq_true, Bool.and_eq_true] at hg
                obtain ⟨g0, g1, g2⟩ := hg
                have g1 := a_leq_ok hd g1
                have g2 := a_leq_ok hd g2
                have e3 := aR_val hi0
                have hlen := (hd.2.2.2.2.2 g0).2
                have g1 : (0 : Int) ≤ aev ρ i.2.1 i.2.2 + 0 := g1
                have g2 : aev ρ i.2.1 i.2.2 ≤ ρ 0 + 0 + (-1) := g2
                refine ⟨_, fin (X.2.1.2 zi0.2.toNat) (by omega) (by omega) ?_ ?_, ?_⟩
                · rw [hz]
                  show zi0.2 < (X.2.1.1 : Int)
                  omega
                · rw [hz]; rfl
                · have hsc : h 1000 zi0.2.toNat = (0, X.2.1.2 zi0.2.toNat) := (hd.2.2.2.2.1 1000 _ (hX.1.2 g0 _).2).trans (hX.1.2 g0 _).1
                  rw [x_kN_eq, x_kZ_eq] at hr
                  split at hr
                  · rename_i v hg
                    obtain ⟨-, hv⟩ := a_oget_ok hd.2.2.1 hg
                    rw [← e3, hsc] at hv
                    obtain ⟨w, hr, hw⟩ := a_nrmK_ok hr hd hv
                    exact a_push_ok (aMk.here hr hd hw) hL hS
                  · obtain ⟨q', v, ρ', hf, ha, hn, g', hv⟩ := a_anyK_ok hr hd (hX.2.1 zi0.2.toNat).1 (hX.2.1 zi0.2.toNat).2
                    have hs' := aev_ag ha (o := i.2.2) hi0.1
                    have k : aMk X ρ q h (0, X.2.1.2 zi0.2.toNat) (a_push nx L S') outs := ⟨_, v, ρ', hf, ha, hn, g'.addO (e := ((1000, i.2.1, i.2.2), v)) (by show i.2.1 ≤ q'.1; have := hi0.1; omega) (by show 0 ≤ aev ρ' i.2.1 i.2.2; rw [hs', ← e3]; omega) (by show aR ρ' q'.1 v (h 1000 (aev ρ' i.2.1 i.2.2).toNat); rw [hs', ← e3, hsc]; exact hv), hv⟩
                    exact a_push_ok k hL hS
              · cases hr
            · rcases x_condT hr with ⟨hz, hr⟩ | ⟨-, hr⟩
              · rw [Bool.and_eq_true, a_dec_eq, a_dec_eq] at hz
                obtain ⟨lo, hi, hr, b1, b2⟩ := a_rng_den hr hd hi0
                rcases x_condT hr with ⟨hg, hr⟩ | ⟨-, hr⟩
                · rw [Bool.and_eq_true, a_dec_eq, a_dec_eq] at hg
                  have hg2 : hi < ((zTx zx.2.toNat).length : Int) := hg.2
                  obtain ⟨t, ht⟩ : ∃ t : Nat, zx.2.toNat = t + 1 := ⟨zx.2.toNat - 1, by omega⟩
                  have hlen : (zlen X.2.1 zx.2.toNat : Int) = ((zTx zx.2.toNat).length : Int) := by rw [ht]; rfl
                  have hat : zat X.2.1 zx.2.toNat zi0.2.toNat = (zTx zx.2.toNat).getD zi0.2.toNat 0 := by rw [ht]; rfl
                  refine ⟨_, fin ((zTx zx.2.toNat).getD zi0.2.toNat 0) ⟨by omega, hz.2⟩ (by omega) (by omega) hat.symm, ?_⟩
                  rcases x_condT hr with ⟨he, hr⟩ | ⟨-, hr⟩
                  · have he := a_ofDec he
                    rw [x_kZ_eq] at hr
                    have e4 : lo = zi0.2 := by omega
                    rw [e4] at hr
                    exact a_push_ok (aMk.here (f := a_push nx L S') (v := (0, 0, (zTx zx.2.toNat).getD zi0.2.toNat 0)) hr hd ⟨Nat.zero_le _, rfl⟩) hL hS
                  · split at hr
                    · rename_i w hw
                      have hm : (zTx zx.2.toNat).getD zi0.2.toNat 0 ∈ zTx zx.2.toNat := by
                        have hlt : zi0.2.toNat < (zTx zx.2.toNat).length := by omega
                        rw [List.getD_eq_getElem?_getD, List.getElem?_eq_getElem hlt]
                        exact List.getElem_mem hlt
                      have := a_minL_ok hw hm
                      exact a_push_ok (a_newK_ok hr hd this.1 this.2) hL hS
                    · cases hr
                · cases hr
              · cases hr
          · cases hr
    · cases hr
  · cases hr
theorem ap_ast (hX : aOK X) (a b : Nat) (z : Int) (cs : List (Int × Nat)) : aStepOK X (23, nx, a, b, z, cs) := by
  intro ρ q L S outs h M Z hr hd hL hS
  have hr : a_ast X.1 X.2.2.2.2 nx a q L S = some outs := hr
  unfold a_ast at hr
  split at hr
  · rename_i v i x S'
    rcases x_condT hr with ⟨hc, hr⟩ | ⟨-, hr⟩
    · simp only [Bool.and_eq_true, a_dec_eq] at hc
      obtain ⟨c0, c1, c2, c3, c4⟩ := hc
      match Z, hS with
      | zv :: zi0 :: zx :: Z, ⟨hv, hi0, hx, hS⟩ =>
        have hzx := aR_const c2 hx
        have e0 : zi0 = (0, zi0.2) := by rw [hi0.2, Nat.eq_of_beq_eq_true c0]
        have e1 : zx = (2, zx.2) := by rw [hx.2, Nat.eq_of_beq_eq_true c1]
        rw [← hzx] at hr
        obtain ⟨lo, hi, hr, b1, b2⟩ := a_rng_den hr hd hi0
        obtain ⟨vl, vh, hr, b3, b4⟩ := a_rng_den hr hd hv
        rcases x_condT hr with ⟨hf, hr⟩ | ⟨-, hr⟩
        · rw [Bool.and_eq_true] at hf
          have harr := a_arr_ok hf.1 b1 b2
          have hfit := a_fitc_ok hf.2 hv b3 b4
          obtain ⟨ty, n, hsh, hcode, i0, i1⟩ := zarr_den harr
          have hlo : 0 ≤ lo := by
            have ha := hf.1
            unfold a_arr at ha
            split at ha
            · rw [Bool.and_eq_true, Bool.and_eq_true, a_dec_eq] at ha
              exact ha.2.1
            · cases ha
          refine ⟨_, (show z_ast nx a (h, M, zv :: zi0 :: zx :: Z) = some (.inr (.inl (nx, zset h zx.2.toNat zi0.2.toNat zv, M, Z))) from ?_), ?_⟩
          · rw [e0, e1]
            show (if zarr a zx.2 zi0.2 ∧ zfit a zv ∧ a < 4 then znx nx (zset h zx.2.toNat zi0.2.toNat zv, M, Z) else none) = _
            rw [if_pos ⟨harr, hfit, Nat.le_of_ble_eq_true c4⟩]; rfl
          · split at hr
            · rename_i l hl
              obtain ⟨s, o, hr, hs, hev⟩ := a_idxK_ok hr hi0 b1 b2
              rw [x_kN_eq] at hr
              obtain ⟨q', w1, w2, w3⟩ := a_wrK_ok (s := s) (o := o) hX hr hd hl hs hlo (by rw [hev]; exact b1) (by rw [hev]; exact b2) hv
              rw [hev] at w3
              exact a_goq_ok w1 w2.symm w3 hL hS
            · cases hr
        · cases hr
    · cases hr
  · cases hr
end AI2
