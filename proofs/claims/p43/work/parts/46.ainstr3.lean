/-! THE WATCHER'S INSTRUCTIONS HOLD, third part -/
section AI3
variable {X : aX} {ρ : Nat → Int} {q : aQ} {L : aL} {S : List aV} {h : zH} {M : zL} {Z : List zV} {outs : List aOut} {nx : Nat}
theorem ap_alen (a b : Nat) (z : Int) (cs : List (Int × Nat)) : aStepOK X (24, nx, a, b, z, cs) := by
  intro ρ q L S outs h M Z hr hd hL hS
  have hr : a_alen X.1 nx q L S = some outs := hr
  unfold a_alen at hr
  split at hr
  · rename_i x S' _
    rcases x_condT hr with ⟨c1, hr⟩ | ⟨-, hr⟩
    · match Z, hS with
      | zx :: Z, ⟨hx, hS⟩ =>
        have hzx := aR_const c1 hx
        rw [← hzx] at hr
        rcases x_condT hr with ⟨ht, hr⟩ | ⟨-, hr⟩
        · have e1 : zx = (2, zx.2) := by rw [hx.2, Nat.eq_of_beq_eq_true ht]
          split at hr
          · rename_i w hw
            rw [a_shp_eq] at hw
            rw [x_kN_eq] at hr
            refine ⟨_, (show z_alen X.2.1 nx (h, M, zx :: Z) = some (.inr (.inl (nx, h, M, (0, (w.2 : Int)) :: Z))) from ?_), a_push_ok (aMk.here (f := a_push nx L S') (v := (0, 0, Int.ofNat w.2)) hr hd ⟨Nat.zero_le _, rfl⟩) hL hS⟩
            rw [e1]
            show (match zShape[zx.2.toNat]? with
              | some (.inl q) => znx nx (h, M, (0, (q.2 : Int)) :: Z)
              | _ => none) = _
            rw [hw]; rfl
          · cases hr
        · rcases x_condT hr with ⟨ht, hr⟩ | ⟨-, hr⟩
          · have e1 : zx = (3, zx.2) := by rw [hx.2, Nat.eq_of_beq_eq_true ht]
            have fin : ∀ v : Int, (0 ≤ zx.2 ∧ zx.2 < 3) → (zlen X.2.1 zx.2.toNat : Int) = v → z_alen X.2.1 nx (h, M, zx :: Z) = some (.inr (.inl (nx, h, M, (0, v) :: Z))) := by
              intro v h1 hv
              rw [e1]
              show (if 0 ≤ zx.2 ∧ zx.2 < 3 then znx nx (h, M, (0, (zlen X.2.1 zx.2.toNat : Int)) :: Z) else none) = _
              rw [if_pos h1, hv]; rfl
            rcases x_condT hr with ⟨hz, hr⟩ | ⟨-, hr⟩
            · have hz := a_ofDec hz
              rcases x_condT hr with ⟨hg, hr⟩ | ⟨-, hr⟩
              · obtain ⟨g1, g2⟩ := hd.2.2.2.2.2 hg
                refine ⟨_, fin (ρ 0) (by omega) (by rw [hz, g2]; rfl), a_push_ok (aMk.here (f := a_push nx L S') (v := (0, 1, 0)) hr hd ⟨g1, ?_⟩) hL hS⟩
                show (0, ρ 0) = (0, ρ 0 + 0)
                rw [Int.add_zero]
              · cases hr
            · rcases x_condT hr with ⟨hz, hr⟩ | ⟨-, hr⟩
              · rw [Bool.and_eq_true, a_dec_eq, a_dec_eq] at hz
                refine ⟨_, fin 5 ⟨by omega, hz.2⟩ ?_, a_push_ok (aMk.here (f := a_push nx L S') (v := (0, 0, 5)) hr hd ⟨Nat.zero_le _, rfl⟩) hL hS⟩
                have h12 : zx.2 = 1 ∨ zx.2 = 2 := by omega
                rcases h12 with e | e
                · rw [e]; rfl
                · rw [e]; rfl
              · cases hr
          · cases hr
    · cases hr
  · cases hr
theorem ap_slen (a b : Nat) (z : Int) (cs : List (Int × Nat)) : aStepOK X (25, nx, a, b, z, cs) := by
  intro ρ q L S outs h M Z hr hd hL hS
  have hr : a_slen nx q L S = some outs := hr
  unfold a_slen at hr
  split at hr
  · rename_i x S' _
    rcases x_condT hr with ⟨hc, hr⟩ | ⟨-, hr⟩
    · rw [Bool.and_eq_true, Bool.and_eq_true] at hc
      obtain ⟨c0, c1, c2⟩ := hc
      match Z, hS with
      | zx :: Z, ⟨hx, hS⟩ =>
        have hzx := aR_const c1 hx
        have e1 : zx = (3, zx.2) := by rw [hx.2, Nat.eq_of_beq_eq_true c0]
        have hsum : zsum Z ≤ 8 := by rw [a_sum_ok hS]; exact Nat.le_of_ble_eq_true c2
        rw [← hzx] at hr
        have fin : ∀ v : Int, (zx.2 = 3 ∨ zx.2 = 4) → (zlen X.2.1 zx.2.toNat : Int) = v → z_slen X.2.1 nx (h, M, zx :: Z) = some (.inr (.inl (nx, h, M, (0, v) :: Z))) := by
          intro v h1 hv
          rw [e1]
          show (if (zx.2 = 3 ∨ zx.2 = 4) ∧ zsum Z ≤ 8 then znx nx (h, M, (0, (zlen X.2.1 zx.2.toNat : Int)) :: Z) else none) = _
          rw [if_pos ⟨h1, hsum⟩, hv]; rfl
        rcases x_condT hr with ⟨hz, hr⟩ | ⟨-, hr⟩
        · have hz := a_ofDec hz
          refine ⟨_, fin (Int.ofNat (zTx 3).length) (Or.inl hz) (by rw [hz]; rfl), a_push_ok (aMk.here (f := a_push nx L S') (v := (0, 0, Int.ofNat (zTx 3).length)) hr hd ⟨Nat.zero_le _, rfl⟩) hL hS⟩
        · rcases x_condT hr with ⟨hz, hr⟩ | ⟨-, hr⟩
          · have hz := a_ofDec hz
            refine ⟨_, fin 5 (Or.inr hz) (by rw [hz]; rfl), a_push_ok (aMk.here (f := a_push nx L S') (v := (0, 0, 5)) hr hd ⟨Nat.zero_le _, rfl⟩) hL hS⟩
          · cases hr
    · cases hr
  · cases hr
theorem a_textR : (∀ z ∈ zTx 3, (32 : Int) ≤ z ∧ z ≤ 122) ∧ (∀ z ∈ zTx 4, (32 : Int) ≤ z ∧ z ≤ 122) := by decide +kernel
theorem ap_char (a b : Nat) (z : Int) (cs : List (Int × Nat)) : aStepOK X (26, nx, a, b, z, cs) := by
  intro ρ q L S outs h M Z hr hd hL hS
  have hr : a_char nx q L S = some outs := hr
  unfold a_char at hr
  split at hr
  · rename_i i x S' _
    rcases x_condT hr with ⟨hc, hr⟩ | ⟨-, hr⟩
    · simp only [Bool.and_eq_true, Bool.or_eq_true, a_dec_eq] at hc
      obtain ⟨c0, c1, c2, c3, c4⟩ := hc
      match Z, hS with
      | zi0 :: zx :: Z, ⟨hi0, hx, hS⟩ =>
        have hzx := aR_const c2 hx
        have e0 : zi0 = (0, zi0.2) := by rw [hi0.2, Nat.eq_of_beq_eq_true c0]
        have e1 : zx = (3, zx.2) := by rw [hx.2, Nat.eq_of_beq_eq_true c1]
        have hsum : zsum Z ≤ 8 := by rw [a_sum_ok hS]; exact Nat.le_of_ble_eq_true c3
        rw [← hzx] at hr c4
        obtain ⟨lo, hi, hr, b1, b2⟩ := a_rng_den hr hd hi0
        rcases x_condT hr with ⟨hg, hr⟩ | ⟨-, hr⟩
        · rw [Bool.and_eq_true, a_dec_eq, a_dec_eq] at hg
          have hg2 : hi < ((zTx zx.2.toNat).length : Int) := hg.2
          have hl : zlen X.2.1 zx.2.toNat = (zTx zx.2.toNat).length := by rcases c4 with e | e <;> rw [e] <;> rfl
          have hat : zat X.2.1 zx.2.toNat zi0.2.toNat = (zTx zx.2.toNat).getD zi0.2.toNat 0 := by rcases c4 with e | e <;> rw [e] <;> rfl
          have hm : (zTx zx.2.toNat).getD zi0.2.toNat 0 ∈ zTx zx.2.toNat := by
            have hlt : zi0.2.toNat < (zTx zx.2.toNat).length := by omega
            rw [List.getD_eq_getElem?_getD, List.getElem?_eq_getElem hlt]
            exact List.getElem_mem hlt
          have hb : (32 : Int) ≤ (zTx zx.2.toNat).getD zi0.2.toNat 0 ∧ (zTx zx.2.toNat).getD zi0.2.toNat 0 ≤ 122 := by
            rcases c4 with e | e
            · have ht : zx.2.toNat = 3 := by omega
              rw [ht] at hm ⊢; exact a_textR.1 _ hm
            · have ht : zx.2.toNat = 4 := by omega
              rw [ht] at hm ⊢; exact a_textR.2 _ hm
          refine ⟨_, (show z_char X.2.1 nx (h, M, zi0 :: zx :: Z) = some (.inr (.inl (nx, h, M, (0, (zTx zx.2.toNat).getD zi0.2.toNat 0) :: Z))) from ?_), a_push_ok (a_newK_ok hr hd hb.1 hb.2) hL hS⟩
          rw [e0, e1]
          show (if (zx.2 = 3 ∨ zx.2 = 4) ∧ 0 ≤ zi0.2 ∧ zi0.2 < (zlen X.2.1 zx.2.toNat : Int) ∧ zsum Z ≤ 8 then znx nx (h, M, (0, zat X.2.1 zx.2.toNat zi0.2.toNat) :: Z) else none) = _
          rw [if_pos ⟨c4, by omega, by rw [hl]; omega, hsum⟩, hat]; rfl
        · cases hr
    · cases hr
  · cases hr
theorem ap_math (a b : Nat) (z : Int) (cs : List (Int × Nat)) : aStepOK X (27, nx, a, b, z, cs) := by
  intro ρ q L S outs h M Z hr hd hL hS
  have hr : a_math nx b q L S = some outs := hr
  unfold a_math at hr
  match b, hr with
  | 0, hr =>
    obtain ⟨x, y, S', zx, zy, Z', hr, rfl, hx, hy, hS⟩ := a_two_ok hr hS
    rcases x_condT hr with ⟨hc, hr⟩ | ⟨-, hr⟩
    · have hsum : zsum Z' ≤ 8 := by rw [a_sum_ok hS]; exact Nat.le_of_ble_eq_true hc
      obtain ⟨lx, hxx, hr, b1, b2⟩ := a_rng_den hr hd hx
      obtain ⟨ly, hyy, hr, b3, b4⟩ := a_rng_den hr hd hy
      have b1 : lx ≤ zx := b1
      have b2 : zx ≤ hxx := b2
      have b3 : ly ≤ zy := b3
      have b4 : zy ≤ hyy := b4
      refine ⟨_, (show (if zsum Z' ≤ 8 then znx nx (h, M, (0, zm32 0 zx zy) :: Z') else none) = _ from if_pos hsum), a_push_ok (a_newK_ok hr hd ?_ ?_) hL hS⟩
      · have m := a_max_ok lx ly
        show a_max lx ly ≤ if zx < zy then zy else zx
        split <;> omega
      · have m := a_max_ok hxx hyy
        show (if zx < zy then zy else zx) ≤ a_max hxx hyy
        split <;> omega
    · cases hr
  | 1, hr =>
    obtain ⟨x, y, S', zx, zy, Z', hr, rfl, hx, hy, hS⟩ := a_two_ok hr hS
    rcases x_condT hr with ⟨hc, hr⟩ | ⟨-, hr⟩
    · have hsum : zsum Z' ≤ 8 := by rw [a_sum_ok hS]; exact Nat.le_of_ble_eq_true hc
      obtain ⟨lx, hxx, hr, b1, b2⟩ := a_rng_den hr hd hx
      obtain ⟨ly, hyy, hr, b3, b4⟩ := a_rng_den hr hd hy
      have b1 : lx ≤ zx := b1
      have b2 : zx ≤ hxx := b2
      have b3 : ly ≤ zy := b3
      have b4 : zy ≤ hyy := b4
      refine ⟨_, (show (if zsum Z' ≤ 8 then znx nx (h, M, (0, zm32 1 zx zy) :: Z') else none) = _ from if_pos hsum), a_push_ok (a_newK_ok hr hd ?_ ?_) hL hS⟩
      · have m := a_min_ok lx ly
        show a_min lx ly ≤ if zy < zx then zy else zx
        split <;> omega
      · have m := a_min_ok hxx hyy
        show (if zy < zx then zy else zx) ≤ a_min hxx hyy
        split <;> omega
    · cases hr
  | 2, hr =>
    obtain ⟨x, y, S', zx, zy, Z', hr, rfl, hx, hy, hS⟩ := a_two_ok hr hS
    rcases x_condT hr with ⟨hc, hr⟩ | ⟨-, hr⟩
    · have hsum : zsum Z' ≤ 8 := by rw [a_sum_ok hS]; exact Nat.le_of_ble_eq_true hc
      obtain ⟨lx, hxx, hr, b1, b2⟩ := a_rng_den hr hd hx
      obtain ⟨ly, hyy, hr, b3, b4⟩ := a_rng_den hr hd hy
      have b1 : lx ≤ zx := b1
      have b2 : zx ≤ hxx := b2
      have b3 : ly ≤ zy := b3
      have b4 : zy ≤ hyy := b4
      refine ⟨_, (show (if zsum Z' ≤ 8 then znx nx (h, M, (1, zm32 1 zx zy) :: Z') else none) = _ from if_pos hsum), a_push_ok (a_newK_ok hr hd ?_ ?_) hL hS⟩
      · have m := a_min_ok lx ly
        show a_min lx ly ≤ if zy < zx then zy else zx
        split <;> omega
      · have m := a_min_ok hxx hyy
        show (if zy < zx then zy else zx) ≤ a_min hxx hyy
        split <;> omega
    · cases hr
  | 3, hr =>
    obtain ⟨x, S', zx, Z', hr, rfl, hx, hS⟩ := a_one_ok hr hS
    rcases x_condT hr with ⟨hc, hr⟩ | ⟨-, hr⟩
    · have hsum : zsum Z' ≤ 8 := by rw [a_sum_ok hS]; exact Nat.le_of_ble_eq_true hc
      obtain ⟨lx, hxx, hr, b1, b2⟩ := a_rng_den hr hd hx
      have b1 : lx ≤ zx := b1
      have b2 : zx ≤ hxx := b2
      refine ⟨_, (show (if zsum Z' ≤ 8 then znx nx (h, M, (1, if 0 < zx then zx else (-Int64.ofInt zx).toInt) :: Z') else none) = _ from if_pos hsum), ?_⟩
      rcases x_condT hr with ⟨hd0, hr⟩ | ⟨-, hr⟩
      · have hd0 := a_ofDec hd0
        refine a_push_ok (aMk.here (f := a_push nx L S') (v := x) hr hd ?_) hL hS
        have e : (if 0 < zx then zx else (-Int64.ofInt zx).toInt) = zx := by
          by_cases h0 : 0 < zx
          · rw [if_pos h0]
          · have hz : zx = 0 := by omega
            rw [if_neg h0, hz]; rfl
        rw [e]
        exact hx
      · rcases x_condT hr with ⟨hd1, hr⟩ | ⟨-, hr⟩
        · rw [Bool.and_eq_true, a_dec_eq, a_dec_eq] at hd1
          have m := a_max_ok (-lx) hxx
          have h1 : (-9223372036854775808 : Int) < lx := hd1.1
          have h2 : hxx ≤ (9223372036854775807 : Int) := hd1.2
          have key : 0 < zx ∨ (-Int64.ofInt zx).toInt = -zx := by
            rw [← Int64.ofInt_neg]
            by_cases h0 : 0 < zx
            · exact Or.inl h0
            · exact Or.inr (a64of (by show (-9223372036854775808 : Int) ≤ -zx; omega) (by show -zx ≤ (9223372036854775807 : Int); omega))
          refine a_push_ok (a_newK_ok hr hd ?_ ?_) hL hS
          · by_cases h0 : 0 < zx
            · rw [if_pos h0]; omega
            · rw [if_neg h0, key.resolve_left h0]; omega
          · by_cases h0 : 0 < zx
            · rw [if_pos h0]; omega
            · rw [if_neg h0, key.resolve_left h0]; omega
        · rcases x_condT hr with ⟨hin, hr⟩ | ⟨-, hr⟩
          · have c := a_in_ok hin
            have hz64 : a_lo 1 ≤ (if 0 < zx then zx else (-Int64.ofInt zx).toInt) ∧ (if 0 < zx then zx else (-Int64.ofInt zx).toInt) ≤ a_hi 1 := by
              by_cases h0 : 0 < zx
              · rw [if_pos h0]; omega
              · rw [if_neg h0]; exact a64 _
            exact a_push_ok (a_anyK_ok hr hd hz64.1 hz64.2) hL hS
          · cases hr
    · cases hr
  | b + 4, hr => cases hr
theorem a_accsT {g : Nat → zV} {z : Nat → zV} {t : Nat} {vl vh lo hi : Int} (hz : ∀ k : Nat, lo ≤ (k : Int) → (k : Int) ≤ hi → (z k).1 = t ∧ vl ≤ (z k).2 ∧ (z k).2 ≤ vh) {g' : Nat → zV} (h1 : ∀ k : Nat, lo ≤ (k : Int) → (k : Int) ≤ hi → g' k = z k ∨ g' k = g k) (h2 : ∀ k : Nat, ¬ (lo ≤ (k : Int) ∧ (k : Int) ≤ hi) → g' k = g k) : ∀ {l : List (Nat × aT)} {p : Nat}, a_accs lo hi (t, 0, 0) vl vh l (p : Int) = true → atyOK g l p → atyOK g' l p
  | [], _, _, _ => trivial
  | s :: l, p, h, ⟨ha, hl⟩ => by
    have h : cond (@decide (hi < (p : Int)) (a_decLt _ _)) true (a_bZ ((p : Int) + Int.ofNat s.1) (fun p' => (@decide (p' ≤ lo) (a_decLe _ _) || a_acc s.2 (t, 0, 0) vl vh) && a_accs lo hi (t, 0, 0) vl vh l p')) = true := h
    cases hb : @decide (hi < (p : Int)) (a_decLt _ _) with
    | true =>
      have hb := a_ofDec hb
      exact atyOK_congr (l := s :: l) (fun j hj => h2 j (by omega)) ⟨ha, hl⟩
    | false =>
    rw [hb, cond_false, a_bZ_eq, Bool.and_eq_true, Bool.or_eq_true, a_dec_eq] at h
    refine ⟨fun j j1 j2 => ?_, a_accsT hz h1 h2 h.2 hl⟩
    by_cases hj : lo ≤ (j : Int) ∧ (j : Int) ≤ hi
    · rcases h1 j hj.1 hj.2 with e | e
      · rw [e]
        obtain ⟨z1, z2, z3⟩ := hz j hj.1 hj.2
        rcases h.1 with e | e
        · have e : ((p + s.1 : Nat) : Int) ≤ lo := e
          omega
        · exact a_acc_ok e z1 z2 z3
      · rw [e]; exact ha j j1 j2
    · rw [h2 j hj]; exact ha j j1 j2
theorem a_accsCT {g : Nat → zV} {z : Nat → zV} {t : Nat} {vl vh : Int} {lo hi : Nat} (hz : ∀ k : Nat, lo ≤ k → k ≤ hi → (z k).1 = t ∧ vl ≤ (z k).2 ∧ (z k).2 ≤ vh) {g' : Nat → zV} (h1 : ∀ k : Nat, lo ≤ k → k ≤ hi → g' k = z k ∨ g' k = g k) (h2 : ∀ k : Nat, ¬ (lo ≤ k ∧ k ≤ hi) → g' k = g k) : ∀ {l : aTc} {p : Nat}, a_accsC lo hi (t, 0, 0) vl vh l p = true → atyC g l p → atyC g' l p
  | [], _, _, _ => trivial
  | s :: l, p, h, ⟨ha, hw, hl⟩ => by
    have h : cond (Nat.blt hi p) true (a_bN (p + s.1) (fun p' => (Nat.ble p' lo || a_accsN lo hi (t, 0, 0) vl vh s.2 p) && a_accsC lo hi (t, 0, 0) vl vh l p')) = true := h
    cases hb : Nat.blt hi p with
    | true =>
      have hb : hi + 1 ≤ p := Nat.le_of_ble_eq_true hb
      exact atyC_congr (l := s :: l) (fun j hj => h2 j (by omega)) ⟨ha, hw, hl⟩
    | false =>
    rw [hb, cond_false, a_bN_eq, Bool.and_eq_true, Bool.or_eq_true] at h
    refine ⟨?_, hw, a_accsCT hz h1 h2 h.2 hl⟩
    rcases h.1 with e | e
    · have e := Nat.le_of_ble_eq_true e
      exact atyOK_in (fun j j1 j2 => h2 j (by omega)) ha
    · rw [a_accsN_eq] at e
      exact a_accsT (lo := (lo : Int)) (hi := (hi : Int)) (fun k a b => hz k (by omega) (by omega)) (fun k a b => h1 k (by omega) (by omega)) (fun k c => h2 k (fun d => c (by omega))) e ha
theorem a_accsFT {g : Nat → zV} {z : Nat → zV} {t : Nat} {vl vh lo hi : Int} (hz : ∀ k : Nat, lo ≤ (k : Int) → (k : Int) ≤ hi → (z k).1 = t ∧ vl ≤ (z k).2 ∧ (z k).2 ≤ vh) {g' : Nat → zV} (h1 : ∀ k : Nat, lo ≤ (k : Int) → (k : Int) ≤ hi → g' k = z k ∨ g' k = g k) (h2 : ∀ k : Nat, ¬ (lo ≤ (k : Int) ∧ (k : Int) ≤ hi) → g' k = g k) {l : aTc} (h : a_accsF lo hi (t, 0, 0) vl vh l = true) (hl : atyC g l 0) : atyC g' l 0 := by
  unfold a_accsF at h
  by_cases c : 0 ≤ hi
  · rw [a_decT c, cond_true] at h
    cases h2' : @decide (0 ≤ lo) (a_decLe _ _) with
    | true =>
      have h0 := a_ofDec h2'
      rw [h2', cond_true, a_bN_eq, a_bN_eq] at h
      exact a_accsCT (fun k a b => hz k (by omega) (by omega)) (fun k a b => h1 k (by omega) (by omega)) (fun k c => h2 k (fun d => c (by omega))) h hl
    | false =>
      rw [h2'] at h
      cases h
  · exact atyC_congr (fun j _ => h2 j (by omega)) hl
theorem a_okeepR_ok {E : aB} {n : Nat} (he : ∀ x ∈ E, x.1 < n ∧ x.2.1 ≤ ρ x.1 ∧ ρ x.1 ≤ x.2.2) {r : Nat} {lo hi : Int} {e : (Nat × Nat × Int) × aV} (hk : a_okeepR E r lo hi e = true) : e.1.1 ≠ r ∨ aev ρ e.1.2.1 e.1.2.2 < lo ∨ hi < aev ρ e.1.2.1 e.1.2.2 := by
  unfold a_okeepR at hk
  rw [Bool.or_eq_true] at hk
  rcases hk with hk | hk
  · left
    intro e1
    rw [e1, Nat.beq_refl] at hk
    cases hk
  · right
    split at hk
    · rename_i b hb
      obtain ⟨l, u, hf, h1, h2⟩ := a_rngK_ok (ρ := ρ) hb he
      have hf := Option.some.inj hf
      rw [hk, Bool.or_eq_true, a_dec_eq, a_dec_eq] at hf
      have h1 : l ≤ aev ρ e.1.2.1 e.1.2.2 := h1
      have h2 : aev ρ e.1.2.1 e.1.2.2 ≤ u := h2
      omega
    · cases hk
theorem a_carryK_eq {β : Type} {r0 r1 : Nat} {sl dl nl : Int} : ∀ {O : aO} {f : aO → Option β}, a_carryK r0 r1 sl dl nl O f = f (a_carry r0 r1 sl dl nl O)
  | [], f => rfl
  | e :: O, f => by
    have h : a_carryK r0 r1 sl dl nl (e :: O) f = a_carryK r0 r1 sl dl nl O (fun l => cond (Nat.beq e.1.1 r0 && (Nat.beq e.1.2.1 0 && (@decide (sl ≤ e.1.2.2) (a_decLe _ _) && @decide (e.1.2.2 < sl + nl) (a_decLt _ _)))) (x_kZ (e.1.2.2 - sl + dl) (fun o => f (((r1, 0, o), e.2) :: l))) (f l)) := rfl
    rw [h, a_carryK_eq, x_kZ_eq]
    show _ = f (cond (Nat.beq e.1.1 r0 && (Nat.beq e.1.2.1 0 && (@decide (sl ≤ e.1.2.2) (a_decLe _ _) && @decide (e.1.2.2 < sl + nl) (a_decLt _ _)))) (((r1, 0, e.1.2.2 - sl + dl), e.2) :: a_carry r0 r1 sl dl nl O) (a_carry r0 r1 sl dl nl O))
    cases (Nat.beq e.1.1 r0 && (Nat.beq e.1.2.1 0 && (@decide (sl ≤ e.1.2.2) (a_decLe _ _) && @decide (e.1.2.2 < sl + nl) (a_decLt _ _)))) <;> rfl
theorem a_carry_mem {r0 r1 : Nat} {sl dl nl : Int} {x : (Nat × Nat × Int) × aV} : ∀ {O : aO}, x ∈ a_carry r0 r1 sl dl nl O → ∃ e ∈ O, e.1.1 = r0 ∧ e.1.2.1 = 0 ∧ sl ≤ e.1.2.2 ∧ e.1.2.2 < sl + nl ∧ x = ((r1, 0, e.1.2.2 - sl + dl), e.2)
  | [], h => absurd h List.not_mem_nil
  | e :: O, h => by
    have h : x ∈ cond (Nat.beq e.1.1 r0 && (Nat.beq e.1.2.1 0 && (@decide (sl ≤ e.1.2.2) (a_decLe _ _) && @decide (e.1.2.2 < sl + nl) (a_decLt _ _)))) (((r1, 0, e.1.2.2 - sl + dl), e.2) :: a_carry r0 r1 sl dl nl O) (a_carry r0 r1 sl dl nl O) := h
    cases hb : (Nat.beq e.1.1 r0 && (Nat.beq e.1.2.1 0 && (@decide (sl ≤ e.1.2.2) (a_decLe _ _) && @decide (e.1.2.2 < sl + nl) (a_decLt _ _)))) with
    | false =>
      rw [hb] at h
      obtain ⟨e', h1, h2⟩ := a_carry_mem (O := O) h
      exact ⟨e', List.mem_cons_of_mem _ h1, h2⟩
    | true =>
      rw [hb] at h
      simp only [Bool.and_eq_true, a_dec_eq] at hb
      rcases List.mem_cons.mp h with k | k
      · exact ⟨e, List.mem_cons_self, Nat.eq_of_beq_eq_true hb.1, Nat.eq_of_beq_eq_true hb.2.1, hb.2.2.1, hb.2.2.2, k⟩
      · obtain ⟨e', h1, h2⟩ := a_carry_mem (O := O) k
        exact ⟨e', List.mem_cons_of_mem _ h1, h2⟩
theorem ap_copy (hX : aOK X) (a b : Nat) (z : Int) (cs : List (Int × Nat)) : aStepOK X (28, nx, a, b, z, cs) := by
  intro ρ q L S outs h M Z hr hd hL hS
  have hr : a_copy X.1 X.2.2.2.2 nx a q L S = some outs := hr
  unfold a_copy at hr
  split at hr
  · rename_i n dp x1 sp x0 S' _
    rcases x_condT hr with ⟨hc, hr⟩ | ⟨-, hr⟩
    · simp only [Bool.and_eq_true, a_dec_eq] at hc
      obtain ⟨c1, c2, c3, c4, c5, c6, c7, c8, c9, c10, c11⟩ := hc
      match Z, hS with
      | zn :: zd :: z1 :: zs :: z0 :: Z, ⟨hn, hdp, hx1, hsp, hx0, hS⟩ =>
        have e1 : zn = (0, zn.2) := by rw [hn.2, Nat.eq_of_beq_eq_true c1]
        have e2 : zd = (0, zd.2) := by rw [hdp.2, Nat.eq_of_beq_eq_true c2]
        have e3 : zs = (0, zs.2) := by rw [hsp.2, Nat.eq_of_beq_eq_true c3]
        have e4 : z1 = (2, z1.2) := by rw [hx1.2, Nat.eq_of_beq_eq_true c4]
        have e5 : z0 = (2, z0.2) := by rw [hx0.2, Nat.eq_of_beq_eq_true c5]
        have v1 := aR_const c6 hx1
        have v0 := aR_const c7 hx0
        have hsum : zsum Z ≤ 8 := by rw [a_sum_ok hS]; exact Nat.le_of_ble_eq_true c8
        have c9 : a < 2 := Nat.le_of_ble_eq_true c9
        rw [← v1, ← v0] at hr
        rw [← v1] at c10
        rw [← v0] at c11
        obtain ⟨nl, nh, hr, n1, n2⟩ := a_rng_den hr hd hn
        obtain ⟨dl, dh, hr, d1, d2⟩ := a_rng_den hr hd hdp
        obtain ⟨sl, sh, hr, s1, s2⟩ := a_rng_den hr hd hsp
        split at hr
        · rename_i w0 w1 hw0 hw1
          rw [a_shp_eq] at hw0 hw1
          rcases x_condT hr with ⟨hg, hr⟩ | ⟨-, hr⟩
          · simp only [Bool.and_eq_true, Bool.or_eq_true, a_dec_eq] at hg
            obtain ⟨g1, g2, g3, g4, g5, g6, g7⟩ := hg
            have lim : ∀ (x : aV) (zx : zV) (lx hx : Int) (w : Nat), aR ρ q.1 x zx → zx.2 ≤ hx → (hx + nh ≤ Int.ofNat w ∨ a_ent q.2.1 q.2.2.1 3 (a_less (a_tm 1 n) (a_tm (-1) x)) (Int.ofNat w - n.2.2 - x.2.2) = true) → zx.2 + zn.2 ≤ (w : Int) := by
              intro x zx lx hx w hR hle hor
              rcases hor with hor | hor
              · have hor : hx + nh ≤ (w : Int) := hor
                omega
              · have k := a_ent_ok hd.1 3 hor
                rw [a_less_ok] at k
                have l1 := alin_tm ρ 1 n
                have l2 := alin_tm ρ (-1) x
                rw [← aR_val hn] at l1
                rw [← aR_val hR] at l2
                have k : alin ρ (a_tm 1 n) - alin ρ (a_tm (-1) x) ≤ (w : Int) - n.2.2 - x.2.2 := k
                omega
            have k0 := lim sp zs sl sh w0.2 hsp s2 g6
            have k1 := lim dp zd dl dh w1.2 hdp d2 g7
            have r0 : zroom a z0.2 zs.2 zn.2 = true := by
              unfold zroom
              rw [hw0]
              show (zcode w0.1 == a && (decide (0 ≤ zs.2) && (decide (0 ≤ zn.2) && decide (zs.2 + zn.2 ≤ (w0.2 : Int))))) = true
              rw [Nat.eq_of_beq_eq_true g1, beq_self_eq_true, a_decT (show 0 ≤ zs.2 by omega), a_decT (show 0 ≤ zn.2 by omega), a_decT k0]; rfl
            have r1 : zroom a z1.2 zd.2 zn.2 = true := by
              unfold zroom
              rw [hw1]
              show (zcode w1.1 == a && (decide (0 ≤ zd.2) && (decide (0 ≤ zn.2) && decide (zd.2 + zn.2 ≤ (w1.2 : Int))))) = true
              rw [Nat.eq_of_beq_eq_true g2, beq_self_eq_true, a_decT (show 0 ≤ zd.2 by omega), a_decT (show 0 ≤ zn.2 by omega), a_decT k1]; rfl
            refine ⟨_, (show z_copy nx a (h, M, zn :: zd :: z1 :: zs :: z0 :: Z) = some (.inr (.inl (nx, zcopy h z0.2.toNat zs.2.toNat z1.2.toNat zd.2.toNat zn.2.toNat, M, Z))) from ?_), ?_⟩
            · rw [e1, e2, e3, e4, e5]
              show (if zroom a z0.2 zs.2 zn.2 ∧ zroom a z1.2 zd.2 zn.2 ∧ zsum Z ≤ 8 ∧ a < 2 then znx nx (zcopy h z0.2.toNat zs.2.toNat z1.2.toNat zd.2.toNat zn.2.toNat, M, Z) else none) = _
              rw [if_pos ⟨r0, r1, hsum, c9⟩]; rfl
            · rcases x_condT hr with ⟨hself, hr⟩ | ⟨-, hr⟩
              · simp only [Bool.and_eq_true, a_dec_eq] at hself
                obtain ⟨u1, u2, u3, u4⟩ := hself
                have u1 := Nat.eq_of_beq_eq_true u1
                have e0 : zcopy h z0.2.toNat zs.2.toNat z1.2.toNat zd.2.toNat zn.2.toNat = h := by
                  funext a' k
                  show (if a' = z1.2.toNat ∧ zd.2.toNat ≤ k ∧ k < zd.2.toNat + zn.2.toNat then h z0.2.toNat (zs.2.toNat + (k - zd.2.toNat)) else h a' k) = h a' k
                  by_cases hk : a' = z1.2.toNat ∧ zd.2.toNat ≤ k ∧ k < zd.2.toNat + zn.2.toNat
                  · rw [if_pos hk, hk.1, u1, show zs.2.toNat + (k - zd.2.toNat) = k by omega]
                  · rw [if_neg hk]
                rw [e0]
                exact a_go_ok hr (Nat.le_refl _) ⟨hd, hL, hS⟩
              split at hr
              · rename_i l0 l1 hl0 hl1
                rw [x_kZ_eq, x_kN_eq] at hr
                split at hr
                · rename_i t ht
                  rcases x_condT hr with ⟨hf, hr⟩ | ⟨-, hr⟩
                  · rw [Bool.and_eq_true, Bool.and_eq_true] at hf
                    obtain ⟨f1, f2, f3⟩ := hf
                    have f1 : t.1 < 2 := Nat.le_of_ble_eq_true f1
                    rw [x_spine_eq, x_spine_eq] at hr
                    have mh := a_min_ok (dh + nh) (Int.ofNat w1.2)
                    have ms := a_min_ok (sh + nh) (Int.ofNat w0.2)
                    have mh3 : a_min (dh + nh) (Int.ofNat w1.2) = dh + nh ∨ a_min (dh + nh) (Int.ofNat w1.2) = (w1.2 : Int) := mh.2.2
                    have ms3 : a_min (sh + nh) (Int.ofNat w0.2) = sh + nh ∨ a_min (sh + nh) (Int.ofNat w0.2) = (w0.2 : Int) := ms.2.2
                    obtain ⟨hi, hhi⟩ : ∃ hi, hi = a_min (dh + nh) (Int.ofNat w1.2) - 1 := ⟨_, rfl⟩
                    rw [← hhi] at hr f2 f3
                    obtain ⟨shi, hshi⟩ : ∃ shi, shi = a_min (sh + nh) (Int.ofNat w0.2) - 1 := ⟨_, rfl⟩
                    rw [← hshi] at ht
                    -- the places that are written
                    have inD : ∀ k : Nat, zd.2.toNat ≤ k → k < zd.2.toNat + zn.2.toNat → dl ≤ (k : Int) ∧ (k : Int) ≤ hi := fun k k1 k2 => ⟨by omega, by omega⟩
                    have src : ∀ k : Nat, zd.2.toNat ≤ k → k < zd.2.toNat + zn.2.toNat → atin t (h z0.2.toNat (zs.2.toNat + (k - zd.2.toNat))) := fun k k1 k2 =>
                      a_uniF_ok (j := zs.2.toNat + (k - zd.2.toNat)) ht (hd.2.1 _ _ hl0) (by omega) (by omega)
                    have num : ∀ zv : zV, atin t zv → zv.1 = t.1 ∧ t.2.1 ≤ zv.2 ∧ zv.2 ≤ t.2.2.1 := by
                      intro zv hz
                      obtain ⟨tk, tl, tu, tr⟩ := t
                      match tk, f1, hz with
                      | 0, _, hz => exact hz
                      | 1, _, hz => exact hz
                    have hh : ∀ a' k : Nat, ¬ (a' = z1.2.toNat ∧ dl ≤ (k : Int) ∧ (k : Int) ≤ hi) → zcopy h z0.2.toNat zs.2.toNat z1.2.toNat zd.2.toNat zn.2.toNat a' k = h a' k := by
                      intro a' k hne
                      show (if a' = z1.2.toNat ∧ zd.2.toNat ≤ k ∧ k < zd.2.toNat + zn.2.toNat then _ else h a' k) = h a' k
                      rw [if_neg (fun e => hne ⟨e.1, inD k e.2.1 e.2.2⟩)]
                    have hOk : aOv ρ q.1 (a_flt (a_okeepR q.2.1 z1.2.toNat dl hi) q.2.2.2.1) (zcopy h z0.2.toNat zs.2.toNat z1.2.toNat zd.2.toNat zn.2.toNat) := by
                      intro e he
                      obtain ⟨m1, m2⟩ := a_flt_mem he
                      obtain ⟨o1, o2, o3⟩ := hd.2.2.1 e m1
                      refine ⟨o1, o2, ?_⟩
                      show aR ρ q.1 e.2 (zcopy h z0.2.toNat zs.2.toNat z1.2.toNat zd.2.toNat zn.2.toNat e.1.1 (aev ρ e.1.2.1 e.1.2.2).toNat)
                      rw [hh _ _ (fun k => ?_)]
                      · exact o3
                      · have := a_okeepR_ok hd.1.1 m2
                        rcases this with d | d
                        · exact d k.1
                        · omega
                    have key : ∀ O', some [Sum.inr (Sum.inl (nx, (q.1, q.2.1, q.2.2.1, O', a_flt (a_fkeep X.1.2.1 z1.2.toNat dl hi) q.2.2.2.2), L, S'))] = some outs → aOv ρ q.1 O' (zcopy h z0.2.toNat zs.2.toNat z1.2.toNat zd.2.toNat zn.2.toNat) → aCov X ρ q.1 outs (.inr (.inl (nx, zcopy h z0.2.toNat zs.2.toNat z1.2.toNat zd.2.toNat zn.2.toNat, M, Z))) := by
                      intro O' hr hO
                      refine a_go_ok hr (Nat.le_refl _) ⟨⟨hd.1, fun a' l' hl' => ?_, hO, a_fkeep_ok hX hd hh, fun a' k hne => ?_, hd.2.2.2.2.2⟩, hL, hS⟩
                      · by_cases ea : a' = z1.2.toNat
                        · subst ea
                          rw [hl1] at hl'
                          cases hl'
                          -- what is written, or any number that fits
                          obtain ⟨zz, hzz⟩ : ∃ zz : Nat → zV, zz = fun k => if zd.2.toNat ≤ k ∧ k < zd.2.toNat + zn.2.toNat then h z0.2.toNat (zs.2.toNat + (k - zd.2.toNat)) else (t.1, t.2.1) := ⟨_, rfl⟩
                          by_cases hne : t.2.1 ≤ t.2.2.1
                          · refine a_accsFT (z := zz) (t := t.1) (vl := t.2.1) (vh := t.2.2.1) (lo := dl) (hi := hi) (g := h z1.2.toNat) (fun k _ _ => ?_) (fun k _ _ => ?_) (fun k hk => ?_) f2 (hd.2.1 _ _ hl1)
                            · rw [hzz]
                              dsimp only
                              by_cases hk : zd.2.toNat ≤ k ∧ k < zd.2.toNat + zn.2.toNat
                              · rw [if_pos hk]; exact num _ (src k hk.1 hk.2)
                              · rw [if_neg hk]; exact ⟨rfl, Int.le_refl _, hne⟩
                            · show zcopy h z0.2.toNat zs.2.toNat z1.2.toNat zd.2.toNat zn.2.toNat z1.2.toNat k = zz k ∨ _
                              rw [hzz]
                              by_cases hk : zd.2.toNat ≤ k ∧ k < zd.2.toNat + zn.2.toNat
                              · left
                                show (if z1.2.toNat = z1.2.toNat ∧ zd.2.toNat ≤ k ∧ k < zd.2.toNat + zn.2.toNat then _ else _) = (if _ then _ else _)
                                rw [if_pos ⟨rfl, hk⟩, if_pos hk]
                              · right
                                show (if z1.2.toNat = z1.2.toNat ∧ zd.2.toNat ≤ k ∧ k < zd.2.toNat + zn.2.toNat then _ else h z1.2.toNat k) = h z1.2.toNat k
                                rw [if_neg (fun e => hk e.2)]
                            · exact hh _ k (fun e => hk e.2)
                          · have emp : ∀ k : Nat, ¬ (zd.2.toNat ≤ k ∧ k < zd.2.toNat + zn.2.toNat) := fun k hk => by
                              have := num _ (src k hk.1 hk.2)
                              omega
                            have e0 : zcopy h z0.2.toNat zs.2.toNat z1.2.toNat zd.2.toNat zn.2.toNat z1.2.toNat = h z1.2.toNat := by
                              funext k
                              show (if z1.2.toNat = z1.2.toNat ∧ zd.2.toNat ≤ k ∧ k < zd.2.toNat + zn.2.toNat then _ else h z1.2.toNat k) = h z1.2.toNat k
                              rw [if_neg (fun e => emp k e.2)]
                            show atyC (zcopy h z0.2.toNat zs.2.toNat z1.2.toNat zd.2.toNat zn.2.toNat z1.2.toNat) _ 0
                            rw [e0]
                            exact hd.2.1 _ _ hl1
                        · have e0 : zcopy h z0.2.toNat zs.2.toNat z1.2.toNat zd.2.toNat zn.2.toNat a' = h a' := by
                            funext k
                            exact hh a' k (fun e => ea e.1)
                          show atyC (zcopy h z0.2.toNat zs.2.toNat z1.2.toNat zd.2.toNat zn.2.toNat a') _ 0
                          rw [e0]
                          exact hd.2.1 _ _ hl'
                      · show zcopy h z0.2.toNat zs.2.toNat z1.2.toNat zd.2.toNat zn.2.toNat a' k = _
                        rw [hh a' k (fun e => hne ?_)]
                        · exact hd.2.2.2.2.1 a' k hne
                        · obtain ⟨ea, eb, ec⟩ := e
                          subst ea
                          exact a_mod_ok eb ec f3
                    rcases x_condT hr with ⟨hcar, hr⟩ | ⟨-, hr⟩
                    · simp only [Bool.and_eq_true, a_dec_eq] at hcar
                      obtain ⟨u1, u2, u3⟩ := hcar
                      rw [a_carryK_eq, x_spine_eq] at hr
                      refine key _ hr (fun e he => (List.mem_append.mp he).elim (fun he => ?_) (hOk e))
                      obtain ⟨e0, m1, m2, m3, m4, m5, rfl⟩ := a_carry_mem he
                      obtain ⟨o1, o2, o3⟩ := hd.2.2.1 e0 m1
                      rw [m3] at o2 o3
                      rw [m2] at o3
                      have o2 : 0 ≤ e0.1.2.2 := o2
                      refine ⟨Nat.zero_le _, ?_, ?_⟩
                      · show 0 ≤ e0.1.2.2 - sl + dl
                        omega
                      · show aR ρ q.1 e0.2 (if z1.2.toNat = z1.2.toNat ∧ zd.2.toNat ≤ (e0.1.2.2 - sl + dl).toNat ∧ (e0.1.2.2 - sl + dl).toNat < zd.2.toNat + zn.2.toNat then h z0.2.toNat (zs.2.toNat + ((e0.1.2.2 - sl + dl).toNat - zd.2.toNat)) else h z1.2.toNat (e0.1.2.2 - sl + dl).toNat)
                        rw [if_pos ⟨rfl, by omega, by omega⟩, show zs.2.toNat + ((e0.1.2.2 - sl + dl).toNat - zd.2.toNat) = e0.1.2.2.toNat by omega]
                        exact o3
                    · exact key _ hr hOk
                  · cases hr
                · cases hr
              · cases hr
          · cases hr
        · cases hr
    · cases hr
  · cases hr
theorem ap_call (a b : Nat) (z : Int) (cs : List (Int × Nat)) : aStepOK X (29, nx, a, b, z, cs) := by
  intro ρ q L S outs h M Z hr hd hL hS
  obtain ⟨w, hw⟩ : ∃ w, w = cs.head?.elim 0 (fun q => q.2) := ⟨_, rfl⟩
  have hr : a_call nx a b z (cs.head?.elim 0 (fun q => q.2)) q L S = some outs := hr
  rw [← hw] at hr
  have take : ∀ (n : Nat) (S acc : List aV) (Z accz : List zV) (as S' : List aV), a_take n S acc = some (as, S') → aRl ρ q.1 S Z → aRl ρ q.1 acc accz → ∃ bs Z', ztake n Z accz = some (bs, Z') ∧ aRl ρ q.1 as bs ∧ aRl ρ q.1 S' Z' := by
    intro n
    induction n with
    | zero =>
      intro S acc Z accz as S' ht h1 h2
      have ht : some (acc, S) = some (as, S') := ht
      cases ht
      exact ⟨accz, Z, rfl, h2, h1⟩
    | succ n ih =>
      intro S acc Z accz as S' ht h1 h2
      match S, Z, h1, ht with
      | [], _, _, ht => cases ht
      | v :: S, zv :: Z, ⟨hv, h1⟩, ht =>
        have ht : a_take n S (v :: acc) = some (as, S') := ht
        exact ih S (v :: acc) Z (zv :: accz) as S' ht h1 ⟨hv, h2⟩
  unfold a_call at hr
  split at hr
  · rename_i as S' hts
    obtain ⟨bs, Z', t1, t2, t3⟩ := take b S [] Z [] as S' hts hS trivial
    rcases x_condT hr with ⟨hc, hr⟩ | ⟨-, hr⟩
    · rw [Bool.and_eq_true, Bool.and_eq_true, Bool.or_eq_true, a_dec_eq] at hc
      obtain ⟨c1, c2, c3⟩ := hc
      have s1 : zsum Z' ≤ 8 := by rw [a_sum_ok t3]; exact Nat.le_of_ble_eq_true c1
      have s2 : zsum bs ≤ w := by rw [a_sum_ok t2]; exact Nat.le_of_ble_eq_true c2
      have s3 : 0 ≤ z → (bs.head?.any fun v => v.1 == 2 && zisO z.toNat v.2) = true := by
        intro hz
        rcases c3 with c3 | c3
        · omega
        · split at c3
          · rename_i v as'
            rw [Bool.and_eq_true, Bool.and_eq_true] at c3
            match bs, t2 with
            | zv :: bs, ⟨hv, _⟩ =>
              have e1 : zv.1 = 2 := by rw [hv.2]; exact Nat.eq_of_beq_eq_true c3.1
              have e2 := aR_const c3.2.1 hv
              show (zv.1 == 2 && zisO z.toNat zv.2) = true
              rw [e1, e2, a_isO_ok c3.2.2]; rfl
          · cases c3
      have hr := Option.some.inj hr
      subst hr
      refine ⟨_, (show z_call nx a b z (cs.head?.elim 0 (fun q => q.2)) (h, M, Z) = some (.inr (.inr (a, bs, nx, (h, M, Z')))) from ?_), _, List.mem_singleton.mpr rfl, ρ, aAg.refl _ _, Nat.le_refl _, rfl, rfl, t2, hd, hL, t3⟩
      rw [← hw]
      unfold z_call
      rw [show ztake b (h, M, Z).2.2 [] = some (bs, Z') from t1]
      exact if_pos ⟨s1, s2, s3⟩
    · cases hr
  · cases hr
theorem ap_ret (a b : Nat) (z : Int) (cs : List (Int × Nat)) : aStepOK X (30, nx, a, b, z, cs) := by
  intro ρ q L S outs h M Z hr hd hL hS
  have hr : a_ret b a q S = some outs := hr
  unfold a_ret at hr
  split at hr
  · match Z, hS with
    | [], _ =>
      have hr := Option.some.inj hr
      subst hr
      exact ⟨_, rfl, _, List.mem_singleton.mpr rfl, ρ, aAg.refl _ _, Nat.le_refl _, hd, trivial⟩
  · rename_i v _
    match Z, hS with
    | [zv], ⟨hv, _⟩ =>
      obtain ⟨lo, hi, hr, b1, b2⟩ := a_rng_den hr hd hv
      rcases x_condT hr with ⟨hc, hr⟩ | ⟨-, hr⟩
      · rw [Bool.and_eq_true] at hc
        have hf := a_fitc_ok hc.1 hv b1 b2
        have e1 : zv.1 = 0 := by rw [hv.2]; exact Nat.eq_of_beq_eq_true hc.2
        have hr := Option.some.inj hr
        subst hr
        refine ⟨_, (show (if zfit a zv ∧ zv.1 = 0 then some (Sum.inl (h, some zv)) else none) = some (.inl (h, some zv)) from if_pos ⟨hf, e1⟩), _, List.mem_singleton.mpr rfl, ρ, aAg.refl _ _, Nat.le_refl _, hd, hv⟩
      · cases hr
  · rename_i v _
    match Z, hS with
    | [zv], ⟨hv, _⟩ =>
      rcases x_condT hr with ⟨hc, hr⟩ | ⟨-, hr⟩
      · have e1 : zv.1 = 1 := by rw [hv.2]; exact Nat.eq_of_beq_eq_true hc
        have hr := Option.some.inj hr
        subst hr
        refine ⟨_, (show (if zv.1 = 1 then some (Sum.inl (h, some zv)) else none) = some (.inl (h, some zv)) from if_pos e1), _, List.mem_singleton.mpr rfl, ρ, aAg.refl _ _, Nat.le_refl _, hd, hv⟩
      · cases hr
  · cases hr
end AI3
