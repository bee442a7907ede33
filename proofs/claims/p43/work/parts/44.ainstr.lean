/-! THE WATCHER'S INSTRUCTIONS HOLD -/
def aOutN (o : aOut) : Nat := match o with
  | .inl r => r.1.1
  | .inr (.inl q) => q.2.1.1
  | .inr (.inr q) => q.2.2.2.1.1
/-- what a step of the concrete machine comes to is among the outcomes -/
def aCov (X : aX) (ρ : Nat → Int) (n : Nat) (outs : List aOut) (zo : zO) : Prop := ∃ o ∈ outs, ∃ ρ', aAg ρ ρ' n ∧ n ≤ aOutN o ∧ aOutD X ρ' o zo
theorem aCov.sub {X : aX} {ρ : Nat → Int} {n : Nat} {outs outs' : List aOut} {zo : zO} (h : aCov X ρ n outs' zo) (hs : ∀ o ∈ outs', o ∈ outs) : aCov X ρ n outs zo := by
  obtain ⟨o, h1, h2⟩ := h
  exact ⟨o, hs o h1, h2⟩
section AI
variable {X : aX} {ρ : Nat → Int} {q : aQ} {L : aL} {S : List aV} {h : zH} {M : zL} {Z : List zV} {outs : List aOut} {nx : Nat}
theorem a_go_ok {st : aS} (hr : (some [.inr (.inl (nx, st))] : Option (List aOut)) = some outs) {z : zS} (hn : q.1 ≤ st.1.1) (hd : aStD X ρ st z) : aCov X ρ q.1 outs (.inr (.inl (nx, z))) := by
  cases hr
  exact ⟨_, List.mem_singleton.mpr rfl, ρ, aAg.refl _ _, hn, rfl, hd⟩
theorem a_push_ok {z : zV} (hm : aMk X ρ q h z (a_push nx L S) outs) (hL : aRL ρ q.1 L M) (hS : aRl ρ q.1 S Z) : aCov X ρ q.1 outs (.inr (.inl (nx, h, M, z :: Z))) := by
  obtain ⟨q', v, ρ', hf, ha, hn, hd, hv⟩ := hm
  have hf := Option.some.inj hf
  subst hf
  exact ⟨_, List.mem_singleton.mpr rfl, ρ', ha, hn, rfl, hd, hL.mono hn ha, hv, hS.mono hn ha⟩
theorem a_two_ok {t : Nat} {f : aV → aV → List aV → Option (List aOut)} (hr : a_two t S f = some outs) {n : Nat} (hS : aRl ρ n S Z) : ∃ x y S' zx zy Z', f x y S' = some outs ∧ Z = (t, zy) :: (t, zx) :: Z' ∧ aR ρ n x (t, zx) ∧ aR ρ n y (t, zy) ∧ aRl ρ n S' Z' := by
  unfold a_two at hr
  split at hr
  · rename_i y x S'
    rcases x_condT hr with ⟨hc, hr⟩ | ⟨-, hr⟩
    · rw [Bool.and_eq_true] at hc
      match Z, hS with
      | zy :: zx :: Z, ⟨hy, hx, hs⟩ =>
        have e1 : zy = (t, zy.2) := by rw [hy.2, Nat.eq_of_beq_eq_true hc.1]
        have e2 : zx = (t, zx.2) := by rw [hx.2, Nat.eq_of_beq_eq_true hc.2]
        exact ⟨x, y, S', zx.2, zy.2, Z, hr, by rw [← e1, ← e2], by rw [← e2]; exact hx, by rw [← e1]; exact hy, hs⟩
    · cases hr
  · cases hr
theorem a_one_ok {t : Nat} {f : aV → List aV → Option (List aOut)} (hr : a_one t S f = some outs) {n : Nat} (hS : aRl ρ n S Z) : ∃ x S' zx Z', f x S' = some outs ∧ Z = (t, zx) :: Z' ∧ aR ρ n x (t, zx) ∧ aRl ρ n S' Z' := by
  unfold a_one at hr
  split at hr
  · rename_i x S'
    rcases x_condT hr with ⟨hc, hr⟩ | ⟨-, hr⟩
    · match Z, hS with
      | zx :: Z, ⟨hx, hs⟩ =>
        have e2 : zx = (t, zx.2) := by rw [hx.2, Nat.eq_of_beq_eq_true hc]
        exact ⟨x, S', zx.2, Z, hr, by rw [← e2], by rw [← e2]; exact hx, hs⟩
    · cases hr
  · cases hr
theorem a_kind_ok {v : aV} {z : zV} {n : Nat} (hv : aR ρ n v z) : zkind z = a_kind v := by
  rw [hv.2]
  obtain ⟨t, s, o⟩ := v
  show (if t = 3 then 2 else t) = cond (Nat.beq t 3) 2 t
  cases hb : Nat.beq t 3 with
  | true => rw [if_pos (Nat.eq_of_beq_eq_true hb)]; rfl
  | false => rw [if_neg (Nat.ne_of_beq_eq_false hb)]; rfl
theorem a_cat_ok {v : aV} {z : zV} {n : Nat} (hv : aR ρ n v z) : zcat z = a_cat v := by
  rw [hv.2]
  obtain ⟨t, s, o⟩ := v
  show (if t = 1 then 2 else 1) = cond (Nat.beq t 1) 2 1
  cases hb : Nat.beq t 1 with
  | true => rw [if_pos (Nat.eq_of_beq_eq_true hb)]; rfl
  | false => rw [if_neg (Nat.ne_of_beq_eq_false hb)]; rfl
theorem a_sum_ok {n : Nat} : ∀ {S : List aV} {Z : List zV}, aRl ρ n S Z → zsum Z = a_sum S
  | [], [], _ => rfl
  | v :: S, z :: Z, ⟨hv, hs⟩ => by
    show zcat z + zsum Z = a_cat v + a_sum S
    rw [a_cat_ok hv, a_sum_ok hs]
theorem a_lget_ok {n i : Nat} {v : aV} : ∀ {L : aL}, aRL ρ n L M → a_lget L i = some v → ∃ z, M i = some z ∧ aR ρ n v z
  | [], _, h => by cases h
  | p :: L, hL, h => by
    have h : cond (Nat.beq p.1 i) (some p.2) (a_lget L i) = some v := h
    rcases x_condT h with ⟨hc, h⟩ | ⟨-, h⟩
    · cases h
      obtain ⟨z, h1, h2⟩ := hL p List.mem_cons_self
      rw [Nat.eq_of_beq_eq_true hc] at h1
      exact ⟨z, h1, h2⟩
    · exact a_lget_ok (fun x hx => hL x (List.mem_cons_of_mem _ hx)) h
theorem a_put1_ok {n i : Nat} {v : aV} {z : zV} (hL : aRL ρ n L M) (hv : aR ρ n v z) : aRL ρ n ((i, v) :: a_flt (a_keep1 i) L) (zput1 M i z) := by
  intro p hp
  rcases List.mem_cons.mp hp with e | e
  · rw [e]
    exact ⟨z, if_pos rfl, hv⟩
  · obtain ⟨h1, h2⟩ := a_flt_mem e
    obtain ⟨w, w1, w2⟩ := hL p h1
    unfold a_keep1 at h2
    rw [Bool.and_eq_true] at h2
    refine ⟨w, ?_, w2⟩
    unfold zput1
    have hne : p.1 ≠ i := by
      intro e1
      rw [e1, Nat.beq_refl] at h2
      exact absurd h2.1 (by decide)
    rw [if_neg hne, w1]
    show (if p.1 + 1 = i ∧ zcat w = 2 then none else some w) = some w
    rw [if_neg (fun c => ?_)]
    have h3 := h2.2
    rw [c.1, Nat.beq_refl] at h3
    have : Nat.beq p.2.1 1 = true := by
      have c2 := c.2
      rw [a_cat_ok w2] at c2
      unfold a_cat at c2
      cases hb : Nat.beq p.2.1 1 with
      | true => rfl
      | false => rw [hb] at c2; cases c2
    rw [this] at h3
    exact absurd h3 (by decide)
theorem a_put2_ok {n i : Nat} {v : aV} {z : zV} (hL : aRL ρ n L M) (hv : aR ρ n v z) : aRL ρ n ((i, v) :: a_flt (a_keep2 i) L) (zput2 M i z) := by
  intro p hp
  rcases List.mem_cons.mp hp with e | e
  · rw [e]
    exact ⟨z, if_pos rfl, hv⟩
  · obtain ⟨h1, h2⟩ := a_flt_mem e
    obtain ⟨w, w1, w2⟩ := hL p h1
    unfold a_keep2 at h2
    rw [Bool.and_eq_true, Bool.and_eq_true] at h2
    refine ⟨w, ?_, w2⟩
    unfold zput2
    have hne : p.1 ≠ i := by
      intro e1
      rw [e1, Nat.beq_refl] at h2
      exact absurd h2.1 (by decide)
    have hne2 : p.1 ≠ i + 1 := by
      intro e1
      rw [e1, Nat.beq_refl] at h2
      exact absurd h2.2.1 (by decide)
    rw [if_neg hne, if_neg hne2, w1]
    show (if p.1 + 1 = i ∧ zcat w = 2 then none else some w) = some w
    rw [if_neg (fun c => ?_)]
    have h3 := h2.2.2
    rw [c.1, Nat.beq_refl] at h3
    have : Nat.beq p.2.1 1 = true := by
      have c2 := c.2
      rw [a_cat_ok w2] at c2
      unfold a_cat at c2
      cases hb : Nat.beq p.2.1 1 with
      | true => rfl
      | false => rw [hb] at c2; cases c2
    rw [this] at h3
    exact absurd h3 (by decide)
theorem a32 (x : Int32) : a_lo 0 ≤ x.toInt ∧ x.toInt ≤ a_hi 0 := by
  have h1 := Int32.le_toInt x
  have h2 := Int32.toInt_lt x
  show (-2147483648 : Int) ≤ _ ∧ _ ≤ (2147483647 : Int)
  omega
theorem a64 (x : Int64) : a_lo 1 ≤ x.toInt ∧ x.toInt ≤ a_hi 1 := by
  have h1 := Int64.le_toInt x
  have h2 := Int64.toInt_lt x
  show (-9223372036854775808 : Int) ≤ _ ∧ _ ≤ (9223372036854775807 : Int)
  omega
theorem a32of {z : Int} (h1 : a_lo 0 ≤ z) (h2 : z ≤ a_hi 0) : (Int32.ofInt z).toInt = z := by
  have h1 : (-2147483648 : Int) ≤ z := h1
  have h2 : z ≤ (2147483647 : Int) := h2
  exact Int32.toInt_ofInt_of_le (by omega) (by omega)
theorem a64of {z : Int} (h1 : a_lo 1 ≤ z) (h2 : z ≤ a_hi 1) : (Int64.ofInt z).toInt = z := by
  have h1 : (-9223372036854775808 : Int) ≤ z := h1
  have h2 : z ≤ (9223372036854775807 : Int) := h2
  exact Int64.toInt_ofInt_of_le (by omega) (by omega)
/-- what the i-th instruction asks -/
def aStepOK (X : aX) (i : zX) : Prop := ∀ (ρ : Nat → Int) (q : aQ) (L : aL) (S : List aV) (outs : List aOut) (h : zH) (M : zL) (Z : List zV), ai X.1 X.2.2.2.2 i q L S = some outs → aDen X ρ q h → aRL ρ q.1 L M → aRl ρ q.1 S Z → ∃ zo, zi X.2.1 i (h, M, Z) = some zo ∧ aCov X ρ q.1 outs zo
theorem ap_push (a : Nat) (z : Int) (b : Nat) (cs : List (Int × Nat)) : aStepOK X (0, nx, a, b, z, cs) := by
  intro ρ q L S outs h M Z hr hd hL hS
  refine ⟨_, rfl, ?_⟩
  exact a_push_ok (aMk.here (f := a_push nx L S) (v := (a, 0, z)) hr hd ⟨Nat.zero_le _, rfl⟩) hL hS
theorem ap_goto (a b : Nat) (z : Int) (cs : List (Int × Nat)) : aStepOK X (1, nx, a, b, z, cs) := by
  intro ρ q L S outs h M Z hr hd hL hS
  exact ⟨_, rfl, a_go_ok hr (Nat.le_refl _) ⟨hd, hL, hS⟩⟩
theorem ap_load (a b : Nat) (z : Int) (cs : List (Int × Nat)) : aStepOK X (2, nx, a, b, z, cs) := by
  intro ρ q L S outs h M Z hr hd hL hS
  have hr : a_load nx a b q L S = some outs := hr
  unfold a_load at hr
  split at hr
  · rename_i v hg
    obtain ⟨zv, h1, h2⟩ := a_lget_ok hL hg
    rcases x_condT hr with ⟨hc, hr⟩ | ⟨-, hr⟩
    · have hk := (a_kind_ok h2).trans (Nat.eq_of_beq_eq_true hc)
      refine ⟨_, (show z_load nx a b (h, M, Z) = some (.inr (.inl (nx, h, M, zv :: Z))) from ?_), ?_⟩
      · unfold z_load
        show (match M a with
          | some v => if zkind v = b then znx nx (h, M, v :: Z) else none
          | none => none) = _
        rw [h1]
        show (if zkind zv = b then znx nx (h, M, zv :: Z) else none) = _
        rw [if_pos hk]; rfl
      · obtain ⟨w, hr, hw⟩ := a_nrmK_ok hr hd h2
        exact a_push_ok (aMk.here hr hd hw) hL hS
    · cases hr
  · cases hr
theorem ap_store1 (a b : Nat) (z : Int) (cs : List (Int × Nat)) : aStepOK X (3, nx, a, b, z, cs) := by
  intro ρ q L S outs h M Z hr hd hL hS
  have hr : a_store1 nx a b q L S = some outs := hr
  unfold a_store1 at hr
  split at hr
  · rename_i v S'
    rcases x_condT hr with ⟨hc, hr⟩ | ⟨-, hr⟩
    · match Z, hS with
      | zv :: Z, ⟨hv, hS⟩ =>
        rw [Bool.and_eq_true] at hc
        have hk := (a_kind_ok hv).trans (Nat.eq_of_beq_eq_true hc.1)
        have hb : b ≠ 1 := by
          intro e
          rw [e] at hc
          exact absurd hc.2 (by decide)
        refine ⟨_, (show z_store1 nx a b (h, M, zv :: Z) = some (.inr (.inl (nx, h, zput1 M a zv, Z))) from ?_), ?_⟩
        · show (if zkind zv = b ∧ b ≠ 1 then znx nx (h, zput1 M a zv, Z) else none) = _
          rw [if_pos ⟨hk, hb⟩]; rfl
        · unfold a_st1 at hr
          rw [x_spine_eq] at hr
          exact a_go_ok hr (Nat.le_refl _) ⟨hd, a_put1_ok hL hv, hS⟩
    · cases hr
  · cases hr
theorem ap_store2 (a b : Nat) (z : Int) (cs : List (Int × Nat)) : aStepOK X (4, nx, a, b, z, cs) := by
  intro ρ q L S outs h M Z hr hd hL hS
  have hr : a_store2 nx a q L S = some outs := hr
  unfold a_store2 at hr
  split at hr
  · rename_i v S'
    rcases x_condT hr with ⟨hc, hr⟩ | ⟨-, hr⟩
    · match Z, hS with
      | zv :: Z, ⟨hv, hS⟩ =>
        have e : zv = (1, zv.2) := by rw [hv.2, Nat.eq_of_beq_eq_true hc]
        rw [x_spine_eq] at hr
        refine ⟨_, (show z_store2 nx a (h, M, zv :: Z) = some (.inr (.inl (nx, h, zput2 M a zv, Z))) from ?_), ?_⟩
        · rw [e]; rfl
        · exact a_go_ok hr (Nat.le_refl _) ⟨hd, a_put2_ok hL hv, hS⟩
    · cases hr
  · cases hr
theorem ap_iinc (a b : Nat) (z : Int) (cs : List (Int × Nat)) : aStepOK X (5, nx, a, b, z, cs) := by
  intro ρ q L S outs h M Z hr hd hL hS
  have hr : a_iinc nx a z q L S = some outs := hr
  unfold a_iinc at hr
  split at hr
  · rename_i v hg
    obtain ⟨zv, h1, h2⟩ := a_lget_ok hL hg
    rcases x_condT hr with ⟨hc, hr⟩ | ⟨-, hr⟩
    · have e : zv = (0, zv.2) := by rw [h2.2, Nat.eq_of_beq_eq_true hc]
      refine ⟨_, (show z_iinc nx a z (h, M, Z) = some (.inr (.inl (nx, h, zput1 M a (0, (Int32.ofInt zv.2 + Int32.ofInt z).toInt), Z))) from ?_), ?_⟩
      · unfold z_iinc
        show (match M a with
          | some (0, x) => znx nx (h, zput1 M a (0, (Int32.ofInt x + Int32.ofInt z).toInt), Z)
          | _ => none) = _
        rw [h1, e]; rfl
      · obtain ⟨q', w, ρ', hf, ha, hn, hd', hw⟩ := a_shiftK_ok (z := (Int32.ofInt zv.2 + Int32.ofInt z).toInt) hr hd h2 (fun c1 c2 => by rw [← Int32.ofInt_add]; exact a32of c1 c2) (a32 _)
        have hf : a_st1 nx a w q' L S = some outs := hf
        unfold a_st1 at hf
        rw [x_spine_eq] at hf
        have hf := Option.some.inj hf
        subst hf
        exact ⟨_, List.mem_singleton.mpr rfl, ρ', ha, hn, rfl, hd', a_put1_ok (hL.mono hn ha) hw, hS.mono hn ha⟩
    · cases hr
  · cases hr
theorem ap_un32 (a b : Nat) (z : Int) (cs : List (Int × Nat)) : aStepOK X (6, nx, a, b, z, cs) := by
  intro ρ q L S outs h M Z hr hd hL hS
  have hr : a_un32 nx b q L S = some outs := hr
  unfold a_un32 at hr
  obtain ⟨x, S', zx, Z', hr, rfl, hx, hS⟩ := a_one_ok hr hS
  refine ⟨_, rfl, ?_⟩
  match b, hr with
  | 0, hr =>
    refine a_push_ok (a_negK_ok hr hd hx (fun c1 c2 => ?_) (a32 _)) hL hS
    show (-Int32.ofInt zx).toInt = -zx
    rw [← Int32.ofInt_neg]; exact a32of c1 c2
  | 1, hr =>
    refine a_push_ok (a_cutK_ok hr hd hx (fun c1 c2 => ?_) ?_) hL hS
    · show (Int32.ofInt zx).toInt8.toInt32.toInt = zx
      have c1 : (-128 : Int) ≤ zx := c1
      have c2 : zx ≤ (127 : Int) := c2
      rw [Int8.toInt_toInt32, Int32.toInt_toInt8, a32of (by show (-2147483648 : Int) ≤ zx; omega) (by show zx ≤ (2147483647 : Int); omega)]
      exact Int.bmod_eq_of_le (by omega) (by omega)
    · show -128 ≤ (Int32.ofInt zx).toInt8.toInt32.toInt ∧ (Int32.ofInt zx).toInt8.toInt32.toInt ≤ 127
      rw [Int8.toInt_toInt32]
      have h1 := Int8.le_toInt (Int32.ofInt zx).toInt8
      have h2 := Int8.toInt_lt (Int32.ofInt zx).toInt8
      omega
  | b + 2, hr =>
    refine a_push_ok (a_cutK_ok hr hd hx (fun c1 c2 => ?_) ?_) hL hS
    · show (Int32.ofInt zx).toInt16.toInt32.toInt = zx
      have c1 : (-32768 : Int) ≤ zx := c1
      have c2 : zx ≤ (32767 : Int) := c2
      rw [Int16.toInt_toInt32, Int32.toInt_toInt16, a32of (by show (-2147483648 : Int) ≤ zx; omega) (by show zx ≤ (2147483647 : Int); omega)]
      exact Int.bmod_eq_of_le (by omega) (by omega)
    · show -32768 ≤ (Int32.ofInt zx).toInt16.toInt32.toInt ∧ (Int32.ofInt zx).toInt16.toInt32.toInt ≤ 32767
      rw [Int16.toInt_toInt32]
      have h1 := Int16.le_toInt (Int32.ofInt zx).toInt16
      have h2 := Int16.toInt_lt (Int32.ofInt zx).toInt16
      omega
theorem a_and32 {x y : Int} (hx : a_lo 0 ≤ x ∧ x ≤ a_hi 0) (hy : a_lo 0 ≤ y ∧ y ≤ a_hi 0) : (0 ≤ x → 0 ≤ (Int32.ofInt x &&& Int32.ofInt y).toInt ∧ (Int32.ofInt x &&& Int32.ofInt y).toInt ≤ x) ∧ (0 ≤ y → 0 ≤ (Int32.ofInt x &&& Int32.ofInt y).toInt ∧ (Int32.ofInt x &&& Int32.ofInt y).toInt ≤ y) := by
  have e1 := a32of hx.1 hx.2
  have e2 := a32of hy.1 hy.2
  refine ⟨fun h0 => ?_, fun h0 => ?_⟩
  · have h := y_and_in (q := (x, x)) (r := (-1, -1)) (x := Int32.ofInt x) (y := Int32.ofInt y)
    by_cases hy0 : 0 ≤ y
    · have k := y_and_in (q := (x, x)) (r := (y, y)) (x := Int32.ofInt x) (y := Int32.ofInt y) (by rw [e1]; exact ⟨Int.le_refl _, Int.le_refl _⟩) (by rw [e2]; exact ⟨Int.le_refl _, Int.le_refl _⟩)
      have k2 := y_and_in (q := (y, y)) (r := (x, x)) (x := Int32.ofInt y) (y := Int32.ofInt x) (by rw [e2]; exact ⟨Int.le_refl _, Int.le_refl _⟩) (by rw [e1]; exact ⟨Int.le_refl _, Int.le_refl _⟩)
      unfold y_and at k2
      rw [a_decT h0] at k2
      rw [Int32.and_comm] at k2
      exact k2
    · have k2 := y_and_in (q := (y, y)) (r := (x, x)) (x := Int32.ofInt y) (y := Int32.ofInt x) (by rw [e2]; exact ⟨Int.le_refl _, Int.le_refl _⟩) (by rw [e1]; exact ⟨Int.le_refl _, Int.le_refl _⟩)
      unfold y_and at k2
      rw [a_decT h0] at k2
      rw [Int32.and_comm] at k2
      exact k2
  · have k := y_and_in (q := (x, x)) (r := (y, y)) (x := Int32.ofInt x) (y := Int32.ofInt y) (by rw [e1]; exact ⟨Int.le_refl _, Int.le_refl _⟩) (by rw [e2]; exact ⟨Int.le_refl _, Int.le_refl _⟩)
    unfold y_and at k
    rw [a_decT h0] at k
    exact k
theorem a_and64 {x y : Int} (hx : a_lo 1 ≤ x ∧ x ≤ a_hi 1) (hy : a_lo 1 ≤ y ∧ y ≤ a_hi 1) : (0 ≤ x → 0 ≤ (Int64.ofInt x &&& Int64.ofInt y).toInt ∧ (Int64.ofInt x &&& Int64.ofInt y).toInt ≤ x) ∧ (0 ≤ y → 0 ≤ (Int64.ofInt x &&& Int64.ofInt y).toInt ∧ (Int64.ofInt x &&& Int64.ofInt y).toInt ≤ y) := by
  have e1 := a64of hx.1 hx.2
  have e2 := a64of hy.1 hy.2
  refine ⟨fun h0 => ?_, fun h0 => ?_⟩
  · have k2 := yl_and_in (q := (y, y)) (r := (x, x)) (x := Int64.ofInt y) (y := Int64.ofInt x) (by rw [e2]; exact ⟨Int.le_refl _, Int.le_refl _⟩) (by rw [e1]; exact ⟨Int.le_refl _, Int.le_refl _⟩)
    unfold yl_and at k2
    rw [a_decT h0] at k2
    rw [Int64.and_comm] at k2
    exact k2
  · have k := yl_and_in (q := (x, x)) (r := (y, y)) (x := Int64.ofInt x) (y := Int64.ofInt y) (by rw [e1]; exact ⟨Int.le_refl _, Int.le_refl _⟩) (by rw [e2]; exact ⟨Int.le_refl _, Int.le_refl _⟩)
    unfold yl_and at k
    rw [a_decT h0] at k
    exact k
theorem a_and32x {x y : Int} (hx : a_lo 0 ≤ x ∧ x ≤ a_hi 0) (hy : a_lo 0 ≤ y ∧ y ≤ a_hi 0) (h0 : 0 ≤ x) (h1 : 0 ≤ y) : (Int32.ofInt x &&& Int32.ofInt y).toInt = Int.ofNat (Nat.land x.toNat y.toNat) := by
  have e1 := a32of hx.1 hx.2
  have e2 := a32of hy.1 hy.2
  obtain ⟨k1, k2⟩ := y_nat (x := Int32.ofInt x) (by omega)
  obtain ⟨k3, k4⟩ := y_nat (x := Int32.ofInt y) (by omega)
  have e3 : (Int32.ofInt x &&& Int32.ofInt y).toBitVec.toNat = Nat.land (Int32.ofInt x).toBitVec.toNat (Int32.ofInt y).toBitVec.toNat := by
    show ((Int32.ofInt x).toBitVec &&& (Int32.ofInt y).toBitVec).toNat = _
    rw [BitVec.toNat_and]
    rfl
  have e4 : (Int32.ofInt x &&& Int32.ofInt y).toBitVec.toNat < 2147483648 := by
    rw [e3]
    exact Nat.lt_of_le_of_lt Nat.and_le_left k2
  rw [y_ofNat e4, e3, show x.toNat = (Int32.ofInt x).toBitVec.toNat from by omega, show y.toNat = (Int32.ofInt y).toBitVec.toNat from by omega]
  rfl
theorem a_and64x {x y : Int} (hx : a_lo 1 ≤ x ∧ x ≤ a_hi 1) (hy : a_lo 1 ≤ y ∧ y ≤ a_hi 1) (h0 : 0 ≤ x) (h1 : 0 ≤ y) : (Int64.ofInt x &&& Int64.ofInt y).toInt = Int.ofNat (Nat.land x.toNat y.toNat) := by
  have e1 := a64of hx.1 hx.2
  have e2 := a64of hy.1 hy.2
  have key : ∀ {u : Int64}, 0 ≤ u.toInt → u.toInt = (u.toBitVec.toNat : Int) ∧ u.toBitVec.toNat < 9223372036854775808 := by
    intro u h
    have h1 : u.toInt = u.toBitVec.toInt := rfl
    rw [h1] at h ⊢
    rw [BitVec.toInt_eq_toNat_cond] at h ⊢
    have hlt := u.toBitVec.isLt
    split at h
    · rename_i hc
      rw [if_pos hc]
      exact ⟨rfl, by omega⟩
    · omega
  obtain ⟨k1, k2⟩ := key (u := Int64.ofInt x) (by omega)
  obtain ⟨k3, k4⟩ := key (u := Int64.ofInt y) (by omega)
  have e3 : (Int64.ofInt x &&& Int64.ofInt y).toBitVec.toNat = Nat.land (Int64.ofInt x).toBitVec.toNat (Int64.ofInt y).toBitVec.toNat := by
    show ((Int64.ofInt x).toBitVec &&& (Int64.ofInt y).toBitVec).toNat = _
    rw [BitVec.toNat_and]
    rfl
  have e4 : (Int64.ofInt x &&& Int64.ofInt y).toBitVec.toNat < 9223372036854775808 := by
    rw [e3]
    exact Nat.lt_of_le_of_lt Nat.and_le_left k2
  have e5 : (Int64.ofInt x &&& Int64.ofInt y).toInt = ((Int64.ofInt x &&& Int64.ofInt y).toBitVec.toNat : Int) := by
    show (Int64.ofInt x &&& Int64.ofInt y).toBitVec.toInt = _
    rw [BitVec.toInt_eq_toNat_of_lt (by omega)]
  rw [e5, e3, show x.toNat = (Int64.ofInt x).toBitVec.toNat from by omega, show y.toNat = (Int64.ofInt y).toBitVec.toNat from by omega]
  rfl
theorem a_shr32 {x k : Int} (k0 : 0 ≤ k) (k1 : k < 32) (x0 : 0 ≤ x) (x1 : x ≤ 2147483647) : (Int32.ofInt x >>> (Int32.ofInt k &&& 31)).toInt = x / ((2 ^ k.toNat : Nat) : Int) := by
  have e1 : (Int32.ofInt x).toInt = x := a32of (by show (-2147483648 : Int) ≤ x; omega) (by show x ≤ (2147483647 : Int); omega)
  obtain ⟨n, rfl⟩ : ∃ n : Nat, k = (n : Int) := ⟨k.toNat, by omega⟩
  have hn : n < 32 := by omega
  have hall : ∀ n : Nat, n < 32 → ((Int32.ofInt (n : Int) &&& 31).toBitVec.smod 32).toNat = n := by decide
  show (((Int32.ofInt x).toBitVec.sshiftRight' ((Int32.ofInt (n : Int) &&& 31).toBitVec.smod 32))).toInt = _
  rw [BitVec.sshiftRight_eq', BitVec.toInt_sshiftRight, hall n hn]
  have e2 : (Int32.ofInt x).toBitVec.toInt = x := e1
  rw [e2, Int.shiftRight_eq_div_pow]
  rfl
theorem ap_bin32 (a b : Nat) (z : Int) (cs : List (Int × Nat)) : aStepOK X (7, nx, a, b, z, cs) := by
  intro ρ q L S outs h M Z hr hd hL hS
  have hr : a_bin32 nx b q L S = some outs := hr
  unfold a_bin32 at hr
  obtain ⟨x, y, S', zx, zy, Z', hr, rfl, hx, hy, hS⟩ := a_two_ok hr hS
  refine ⟨_, rfl, ?_⟩
  split at hr
  · refine a_push_ok (a_addK_ok hr hd hx hy (fun c1 c2 => ?_) (a32 _)) hL hS
    show (Int32.ofInt zx + Int32.ofInt zy).toInt = zx + zy
    rw [← Int32.ofInt_add]; exact a32of c1 c2
  · refine a_push_ok (a_subK_ok hr hd hx hy (fun c1 c2 => ?_) (a32 _)) hL hS
    show (Int32.ofInt zx - Int32.ofInt zy).toInt = zx - zy
    rw [← Int32.ofInt_sub]; exact a32of c1 c2
  · refine a_push_ok (a_mulK_ok hr hd hx hy (fun c1 c2 => ?_) (a32 _)) hL hS
    show (Int32.ofInt zx * Int32.ofInt zy).toInt = zx * zy
    rw [← Int32.ofInt_mul]; exact a32of c1 c2
  · exact a_push_ok (a_andK_ok hr hd hx hy (fun c1 c2 => ⟨a_and32 c1 c2, a_and32x c1 c2⟩) (a32 _)) hL hS
  · exact a_push_ok (a_shrK_ok hr hd hx hy (fun c1 c2 c3 c4 => a_shr32 c1 c2 c3 c4) (a32 _)) hL hS
  · exact a_push_ok (a_anyK_ok hr hd (a32 _).1 (a32 _).2) hL hS
theorem a_div32q {x y : Int} (hy1 : 1 ≤ y) (hx0 : 0 ≤ x) (hx : x ≤ a_hi 0) (hy : y ≤ a_hi 0) : (Int32.ofInt x / Int32.ofInt y).toInt = x / y := by
  have hx2 : x ≤ (2147483647 : Int) := hx
  have hy2 : y ≤ (2147483647 : Int) := hy
  have e1 := a32of (z := x) (by show (-2147483648 : Int) ≤ x; omega) hx
  have e2 := a32of (z := y) (by show (-2147483648 : Int) ≤ y; omega) hy
  have hne : Int32.ofInt y ≠ -1 := fun e => by
    have h3 : (Int32.ofInt y).toInt = -1 := by rw [e]; rfl
    omega
  rw [Int32.toInt_div_of_ne_right _ _ hne, e1, e2, Int.tdiv_eq_ediv_of_nonneg hx0]
theorem a_div64q {x y : Int} (hy1 : 1 ≤ y) (hx0 : 0 ≤ x) (hx : x ≤ a_hi 1) (hy : y ≤ a_hi 1) : (Int64.ofInt x / Int64.ofInt y).toInt = x / y := by
  have hx2 : x ≤ (9223372036854775807 : Int) := hx
  have hy2 : y ≤ (9223372036854775807 : Int) := hy
  have e1 := a64of (z := x) (by show (-9223372036854775808 : Int) ≤ x; omega) hx
  have e2 := a64of (z := y) (by show (-9223372036854775808 : Int) ≤ y; omega) hy
  have hne : Int64.ofInt y ≠ -1 := fun e => by
    have h3 : (Int64.ofInt y).toInt = -1 := by rw [e]; rfl
    omega
  rw [Int64.toInt_div_of_ne_right _ _ hne, e1, e2, Int.tdiv_eq_ediv_of_nonneg hx0]
theorem ap_div32 (a b : Nat) (z : Int) (cs : List (Int × Nat)) : aStepOK X (8, nx, a, b, z, cs) := by
  intro ρ q L S outs h M Z hr hd hL hS
  have hr : a_div32 nx b q L S = some outs := hr
  unfold a_div32 at hr
  obtain ⟨x, y, S', zx, zy, Z', hr, rfl, hx, hy, hS⟩ := a_two_ok hr hS
  have fin : ∀ b : Nat, (zy ≠ 0 ∧ aMk X ρ q h (0, (zd32 b (Int32.ofInt zx) (Int32.ofInt zy)).toInt) (a_push nx L S') outs) → ∃ zo, zi X.2.1 (8, nx, a, b, z, cs) (h, M, (0, zy) :: (0, zx) :: Z') = some zo ∧ aCov X ρ q.1 outs zo := by
    intro b ⟨hne, hm⟩
    refine ⟨_, (show (if zy = 0 then none else znx nx (h, M, (0, (zd32 b (Int32.ofInt zx) (Int32.ofInt zy)).toInt) :: Z')) = _ from ?_), a_push_ok hm hL hS⟩
    rw [if_neg hne]; rfl
  match b, hr with
  | 0, hr => exact fin 0 (a_divK_ok hr hd hx hy (fun c1 c2 c3 c4 => a_div32q c1 c2 c3 c4) (a32 _))
  | b + 1, hr =>
    refine fin (b + 1) (a_rem32K_ok hr hd hx hy (fun c1 c2 => ?_) (a32 _))
    show (Int32.ofInt zx - Int32.ofInt zx / Int32.ofInt zy * Int32.ofInt zy).toInt = _
    rw [rem_toInt, a32of c1.1 c1.2, a32of c2.1 c2.2]
theorem ap_neg64 (a b : Nat) (z : Int) (cs : List (Int × Nat)) : aStepOK X (9, nx, a, b, z, cs) := by
  intro ρ q L S outs h M Z hr hd hL hS
  have hr : a_neg64 nx q L S = some outs := hr
  unfold a_neg64 at hr
  obtain ⟨x, S', zx, Z', hr, rfl, hx, hS⟩ := a_one_ok hr hS
  refine ⟨_, rfl, a_push_ok (a_negK_ok hr hd hx (fun c1 c2 => ?_) (a64 _)) hL hS⟩
  rw [← Int64.ofInt_neg]; exact a64of c1 c2
theorem ap_bin64 (a b : Nat) (z : Int) (cs : List (Int × Nat)) : aStepOK X (10, nx, a, b, z, cs) := by
  intro ρ q L S outs h M Z hr hd hL hS
  have hr : a_bin64 nx b q L S = some outs := hr
  unfold a_bin64 at hr
  obtain ⟨x, y, S', zx, zy, Z', hr, rfl, hx, hy, hS⟩ := a_two_ok hr hS
  refine ⟨_, rfl, ?_⟩
  split at hr
  · refine a_push_ok (a_addK_ok hr hd hx hy (fun c1 c2 => ?_) (a64 _)) hL hS
    show (Int64.ofInt zx + Int64.ofInt zy).toInt = zx + zy
    rw [← Int64.ofInt_add]; exact a64of c1 c2
  · refine a_push_ok (a_subK_ok hr hd hx hy (fun c1 c2 => ?_) (a64 _)) hL hS
    show (Int64.ofInt zx - Int64.ofInt zy).toInt = zx - zy
    rw [← Int64.ofInt_sub]; exact a64of c1 c2
  · refine a_push_ok (a_mulK_ok hr hd hx hy (fun c1 c2 => ?_) (a64 _)) hL hS
    show (Int64.ofInt zx * Int64.ofInt zy).toInt = zx * zy
    rw [← Int64.ofInt_mul]; exact a64of c1 c2
  · exact a_push_ok (a_andK_ok hr hd hx hy (fun c1 c2 => ⟨a_and64 c1 c2, a_and64x c1 c2⟩) (a64 _)) hL hS
  · exact a_push_ok (a_anyK_ok hr hd (a64 _).1 (a64 _).2) hL hS
theorem ap_div64 (a b : Nat) (z : Int) (cs : List (Int × Nat)) : aStepOK X (11, nx, a, b, z, cs) := by
  intro ρ q L S outs h M Z hr hd hL hS
  have hr : a_div64 nx b q L S = some outs := hr
  unfold a_div64 at hr
  obtain ⟨x, y, S', zx, zy, Z', hr, rfl, hx, hy, hS⟩ := a_two_ok hr hS
  have fin : ∀ b : Nat, (zy ≠ 0 ∧ aMk X ρ q h (1, (zd64 b (Int64.ofInt zx) (Int64.ofInt zy)).toInt) (a_push nx L S') outs) → ∃ zo, zi X.2.1 (11, nx, a, b, z, cs) (h, M, (1, zy) :: (1, zx) :: Z') = some zo ∧ aCov X ρ q.1 outs zo := by
    intro b ⟨hne, hm⟩
    refine ⟨_, (show (if zy = 0 then none else znx nx (h, M, (1, (zd64 b (Int64.ofInt zx) (Int64.ofInt zy)).toInt) :: Z')) = _ from ?_), a_push_ok hm hL hS⟩
    rw [if_neg hne]; rfl
  match b, hr with
  | 0, hr => exact fin 0 (a_divK_ok hr hd hx hy (fun c1 c2 c3 c4 => a_div64q c1 c2 c3 c4) (a64 _))
  | b + 1, hr =>
    refine fin (b + 1) (a_rem64K_ok hr hd hx hy (fun c1 c2 => ?_))
    show (Int64.ofInt zx - Int64.ofInt zx / Int64.ofInt zy * Int64.ofInt zy).toInt = _
    rw [z_rem64, a64of c1.1 c1.2, a64of c2.1 c2.2]
theorem ap_sh64 (a b : Nat) (z : Int) (cs : List (Int × Nat)) : aStepOK X (12, nx, a, b, z, cs) := by
  intro ρ q L S outs h M Z hr hd hL hS
  have hr : a_sh64 nx q L S = some outs := hr
  unfold a_sh64 at hr
  split at hr
  · rename_i y x S'
    rcases x_condT hr with ⟨hc, hr⟩ | ⟨-, hr⟩
    · rw [Bool.and_eq_true] at hc
      match Z, hS with
      | zy :: zx :: Z, ⟨hy, hx, hS⟩ =>
        have e1 : zy = (0, zy.2) := by rw [hy.2, Nat.eq_of_beq_eq_true hc.1]
        have e2 : zx = (1, zx.2) := by rw [hx.2, Nat.eq_of_beq_eq_true hc.2]
        refine ⟨_, (show z_sh64 nx b (h, M, zy :: zx :: Z) = some (.inr (.inl (nx, h, M, (1, (zs64 b (Int64.ofInt zx.2) (Int32.ofInt zy.2)).toInt) :: Z))) by rw [e1, e2]; rfl), ?_⟩
        exact a_push_ok (a_anyK_ok hr hd (a64 _).1 (a64 _).2) hL hS
    · cases hr
  · cases hr
theorem ap_i2l (a b : Nat) (z : Int) (cs : List (Int × Nat)) : aStepOK X (13, nx, a, b, z, cs) := by
  intro ρ q L S outs h M Z hr hd hL hS
  have hr : a_i2l nx q L S = some outs := hr
  unfold a_i2l at hr
  obtain ⟨x, S', zx, Z', hr, rfl, hx, hS⟩ := a_one_ok hr hS
  refine ⟨_, rfl, a_push_ok (aMk.here (f := a_push nx L S') (v := (1, x.2)) hr hd ⟨hx.1, ?_⟩) hL hS⟩
  have := aR_val hx
  exact congrArg _ this
theorem ap_l2i (a b : Nat) (z : Int) (cs : List (Int × Nat)) : aStepOK X (14, nx, a, b, z, cs) := by
  intro ρ q L S outs h M Z hr hd hL hS
  have hr : a_l2i nx q L S = some outs := hr
  unfold a_l2i at hr
  obtain ⟨x, S', zx, Z', hr, rfl, hx, hS⟩ := a_one_ok hr hS
  refine ⟨_, rfl, ?_⟩
  obtain ⟨lo, hi, hr, b1, b2⟩ := a_rng_den hr hd hx
  rcases x_condT hr with ⟨hc, hr⟩ | ⟨-, hr⟩
  · obtain ⟨c1, c2⟩ := a_in_ok hc
    refine a_push_ok (aMk.here (f := a_push nx L S') (v := (0, x.2)) hr hd ⟨hx.1, ?_⟩) hL hS
    have e := aR_val hx
    have b1 : lo ≤ zx := b1
    have b2 : zx ≤ hi := b2
    have c1 : (-2147483648 : Int) ≤ lo := c1
    have c2 : hi ≤ (2147483647 : Int) := c2
    have : (Int64.ofInt zx).toInt32.toInt = zx := by
      rw [Int64.toInt_toInt32, a64of (by show (-9223372036854775808 : Int) ≤ zx; omega) (by show zx ≤ (9223372036854775807 : Int); omega)]
      exact Int.bmod_eq_of_le (by omega) (by omega)
    rw [this]
    exact congrArg _ e
  · exact a_push_ok (a_anyK_ok hr hd (a32 _).1 (a32 _).2) hL hS
end AI
