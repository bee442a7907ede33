/-! THE WATCHER'S MATCHING AND CONTRACTS HOLD -/
def aG0 (G : aG) : aG := (G.1, G.2.1, false)
-- o: how much deeper
def aSpecO (o : Nat) (G : aG) (D : zD) (Fl : Nat → zH → Prop) (T : zT) (κ : aK) : Prop := ∀ (ρ : Nat → Int) (h : zH) (bs : List zV), aDen (aG0 G, D, Fl, h, κ.2.2.2.2.1) ρ κ.2.2.1 h → aRl ρ κ.2.2.1.1 κ.2.2.2.1 bs → ∃ r, zRun D T (o + κ.2.1) κ.1 0 (h, zargs 0 bs, []) r ∧ ∃ p ∈ κ.2.2.2.2.2, ∃ ρ', aAg ρ ρ' κ.2.2.1.1 ∧ κ.2.2.1.1 ≤ p.1.1 ∧ aDen (aG0 G, D, Fl, h, κ.2.2.2.2.1) ρ' p.1 r.1 ∧ aRo ρ' p.1.1 p.2 r.2
-- what the unknowns of a pattern are here; σ: theirs, ρ: ours
def aVal (ρ σ : Nat → Int) (θ : aTh) : Prop := ∀ j e, a_th θ j = some e → σ j = aev ρ e.1 e.2
def aThS (n N : Nat) (θ : aTh) : Prop := ∀ j e, a_th θ j = some e → e.1 ≤ n ∧ j < N
def aExt (θ θ' : aTh) : Prop := ∀ j e, a_th θ j = some e → a_th θ' j = some e
theorem aExt.refl (θ : aTh) : aExt θ θ := fun _ _ h => h
theorem aExt.trans {a b c : aTh} (h : aExt a b) (h' : aExt b c) : aExt a c := fun j e hj => h' j e (h j e hj)
theorem aVal.sub {ρ σ : Nat → Int} {θ θ' : aTh} (h : aVal ρ σ θ') (he : aExt θ θ') : aVal ρ σ θ := fun j e hj => h j e (he j e hj)
noncomputable def aSig (ρ : Nat → Int) (θ : aTh) : Nat → Int := fun j => match a_th θ j with
  | some e => aev ρ e.1 e.2
  | none => 0
theorem aSig_val (ρ : Nat → Int) (θ : aTh) : aVal ρ (aSig ρ θ) θ := fun j e h => by
  show (match a_th θ j with
    | some e => aev ρ e.1 e.2
    | none => 0) = _
  rw [h]
theorem a_th_cons {θ : aTh} {x : Nat × Nat × Int} {j : Nat} : a_th (x :: θ) j = if x.1 = j then some x.2 else a_th θ j := by
  show cond (Nat.beq x.1 j) (some x.2) (a_th θ j) = _
  cases hb : Nat.beq x.1 j with
  | true => rw [if_pos (Nat.eq_of_beq_eq_true hb)]; rfl
  | false => rw [if_neg (Nat.ne_of_beq_eq_false hb)]; rfl
def aBnd (ρ : Nat → Int) (n : Nat) (E : aB) : Prop := ∀ x ∈ E, x.1 < n ∧ x.2.1 ≤ ρ x.1 ∧ ρ x.1 ≤ x.2.2
theorem a_bindK_ok {β : Type} {N n : Nat} {E : aB} {ρ : Nat → Int} {θ : aTh} {p v : aV} {z : zV} {f : aTh → Option β} {r : β} (hr : a_bindK N E θ p v f = some r) (he : aBnd ρ n E) (hv : aR ρ n v z) (hs : aThS n N θ) : ∃ θ', f θ' = some r ∧ aExt θ θ' ∧ aThS n N θ' ∧ ∀ σ, aVal ρ σ θ' → aR σ N p z := by
  unfold a_bindK at hr
  rcases x_condT hr with ⟨hc, hr⟩ | ⟨-, hr⟩
  · rw [Bool.and_eq_true] at hc
    have h1 := Nat.eq_of_beq_eq_true hc.1
    have h2 := Nat.le_of_ble_eq_true hc.2
    have hval := aR_val hv
    have hz1 : z.1 = p.1 := by rw [hv.2, h1]
    obtain ⟨pt, ps, po⟩ := p
    cases ps with
    | zero =>
      obtain ⟨lo, hi, hr, b1, b2⟩ := a_rngK_ok (ρ := ρ) hr he
      rcases x_condT hr with ⟨hd, hr⟩ | ⟨-, hr⟩
      · rw [Bool.and_eq_true, a_dec_eq, a_dec_eq] at hd
        obtain ⟨d1, d2⟩ := hd
        have d1 : lo = po := d1
        have d2 : hi = po := d2
        refine ⟨θ, hr, aExt.refl _, hs, fun σ _ => ⟨Nat.zero_le _, ?_⟩⟩
        have e : z.2 = po := by omega
        have hz1 : z.1 = pt := hz1
        show z = (pt, po)
        rw [← hz1, ← e]
      · cases hr
    | succ j =>
      have hz1 : z.1 = pt := hz1
      have hr : (match a_th θ j with
        | some e => cond (Nat.beq e.1 v.2.1 && @decide (e.2 + po = v.2.2) (a_decEqZ _ _)) (f θ) (a_rngK E (0, e) (fun l h => a_rngK E v (fun l2 h2 => cond (@decide (l = h) (a_decEqZ _ _) && (@decide (l2 = h2) (a_decEqZ _ _) && @decide (l + po = l2) (a_decEqZ _ _))) (f θ) none)))
        | none => x_kN v.2.1 (fun s => x_kZ (v.2.2 - po) (fun o => f ((j, s, o) :: θ)))) = some r := hr
      split at hr
      · rename_i e he1
        have key : aev ρ e.1 e.2 + po = z.2 → ∃ θ', f θ' = some r ∧ aExt θ θ' ∧ aThS n N θ' ∧ ∀ σ, aVal ρ σ θ' → aR σ N (pt, j + 1, po) z := by
          intro hk
          have hf : f θ = some r := by
            rcases x_condT hr with ⟨-, hr⟩ | ⟨-, hr⟩
            · exact hr
            · obtain ⟨l, u, hr, -, -⟩ := a_rngK_ok (ρ := ρ) hr he
              obtain ⟨l2, u2, hr, -, -⟩ := a_rngK_ok (ρ := ρ) hr he
              rcases x_condT hr with ⟨-, hr⟩ | ⟨-, hr⟩
              · exact hr
              · cases hr
          refine ⟨θ, hf, aExt.refl _, hs, fun σ hσ => ⟨h2, ?_⟩⟩
          have := hσ j e he1
          show z = (pt, σ j + po)
          rw [this, hk, ← hz1]
        apply key
        rcases x_condT hr with ⟨hd, -⟩ | ⟨-, hr⟩
        · rw [Bool.and_eq_true, a_dec_eq] at hd
          rw [hval, ← Nat.eq_of_beq_eq_true hd.1, ← hd.2, aev_add]
        · obtain ⟨l, u, hr, b1, b2⟩ := a_rngK_ok (ρ := ρ) hr he
          obtain ⟨l2, u2, hr, b3, b4⟩ := a_rngK_ok (ρ := ρ) hr he
          rcases x_condT hr with ⟨hd, hr⟩ | ⟨-, hr⟩
          · rw [Bool.and_eq_true, Bool.and_eq_true, a_dec_eq, a_dec_eq, a_dec_eq] at hd
            have b1 : l ≤ aev ρ e.1 e.2 := b1
            have b2 : aev ρ e.1 e.2 ≤ u := b2
            omega
          · cases hr
      · rename_i hnone
        rw [x_kN_eq, x_kZ_eq] at hr
        refine ⟨_, hr, fun k e hk => ?_, fun k e hk => ?_, fun σ hσ => ⟨h2, ?_⟩⟩
        · rw [a_th_cons, if_neg]
          · exact hk
          · intro hjk
            have hjk : j = k := hjk
            rw [← hjk, hnone] at hk
            cases hk
        · rw [a_th_cons] at hk
          by_cases hjk : j = k
          · rw [if_pos hjk] at hk
            cases hk
            exact ⟨hv.1, by rw [← hjk]; exact h2⟩
          · rw [if_neg hjk] at hk
            exact hs k e hk
        · have := hσ j (v.2.1, v.2.2 - po) (by rw [a_th_cons, if_pos rfl])
          show z = (pt, σ j + po)
          rw [this]
          show z = (pt, aev ρ v.2.1 (v.2.2 - po) + po)
          rw [← aev_add, Int.sub_add_cancel, ← hval, ← hz1]
  · cases hr
theorem a_bindsK_ok {β : Type} {N n : Nat} {E : aB} {ρ : Nat → Int} {f : aTh → Option β} {r : β} (he : aBnd ρ n E) : ∀ {ps vs : List aV} {zs : List zV} {θ : aTh}, a_bindsK N E f ps vs θ = some r → aRl ρ n vs zs → aThS n N θ → ∃ θ', f θ' = some r ∧ aExt θ θ' ∧ aThS n N θ' ∧ ∀ σ, aVal ρ σ θ' → aRl σ N ps zs
  | [], [], [], θ, hr, _, hs => ⟨θ, hr, aExt.refl _, hs, fun _ _ => trivial⟩
  | [], _ :: _, _ :: _, θ, hr, _, hs => by cases hr
  | p :: ps, [], [], θ, hr, _, hs => by cases hr
  | p :: ps, v :: vs, z :: zs, θ, hr, ⟨hv, hvs⟩, hs => by
    have hr : a_bindK N E θ p v (fun θ => a_bindsK N E f ps vs θ) = some r := hr
    obtain ⟨θ1, hr, e1, s1, k1⟩ := a_bindK_ok hr he hv hs
    obtain ⟨θ2, hr, e2, s2, k2⟩ := a_bindsK_ok he hr hvs s1
    exact ⟨θ2, hr, e1.trans e2, s2, fun σ hσ => ⟨k1 σ (hσ.sub e2), k2 σ hσ⟩⟩
theorem a_bindLK_ok {β : Type} {N n : Nat} {E : aB} {ρ : Nat → Int} {L : aL} {M : zL} {f : aTh → Option β} {r : β} (he : aBnd ρ n E) (hL : aRL ρ n L M) : ∀ {ps : aL} {θ : aTh}, a_bindLK N E L f ps θ = some r → aThS n N θ → ∃ θ', f θ' = some r ∧ aExt θ θ' ∧ aThS n N θ' ∧ ∀ σ, aVal ρ σ θ' → aRL σ N ps M
  | [], θ, hr, hs => ⟨θ, hr, aExt.refl _, hs, fun _ _ q hq => by cases hq⟩
  | p :: ps, θ, hr, hs => by
    have hr : (match a_lget L p.1 with
      | some v => a_bindK N E θ p.2 v (fun θ => a_bindLK N E L f ps θ)
      | none => none) = some r := hr
    split at hr
    · rename_i v hg
      obtain ⟨z, hz, hv⟩ := a_lget_ok hL hg
      obtain ⟨θ1, hr, e1, s1, k1⟩ := a_bindK_ok hr he hv hs
      obtain ⟨θ2, hr, e2, s2, k2⟩ := a_bindLK_ok he hL hr s1
      refine ⟨θ2, hr, e1.trans e2, s2, fun σ hσ q hq => ?_⟩
      rcases List.mem_cons.mp hq with e | e
      · rw [e]; exact ⟨z, hz, k1 σ (hσ.sub e2)⟩
      · exact k2 σ hσ q e
    · cases hr
theorem a_thK_ok {β : Type} {N n : Nat} {θ : aTh} {s : Nat} {o : Int} {f : Nat → Int → Option β} {r : β} (hr : a_thK N θ s o f = some r) (hs : aThS n N θ) : ∃ s' o', f s' o' = some r ∧ s' ≤ n ∧ s ≤ N ∧ ∀ ρ σ, aVal ρ σ θ → aev σ s o = aev ρ s' o' := by
  unfold a_thK at hr
  rcases x_condT hr with ⟨hc, hr⟩ | ⟨-, hr⟩
  · have hc := Nat.le_of_ble_eq_true hc
    cases s with
    | zero => exact ⟨0, o, hr, Nat.zero_le _, hc, fun _ _ _ => rfl⟩
    | succ j =>
      have hr : (match a_th θ j with
        | some e => x_kZ (e.2 + o) (fun o => f e.1 o)
        | none => none) = some r := hr
      split at hr
      · rename_i e he
        rw [x_kZ_eq] at hr
        refine ⟨_, _, hr, (hs j e he).1, hc, fun ρ σ hσ => ?_⟩
        show σ j + o = _
        rw [hσ j e he, aev_add]
      · cases hr
  · cases hr
theorem a_bindOK_ok {β : Type} {X : aX} {N : Nat} {q : aQ} {h : zH} {ρ : Nat → Int} {f : aTh → Option β} {r : β} (g : aDen X ρ q h) : ∀ {ps : aO} {θ : aTh}, a_bindOK N q f ps θ = some r → aThS q.1 N θ → ∃ θ', f θ' = some r ∧ aExt θ θ' ∧ aThS q.1 N θ' ∧ ∀ σ, aVal ρ σ θ' → aOv σ N ps h
  | [], θ, hr, hs => ⟨θ, hr, aExt.refl _, hs, fun _ _ q hq => by cases hq⟩
  | p :: ps, θ, hr, hs => by
    have hr : a_thK N θ p.1.2.1 p.1.2.2 (fun s o => match a_oget q.2.2.2.1 p.1.1 s o with
      | some v => a_bindK N q.2.1 θ p.2 v (fun θ => a_bindOK N q f ps θ)
      | none => none) = some r := hr
    obtain ⟨s, o, hr, hs1, hs2, hk⟩ := a_thK_ok hr hs
    split at hr
    · rename_i v hg
      obtain ⟨h0, hv⟩ := a_oget_ok g.2.2.1 hg
      obtain ⟨θ1, hr, e1, s1, k1⟩ := a_bindK_ok hr g.1.1 hv hs
      obtain ⟨θ2, hr, e2, s2, k2⟩ := a_bindOK_ok g hr s1
      refine ⟨θ2, hr, e1.trans e2, s2, fun σ hσ x hx => ?_⟩
      rcases List.mem_cons.mp hx with e | e
      · rw [e]
        have hi := hk ρ σ (hσ.sub (e1.trans e2))
        refine ⟨hs2, by rw [hi]; exact h0, ?_⟩
        rw [hi]
        exact k1 σ (hσ.sub e2)
      · exact k2 σ hσ x e
    · cases hr
theorem a_all_ok {α : Type} {f : α → Bool} : ∀ {l : List α}, a_all f l = true → ∀ x ∈ l, f x = true
  | [], _, x, hx => by cases hx
  | a :: l, h, x, hx => by
    have h : (f a && a_all f l) = true := h
    rw [Bool.and_eq_true] at h
    rcases List.mem_cons.mp hx with e | e
    · rw [e]; exact h.1
    · exact a_all_ok h.2 x e
theorem a_any_ok {α : Type} {f : α → Bool} : ∀ {l : List α}, a_any f l = true → ∃ x ∈ l, f x = true
  | [], h => by cases h
  | a :: l, h => by
    have h : (f a || a_any f l) = true := h
    rw [Bool.or_eq_true] at h
    rcases h with h | h
    · exact ⟨a, List.mem_cons_self, h⟩
    · obtain ⟨x, h1, h2⟩ := a_any_ok h
      exact ⟨x, List.mem_cons_of_mem _ h1, h2⟩
theorem a_memN_ok {j : Nat} : ∀ {l : List Nat}, a_memN j l = true → j ∈ l
  | [], h => by cases h
  | a :: l, h => by
    have h : (Nat.beq a j || a_memN j l) = true := h
    rw [Bool.or_eq_true] at h
    rcases h with h | h
    · rw [Nat.eq_of_beq_eq_true h]; exact List.mem_cons_self
    · exact List.mem_cons_of_mem _ (a_memN_ok h)
theorem a_ins_scope {n i : Nat} {c : Int} (hi : i < n) : ∀ {l : List (Int × Nat)}, aScope n l → aScope n (a_ins c i l)
  | [], _ => fun p hp => by
    have : p = (c, i) := List.mem_singleton.mp hp
    rw [this]; exact hi
  | a :: t, hl => by
    intro p hp
    have hp : p ∈ cond (Nat.beq a.2 i) (cond (@decide (a.1 + c = 0) (a_decEqZ _ _)) t ((a.1 + c, i) :: t)) (a :: a_ins c i t) := hp
    have ht : aScope n t := fun q hq => hl q (List.mem_cons_of_mem _ hq)
    cases hb : Nat.beq a.2 i with
    | true =>
      rw [hb] at hp
      have hp : p ∈ cond (@decide (a.1 + c = 0) (a_decEqZ _ _)) t ((a.1 + c, i) :: t) := hp
      cases hd : @decide (a.1 + c = 0) (a_decEqZ _ _) with
      | true => rw [hd] at hp; exact ht p hp
      | false =>
        rw [hd] at hp
        rcases List.mem_cons.mp hp with e | e
        · rw [e]; exact hi
        · exact ht p e
    | false =>
      rw [hb] at hp
      rcases List.mem_cons.mp hp with e | e
      · rw [e]; exact hl a List.mem_cons_self
      · exact a_ins_scope hi ht p e
theorem a_subF_ok {n N : Nat} {θ : aTh} (hs : aThS n N θ) : ∀ {ts : List (Int × Nat)} {r : List (Int × Nat) × Int}, a_subF θ ts = some r → aScope n r.1 ∧ ∀ ρ σ, aVal ρ σ θ → alin σ ts = alin ρ r.1 + r.2
  | [], r, h => by
    cases h
    exact ⟨fun p hp => (by cases hp), fun _ _ _ => rfl⟩
  | p :: ts, r, h => by
    have h : (match a_subF θ ts with
      | some r => match a_th θ p.2 with
        | some e => Nat.rec (motive := fun _ => Option (List (Int × Nat) × Int)) (some (r.1, p.1 * e.2 + r.2)) (fun i _ => some (a_ins p.1 i r.1, p.1 * e.2 + r.2)) e.1
        | none => none
      | none => none) = some r := h
    split at h
    · rename_i r0 hr0
      obtain ⟨i1, i2⟩ := a_subF_ok hs hr0
      split at h
      · rename_i e he
        obtain ⟨e1, e2⟩ := e
        have hse := (hs _ _ he).1
        cases e1 with
        | zero =>
          have h : some (r0.1, p.1 * e2 + r0.2) = some r := h
          cases h
          refine ⟨i1, fun ρ σ hσ => ?_⟩
          show p.1 * σ p.2 + alin σ ts = alin ρ r0.1 + (p.1 * e2 + r0.2)
          rw [i2 ρ σ hσ, hσ _ _ he]
          show p.1 * e2 + _ = _
          omega
        | succ i =>
          have h : some (a_ins p.1 i r0.1, p.1 * e2 + r0.2) = some r := h
          cases h
          refine ⟨a_ins_scope hse i1, fun ρ σ hσ => ?_⟩
          show p.1 * σ p.2 + alin σ ts = alin ρ (a_ins p.1 i r0.1) + (p.1 * e2 + r0.2)
          rw [i2 ρ σ hσ, hσ _ _ he, a_ins_ok]
          show p.1 * (ρ i + e2) + _ = _
          rw [Int.mul_add]
          omega
      · cases h
    · cases h
theorem a_rest_ok {X : aX} {lenS : Bool} {p q : aQ} {θ : aTh} {ρ σ : Nat → Int} {h : zH} (hr : a_rest lenS p q θ = true) (g : aDen X ρ q h) (hlen : lenS = true → X.1.2.2 = true) (hs : aThS q.1 p.1 θ) (hσ : aVal ρ σ θ) : aEnv σ p.1 p.2.1 p.2.2.1 ∧ (∀ j ∈ p.2.2.2.2, X.2.2.1 j h) ∧ (lenS = true → 0 < p.1 ∧ σ 0 = (X.2.1.1 : Int)) := by
  unfold a_rest at hr
  rw [Bool.and_eq_true, Bool.and_eq_true, Bool.and_eq_true] at hr
  obtain ⟨h1, h2, h3, h4⟩ := hr
  refine ⟨⟨fun x hx => ?_, fun x hx => ?_⟩, fun j hj => g.2.2.2.1 j (a_memN_ok (a_all_ok h3 j hj)), fun hl => ?_⟩
  · have hb := a_all_ok h1 x hx
    unfold a_inE at hb
    rw [Bool.and_eq_true] at hb
    obtain ⟨b1, b2⟩ := hb
    refine ⟨Nat.le_of_ble_eq_true b1, ?_⟩
    split at b2
    · rename_i e he
      rw [hσ _ _ he]
      rw [Bool.or_eq_true] at b2
      rcases b2 with b2 | b2
      · split at b2
        · rename_i b hb
          obtain ⟨l, u, hf, c1, c2⟩ := a_rngK_ok (ρ := ρ) hb g.1.1
          have hf := Option.some.inj hf
          rw [b2, Bool.and_eq_true, a_dec_eq, a_dec_eq] at hf
          have c1 : l ≤ aev ρ e.1 e.2 := c1
          have c2 : aev ρ e.1 e.2 ≤ u := c2
          omega
        · cases b2
      · rw [Bool.and_eq_true] at b2
        have d1 := a_leq_ok g b2.1
        have d2 := a_leq_ok g b2.2
        have d1 : x.2.1 ≤ aev ρ e.1 e.2 + 0 := d1
        have d2 : aev ρ e.1 e.2 ≤ x.2.2 + 0 := d2
        omega
    · cases b2
  · have hb := a_all_ok h2 x hx
    unfold a_inF at hb
    rw [Bool.and_eq_true] at hb
    obtain ⟨b1, b2⟩ := hb
    refine ⟨fun p hp => Nat.le_of_ble_eq_true (a_all_ok b1 p hp), ?_⟩
    split at b2
    · rename_i r hr
      have e := (a_subF_ok hs hr).2 ρ σ hσ
      have d := a_ent_ok g.1 3 b2
      omega
    · cases b2
  · rw [hl] at h4
    have h4 : (Nat.blt 0 p.1 && (match a_th θ 0 with
      | some e => Nat.beq e.1 1 && @decide (e.2 = 0) (a_decEqZ _ _)
      | none => false)) = true := h4
    rw [Bool.and_eq_true] at h4
    refine ⟨Nat.le_of_ble_eq_true h4.1, ?_⟩
    have h5 := h4.2
    split at h5
    · rename_i e he
      rw [Bool.and_eq_true, a_dec_eq] at h5
      rw [hσ _ _ he, Nat.eq_of_beq_eq_true h5.1, h5.2]
      show ρ 0 + 0 = _
      rw [Int.add_zero]
      exact (g.2.2.2.2.2 (hlen hl)).2
    · cases h5
theorem a_id_th {k j : Nat} : a_th (a_id k) j = if j < k then some (j + 1, 0) else none := by
  induction k with
  | zero => rw [if_neg (by omega)]; rfl
  | succ k ih =>
    show a_th ((k, k + 1, 0) :: a_id k) j = _
    rw [a_th_cons, ih]
    by_cases h : k = j
    · subst h
      rw [if_pos rfl, if_pos (by omega)]
    · rw [if_neg h]
      by_cases h2 : j < k
      · rw [if_pos h2, if_pos (by omega)]
      · rw [if_neg h2, if_neg (by omega)]
theorem a_id_scope {n N k : Nat} (hk : k ≤ n) (hN : k ≤ N) : aThS n N (a_id k) := by
  intro j e h
  rw [a_id_th] at h
  by_cases h2 : j < k
  · rw [if_pos h2] at h
    cases h
    exact ⟨by show j + 1 ≤ n; omega, by omega⟩
  · rw [if_neg h2] at h
    cases h
theorem a_id_ag {k : Nat} {ρ σ : Nat → Int} {θ : aTh} (he : aExt (a_id k) θ) (hσ : aVal ρ σ θ) : aAg ρ σ k := by
  intro j hj
  rw [hσ j (j + 1, 0) (he j _ (by rw [a_id_th, if_pos hj]))]
  show ρ j + 0 = ρ j
  omega
