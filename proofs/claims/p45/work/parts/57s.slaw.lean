/-! HINTS OF THE LAW: the script's places, split at bounds -/
noncomputable def a_splitS (loc : Nat) (off : Int) (bs : List Int) (st : aS) : Option (List aS) := match a_lget st.2.1 loc with
  | some v => x_kN v.2.1 (fun s => x_kZ (v.2.2 + off) (fun o => match a_oget st.1.2.2.2.1 1000 s o with
    | some w => cond (Nat.beq w.1 0) (a_splitR w st.2.1 st.2.2 bs st.1) none
    | none => cond (a_leq st.1 (0, 0, 0) (0, s, o) 0) (a_anyK 0 st.1 (fun q w => a_splitR w st.2.1 st.2.2 bs (a_addO q ((1000, s, o), w)))) none))
  | none => none
/-! the trays of both: missing in both, or alike in sort and length -/
def rTr (t : Nat) (h : zH) : Prop := ((h (2 + 2 * t) 1).2 = -1 ∧ (h 123 t).2 = -1) ∨ (0 ≤ (h (2 + 2 * t) 1).2 ∧ (h (2 + 2 * t) 1).2 ≤ 3 ∧ (h 122 t).2 = (h (2 + 2 * t) 1).2 ∧ 0 ≤ (h (2 + 2 * t) 2).2 ∧ (h (2 + 2 * t) 2).2 ≤ 60 ∧ (h 123 t).2 = (h (2 + 2 * t) 2).2)
-- the tape is as long in both
def rTl (h : zH) : Prop := (h 10 1).2 = (h 121 8).2
-- flags 355 + t: tray t; 359: the tape; 360: nothing (where it stands, branches are refuted by facts)
def aTrOK (X : aX) : Prop := (∀ t h, t < 4 → (X.2.2.1 (355 + t) h ↔ rTr t h)) ∧ (∀ h, X.2.2.1 360 h) ∧ ∀ h, aTyped X.1.1 h → ∀ t, t < 4 → (h (2 + 2 * t) 1).1 = 0 ∧ (h (2 + 2 * t) 2).1 = 0 ∧ (h 122 t).1 = 0 ∧ (h 123 t).1 = 0
def aTlOK (X : aX) : Prop := (∀ h, X.2.2.1 359 h ↔ rTl h) ∧ ∀ h, aTyped X.1.1 h → (h 10 1).1 = 0 ∧ 0 ≤ (h 10 1).2 ∧ (h 10 1).2 ≤ 900 ∧ (h 121 8).1 = 0
noncomputable def a_openT (t : Nat) (st : aS) : Option (List aS) := cond (a_memF (355 + t) st.1.2.2.2.2 && Nat.blt t 4) (x_kN (2 + 2 * t) (fun r => x_kZ (Int.ofNat t) (fun o => a_newK 0 0 3 st.1 (fun q1 u => a_newK 0 0 60 q1 (fun q2 w => some [(a_addO (a_addO st.1 ((r, 0, 1), (0, 0, -1))) ((123, 0, o), (0, 0, -1)), st.2), (a_addO (a_addO (a_addO (a_addO q2 ((r, 0, 1), u)) ((122, 0, o), u)) ((r, 0, 2), w)) ((123, 0, o), w), st.2)]))))) (some [st])
-- the tray that the script's place names, where it is known
noncomputable def a_openS (loc : Nat) (off : Int) (st : aS) : Option (List aS) := match a_lget st.2.1 loc with
  | some v => match a_oget st.1.2.2.2.1 1000 v.2.1 (v.2.2 + off) with
    | some w => a_rngK st.1.2.1 w (fun lo hi => cond (@decide (lo = hi) (a_decEqZ _ _) && @decide (0 ≤ lo) (a_decLe _ _)) (x_kN lo.toNat (fun t => a_openT t st)) (some [st]))
    | none => some [st]
  | none => none
noncomputable def a_eqW (q : aQ) (x y : aV) : Bool := a_leq q x y 0 && a_leq q y x 0
noncomputable def a_inV (q : aQ) (x : aV) (lo hi : Int) : Bool := match a_rngK q.2.1 x (fun l h => some (@decide (lo ≤ l) (a_decLe _ _) && @decide (h ≤ hi) (a_decLe _ _))) with
  | some b => b
  | none => false
noncomputable def a_isT (t : Nat) (q : aQ) : Bool := match a_oget q.2.2.2.1 (2 + 2 * t) 0 1, a_oget q.2.2.2.1 123 0 (Int.ofNat t) with
  | some a, some d => (a_inV q a (-1) (-1) && a_inV q d (-1) (-1)) || (a_inV q a 0 3 && (match a_oget q.2.2.2.1 122 0 (Int.ofNat t), a_oget q.2.2.2.1 (2 + 2 * t) 0 2 with
    | some b, some c => a_eqW q b a && (a_inV q c 0 60 && a_eqW q d c)
    | _, _ => false))
  | _, _ => false
noncomputable def a_closeT (t : Nat) (st : aS) : aS := cond (a_memF (355 + t) st.1.2.2.2.2) st (cond (a_isT t st.1) ((st.1.1, st.1.2.1, st.1.2.2.1, st.1.2.2.2.1, (355 + t) :: st.1.2.2.2.2), st.2) st)
noncomputable def a_openL (st : aS) : Option (List aS) := cond (a_memF 359 st.1.2.2.2.2) (a_newK 0 0 900 st.1 (fun q w => some [(a_addO (a_addO q ((10, 0, 1), w)) ((121, 0, 8), w), st.2)])) (some [st])
noncomputable def a_closeL (st : aS) : aS := cond (a_memF 359 st.1.2.2.2.2) st (match a_oget st.1.2.2.2.1 10 0 1, a_oget st.1.2.2.2.1 121 0 8 with
  | some a, some b => cond (a_eqW st.1 a b) ((st.1.1, st.1.2.1, st.1.2.2.1, st.1.2.2.2.1, 359 :: st.1.2.2.2.2), st.2) st
  | _, _ => st)
-- facts that can't be together
noncomputable def a_dead (st : aS) : Option (List aS) := cond (a_any (fun x => a_ent st.1.2.1 st.1.2.2.1 3 (a_less [] x.1) (-x.2 - 1)) st.1.2.2.1) (some []) (some [st])
noncomputable def aLmU (k w : Nat) (bs : List Int) (st : aS) : Option (List aS) := cond (Nat.beq k 23) (match bs with
  | loc :: off :: bs => a_splitS loc.toNat off bs st
  | _ => none) (cond (Nat.beq k 22) (some [((st.1.1, st.1.2.1, st.1.2.2.1, st.1.2.2.2.1, 360 :: st.1.2.2.2.2), st.2)]) (cond (Nat.beq k 24) (match bs with
  | [loc, off] => a_openS loc.toNat off st
  | _ => none) (cond (Nat.beq k 25) (match bs with
  | [t] => cond (Nat.blt t.toNat 4) (some [a_closeT t.toNat st]) none
  | _ => none) (cond (Nat.beq k 26) (a_openL st) (cond (Nat.beq k 27) (some [a_closeL st]) (cond (Nat.beq k 28) (a_dead st) (aLmR k w bs st)))))))
theorem a_splitS_ok {X : aX} (hX : aOK X) (hG : X.1.2.2 = true) {loc : Nat} {off : Int} {bs : List Int} {st : aS} {l : List aS} (hr : a_splitS loc off bs st = some l) {ρ : Nat → Int} {z : zS} (g : aStD X ρ st z) : ∃ st' ∈ l, ∃ ρ', aAg ρ ρ' st.1.1 ∧ st.1.1 ≤ st'.1.1 ∧ aStD X ρ' st' z := by
  unfold a_splitS at hr
  split at hr
  · rename_i v hv
    obtain ⟨zv, -, hR⟩ := a_lget_ok g.2.1 hv
    rw [x_kN_eq, x_kZ_eq] at hr
    split at hr
    · rename_i w hg
      obtain ⟨-, hw⟩ := a_oget_ok g.1.2.2.1 hg
      rcases x_condT hr with ⟨-, hr⟩ | ⟨-, hr⟩
      · obtain ⟨st', k1, k2, k3⟩ := a_splitR_ok (X := X) (z := z) hr g hw
        exact ⟨st', k1, ρ, aAg.refl _ _, Nat.le_of_eq k2.symm, k3⟩
      · cases hr
    · rcases x_condT hr with ⟨hc, hr⟩ | ⟨-, hr⟩
      · have h0 : (0 : Int) ≤ aev ρ v.2.1 (v.2.2 + off) + 0 := a_leq_ok g.1 hc
        obtain ⟨j, hj⟩ : ∃ j, j = (aev ρ v.2.1 (v.2.2 + off)).toNat := ⟨_, rfl⟩
        have hsc : z.1 1000 j = (0, X.2.1.2 j) := (g.1.2.2.2.2.1 1000 _ (hX.1.2 hG _).2).trans (hX.1.2 hG _).1
        obtain ⟨q', w, ρ', hf, ha, hn, g', hw⟩ := a_anyK_ok hr g.1 (hX.2.1 j).1 (hX.2.1 j).2
        have hs' := aev_ag ha (o := v.2.2 + off) hR.1
        have g2 : aStD X ρ' (a_addO q' ((1000, v.2.1, v.2.2 + off), w), st.2.1, st.2.2) z := ⟨g'.addO (e := ((1000, v.2.1, v.2.2 + off), w)) (by show v.2.1 ≤ q'.1; have := hR.1; omega) (by show 0 ≤ aev ρ' v.2.1 (v.2.2 + off); rw [hs']; omega) (by show aR ρ' q'.1 w (z.1 1000 (aev ρ' v.2.1 (v.2.2 + off)).toNat); rw [hs', ← hj, hsc]; exact hw), g.2.1.mono hn ha, g.2.2.mono hn ha⟩
        obtain ⟨st', k1, k2, k3⟩ := a_splitR_ok (X := X) (z := z) hf g2 hw
        exact ⟨st', k1, ρ', ha, by rw [k2]; exact hn, k3⟩
      · cases hr
  · cases hr
theorem a_inV_ok {X : aX} {ρ : Nat → Int} {q : aQ} {h : zH} (g : aDen X ρ q h) {x : aV} {lo hi : Int} (hb : a_inV q x lo hi = true) : lo ≤ aev ρ x.2.1 x.2.2 ∧ aev ρ x.2.1 x.2.2 ≤ hi := by
  unfold a_inV at hb
  split at hb
  · rename_i b hk
    obtain ⟨l, u, hk, k1, k2⟩ := a_rngK_ok hk g.1.1
    have hk := Option.some.inj hk
    rw [hb, Bool.and_eq_true, a_dec_eq, a_dec_eq] at hk
    omega
  · cases hb
theorem a_eqW_ok {X : aX} {ρ : Nat → Int} {q : aQ} {h : zH} (g : aDen X ρ q h) {x y : aV} (hb : a_eqW q x y = true) : aev ρ x.2.1 x.2.2 = aev ρ y.2.1 y.2.2 := by
  unfold a_eqW at hb
  rw [Bool.and_eq_true] at hb
  have h1 := a_leq_ok g hb.1
  have h2 := a_leq_ok g hb.2
  omega
theorem a_at0 {ρ : Nat → Int} {k : Nat} : (aev ρ 0 (Int.ofNat k)).toNat = k := rfl
theorem aDen.addP {X : aX} {ρ : Nat → Int} {q : aQ} {h : zH} (g : aDen X ρ q h) {r k : Nat} {v : aV} (hv : aR ρ q.1 v (h r k)) : aDen X ρ (a_addO q ((r, 0, Int.ofNat k), v)) h := g.addO (e := ((r, 0, Int.ofNat k), v)) (Nat.zero_le _) (Int.natCast_nonneg k) hv
theorem a_openT_ok {X : aX} (hT : aTrOK X) {t : Nat} {st : aS} {l : List aS} (hr : a_openT t st = some l) {ρ : Nat → Int} {z : zS} (g : aStD X ρ st z) : ∃ st' ∈ l, ∃ ρ', aAg ρ ρ' st.1.1 ∧ st.1.1 ≤ st'.1.1 ∧ aStD X ρ' st' z := by
  unfold a_openT at hr
  rcases x_condT hr with ⟨hc, hr⟩ | ⟨-, hr⟩
  · rw [Bool.and_eq_true] at hc
    have ht : t < 4 := Nat.le_of_ble_eq_true hc.2
    have hR : rTr t z.1 := (hT.1 t z.1 ht).mp (g.1.2.2.2.1 _ (a_memF_ok hc.1))
    obtain ⟨k1, k2, k3, k4⟩ := hT.2.2 z.1 g.1.2.1 t ht
    rw [x_kN_eq, x_kZ_eq, a_newK_eq, a_newK_eq] at hr
    cases hr
    rcases hR with ⟨a1, a2⟩ | ⟨b1, b2, b3, b4, b5, b6⟩
    · refine ⟨_, List.mem_cons_self, ρ, aAg.refl _ _, Nat.le_refl _, ⟨?_, g.2.1, g.2.2⟩⟩
      exact (g.1.addP (r := 2 + 2 * t) (k := 1) (v := (0, 0, -1)) ⟨Nat.zero_le _, Prod.ext k1 a1⟩).addP (r := 123) (k := t) (v := (0, 0, -1)) ⟨Nat.zero_le _, Prod.ext k4 a2⟩
    · have g1 := (g.1.push (lo := 0) (hi := 3) b1 b2).push (lo := 0) (hi := 60) b4 b5
      obtain ⟨ρ2, hρ2⟩ : ∃ ρ2, ρ2 = aup (aup ρ st.1.1 (z.1 (2 + 2 * t) 1).2) (st.1.1 + 1) (z.1 (2 + 2 * t) 2).2 := ⟨_, rfl⟩
      have e1 : ρ2 st.1.1 = (z.1 (2 + 2 * t) 1).2 := by
        rw [hρ2]
        exact (if_neg (by omega)).trans (aup_at _ _ _)
      have e2 : ρ2 (st.1.1 + 1) = (z.1 (2 + 2 * t) 2).2 := by
        rw [hρ2]
        exact aup_at _ _ _
      have ag : aAg ρ ρ2 st.1.1 := by
        rw [hρ2]
        exact (aup_ag ρ st.1.1 _).trans (aup_ag _ (st.1.1 + 1) _) (Nat.le_succ _)
      have g1 : aDen X ρ2 (st.1.1 + 1 + 1, (st.1.1 + 1, 0, 60) :: (st.1.1, 0, 3) :: st.1.2.1, st.1.2.2) z.1 := by
        rw [hρ2]
        exact g1
      have hn : st.1.1 ≤ st.1.1 + 1 + 1 := by omega
      have vu : ∀ x : zV, x.1 = 0 → x.2 = ρ2 st.1.1 → aR ρ2 (st.1.1 + 1 + 1) (0, st.1.1 + 1, 0) x := fun x h1 h2 => ⟨by show st.1.1 + 1 ≤ st.1.1 + 1 + 1; omega, Prod.ext h1 (by show x.2 = ρ2 st.1.1 + 0; omega)⟩
      have vw : ∀ x : zV, x.1 = 0 → x.2 = ρ2 (st.1.1 + 1) → aR ρ2 (st.1.1 + 1 + 1) (0, st.1.1 + 1 + 1, 0) x := fun x h1 h2 => ⟨Nat.le_refl _, Prod.ext h1 (by show x.2 = ρ2 (st.1.1 + 1) + 0; omega)⟩
      refine ⟨_, List.mem_cons_of_mem _ List.mem_cons_self, ρ2, ag, hn, ⟨?_, g.2.1.mono hn ag, g.2.2.mono hn ag⟩⟩
      exact (((g1.addP (r := 2 + 2 * t) (k := 1) (vu _ k1 e1.symm)).addP (r := 122) (k := t) (vu _ k3 (b3.trans e1.symm))).addP (r := 2 + 2 * t) (k := 2) (vw _ k2 e2.symm)).addP (r := 123) (k := t) (vw _ k4 (b6.trans e2.symm))
  · cases hr
    exact ⟨st, List.mem_cons_self, ρ, aAg.refl _ _, Nat.le_refl _, g⟩
theorem a_openS_ok {X : aX} (hT : aTrOK X) {loc : Nat} {off : Int} {st : aS} {l : List aS} (hr : a_openS loc off st = some l) {ρ : Nat → Int} {z : zS} (g : aStD X ρ st z) : ∃ st' ∈ l, ∃ ρ', aAg ρ ρ' st.1.1 ∧ st.1.1 ≤ st'.1.1 ∧ aStD X ρ' st' z := by
  have here : some [st] = some l → ∃ st' ∈ l, ∃ ρ', aAg ρ ρ' st.1.1 ∧ st.1.1 ≤ st'.1.1 ∧ aStD X ρ' st' z := fun e => by
    cases e
    exact ⟨st, List.mem_cons_self, ρ, aAg.refl _ _, Nat.le_refl _, g⟩
  unfold a_openS at hr
  split at hr
  · split at hr
    · obtain ⟨lo, hi, hr, -, -⟩ := a_rngK_ok (ρ := ρ) hr g.1.1.1
      rcases x_condT hr with ⟨-, hr⟩ | ⟨-, hr⟩
      · rw [x_kN_eq] at hr
        exact a_openT_ok hT hr g
      · exact here hr
    · exact here hr
  · cases hr
theorem a_isT_ok {X : aX} {ρ : Nat → Int} {q : aQ} {h : zH} (g : aDen X ρ q h) {t : Nat} (hb : a_isT t q = true) : rTr t h := by
  unfold a_isT at hb
  split at hb
  · rename_i a d ha hd
    have ra : aR ρ q.1 a (h (2 + 2 * t) 1) := (a_oget_ok g.2.2.1 ha).2
    have rd : aR ρ q.1 d (h 123 t) := (a_oget_ok g.2.2.1 hd).2
    have va := aR_val ra
    have vd := aR_val rd
    rw [Bool.or_eq_true, Bool.and_eq_true, Bool.and_eq_true] at hb
    rcases hb with ⟨b1, b2⟩ | ⟨b1, hb⟩
    · have b1 := a_inV_ok g b1
      have b2 := a_inV_ok g b2
      exact Or.inl ⟨by omega, by omega⟩
    · have b1 := a_inV_ok g b1
      split at hb
      · rename_i b c hb' hc
        have rb : aR ρ q.1 b (h 122 t) := (a_oget_ok g.2.2.1 hb').2
        have rc : aR ρ q.1 c (h (2 + 2 * t) 2) := (a_oget_ok g.2.2.1 hc).2
        have vb := aR_val rb
        have vc := aR_val rc
        rw [Bool.and_eq_true, Bool.and_eq_true] at hb
        have c1 := a_eqW_ok g hb.1
        have c2 := a_inV_ok g hb.2.1
        have c3 := a_eqW_ok g hb.2.2
        exact Or.inr ⟨by omega, by omega, by omega, by omega, by omega, by omega⟩
      · cases hb
  · cases hb
theorem aDen.addF {X : aX} {ρ : Nat → Int} {q : aQ} {h : zH} (g : aDen X ρ q h) {j : Nat} (hj : X.2.2.1 j h) : aDen X ρ (q.1, q.2.1, q.2.2.1, q.2.2.2.1, j :: q.2.2.2.2) h := ⟨g.1, g.2.1, g.2.2.1, fun i hi => by
  rcases List.mem_cons.mp hi with e | e
  · rw [e]; exact hj
  · exact g.2.2.2.1 i e, g.2.2.2.2⟩
theorem a_closeT_ok {X : aX} (hT : aTrOK X) {t : Nat} (ht : t < 4) {st : aS} {ρ : Nat → Int} {z : zS} (g : aStD X ρ st z) : st.1.1 ≤ (a_closeT t st).1.1 ∧ aStD X ρ (a_closeT t st) z := by
  unfold a_closeT
  cases a_memF (355 + t) st.1.2.2.2.2 with
  | true => exact ⟨Nat.le_refl _, g⟩
  | false =>
    cases hb : a_isT t st.1 with
    | true => exact ⟨Nat.le_refl _, g.1.addF ((hT.1 t z.1 ht).mpr (a_isT_ok g.1 hb)), g.2.1, g.2.2⟩
    | false => exact ⟨Nat.le_refl _, g⟩
theorem a_openL_ok {X : aX} (hT : aTlOK X) {st : aS} {l : List aS} (hr : a_openL st = some l) {ρ : Nat → Int} {z : zS} (g : aStD X ρ st z) : ∃ st' ∈ l, ∃ ρ', aAg ρ ρ' st.1.1 ∧ st.1.1 ≤ st'.1.1 ∧ aStD X ρ' st' z := by
  unfold a_openL at hr
  rcases x_condT hr with ⟨hc, hr⟩ | ⟨-, hr⟩
  · have hR : rTl z.1 := (hT.1 z.1).mp (g.1.2.2.2.1 _ (a_memF_ok hc))
    obtain ⟨k1, k2, k3, k4⟩ := hT.2 z.1 g.1.2.1
    rw [a_newK_eq] at hr
    cases hr
    have ag := aup_ag ρ st.1.1 (z.1 10 1).2
    have hn := Nat.le_succ st.1.1
    have g1 := g.1.push (lo := 0) (hi := 900) k2 k3
    have e1 : aup ρ st.1.1 (z.1 10 1).2 st.1.1 = (z.1 10 1).2 := aup_at _ _ _
    have vu : ∀ x : zV, x.1 = 0 → x.2 = (z.1 10 1).2 → aR (aup ρ st.1.1 (z.1 10 1).2) (st.1.1 + 1) (0, st.1.1 + 1, 0) x := fun x h1 h2 => ⟨Nat.le_refl _, Prod.ext h1 (by show x.2 = aup ρ st.1.1 (z.1 10 1).2 st.1.1 + 0; omega)⟩
    refine ⟨_, List.mem_cons_self, _, ag, hn, ⟨?_, g.2.1.mono hn ag, g.2.2.mono hn ag⟩⟩
    exact (g1.addP (r := 10) (k := 1) (vu _ k1 rfl)).addP (r := 121) (k := 8) (vu _ k4 hR.symm)
  · cases hr
    exact ⟨st, List.mem_cons_self, ρ, aAg.refl _ _, Nat.le_refl _, g⟩
theorem a_closeL_ok {X : aX} (hT : aTlOK X) {st : aS} {ρ : Nat → Int} {z : zS} (g : aStD X ρ st z) : st.1.1 ≤ (a_closeL st).1.1 ∧ aStD X ρ (a_closeL st) z := by
  unfold a_closeL
  cases a_memF 359 st.1.2.2.2.2 with
  | true => exact ⟨Nat.le_refl _, g⟩
  | false =>
    show st.1.1 ≤ (match a_oget st.1.2.2.2.1 10 0 1, a_oget st.1.2.2.2.1 121 0 8 with
      | some a, some b => cond (a_eqW st.1 a b) ((st.1.1, st.1.2.1, st.1.2.2.1, st.1.2.2.2.1, 359 :: st.1.2.2.2.2), st.2) st
      | _, _ => st).1.1 ∧ aStD X ρ (match a_oget st.1.2.2.2.1 10 0 1, a_oget st.1.2.2.2.1 121 0 8 with
      | some a, some b => cond (a_eqW st.1 a b) ((st.1.1, st.1.2.1, st.1.2.2.1, st.1.2.2.2.1, 359 :: st.1.2.2.2.2), st.2) st
      | _, _ => st) z
    split
    · rename_i a b ha hb
      cases hc : a_eqW st.1 a b with
      | false => exact ⟨Nat.le_refl _, g⟩
      | true =>
        have ra : aR ρ st.1.1 a (z.1 10 1) := (a_oget_ok g.1.2.2.1 ha).2
        have rb : aR ρ st.1.1 b (z.1 121 8) := (a_oget_ok g.1.2.2.1 hb).2
        refine ⟨Nat.le_refl _, g.1.addF ((hT.1 z.1).mpr ?_), g.2.1, g.2.2⟩
        show (z.1 10 1).2 = (z.1 121 8).2
        rw [aR_val ra, aR_val rb]
        exact a_eqW_ok g.1 hc
    · exact ⟨Nat.le_refl _, g⟩
theorem a_dead_ok {X : aX} {st : aS} {l : List aS} (hr : a_dead st = some l) {ρ : Nat → Int} {z : zS} (g : aStD X ρ st z) : ∃ st' ∈ l, ∃ ρ', aAg ρ ρ' st.1.1 ∧ st.1.1 ≤ st'.1.1 ∧ aStD X ρ' st' z := by
  unfold a_dead at hr
  rcases x_condT hr with ⟨hc, -⟩ | ⟨-, hr⟩
  · exfalso
    obtain ⟨x, hx, hq⟩ := a_any_ok hc
    have k := a_ent_ok g.1.1 3 hq
    rw [a_less_ok] at k
    have e0 : alin ρ [] = 0 := rfl
    have := (g.1.1.2 x hx).2
    omega
  · cases hr
    exact ⟨st, List.mem_cons_self, ρ, aAg.refl _ _, Nat.le_refl _, g⟩
theorem aLmU_ok {X : aX} (hX : aOK X) (hG : X.1.2.2 = true) (hT : aTrOK X) (hL : aTlOK X) (hR : aLmOK X aLmR) : aLmOK X aLmU := by
  intro k w bs st l hr ρ z g
  unfold aLmU at hr
  rcases x_condT hr with ⟨-, hr⟩ | ⟨-, hr⟩
  · split at hr
    · exact a_splitS_ok hX hG hr g
    · cases hr
  rcases x_condT hr with ⟨-, hr⟩ | ⟨-, hr⟩
  · cases hr
    exact ⟨_, List.mem_cons_self, ρ, aAg.refl _ _, Nat.le_refl _, g.1.addF (hT.2.1 _), g.2.1, g.2.2⟩
  rcases x_condT hr with ⟨-, hr⟩ | ⟨-, hr⟩
  · split at hr
    · exact a_openS_ok hT hr g
    · cases hr
  rcases x_condT hr with ⟨-, hr⟩ | ⟨-, hr⟩
  · split at hr
    · rename_i t
      rcases x_condT hr with ⟨ht, hr⟩ | ⟨-, hr⟩
      · cases hr
        obtain ⟨h1, h2⟩ := a_closeT_ok hT (Nat.le_of_ble_eq_true ht) g
        exact ⟨_, List.mem_cons_self, ρ, aAg.refl _ _, h1, h2⟩
      · cases hr
    · cases hr
  rcases x_condT hr with ⟨-, hr⟩ | ⟨-, hr⟩
  · exact a_openL_ok hL hr g
  rcases x_condT hr with ⟨-, hr⟩ | ⟨-, hr⟩
  · cases hr
    obtain ⟨h1, h2⟩ := a_closeL_ok hL g
    exact ⟨_, List.mem_cons_self, ρ, aAg.refl _ _, h1, h2⟩
  rcases x_condT hr with ⟨-, hr⟩ | ⟨-, hr⟩
  · exact a_dead_ok hr g
  exact hR k w bs st l hr ρ z g
