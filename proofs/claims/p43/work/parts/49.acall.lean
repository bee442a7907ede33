/-! THE WATCHER'S CONTRACTS, USED -/
theorem a_gath_ok {α β : Type} {f : α → Option (List β)} : ∀ {l : List α} {r : List β}, a_gath f l = some r → ∀ x ∈ l, ∃ rx, f x = some rx ∧ ∀ o ∈ rx, o ∈ r
  | [], _, _, x, hx => by cases hx
  | [a], r, h, x, hx => by
    have h : f a = some r := h
    rcases List.mem_cons.mp hx with e | e
    · rw [e]
      exact ⟨r, h, fun o ho => ho⟩
    · cases e
  | a :: b :: l, r, h, x, hx => by
    have h : a_app (f a) (a_gath f (b :: l)) = some r := h
    obtain ⟨ra, rb, h1, h2, h3⟩ := a_app_ok h
    rw [h3]
    rcases List.mem_cons.mp hx with e | e
    · rw [e]
      exact ⟨ra, h1, fun o ho => List.mem_append.mpr (Or.inl ho)⟩
    · obtain ⟨rx, k1, k2⟩ := a_gath_ok h2 x e
      exact ⟨rx, k1, fun o ho => List.mem_append.mpr (Or.inr (k2 o ho))⟩
theorem a_ext_th {kn n0 c : Nat} {θ : aTh} {j : Nat} : a_th (a_ext kn n0 c θ) j = if kn ≤ j ∧ j < kn + c then some (n0 + (j - kn) + 1, 0) else a_th θ j := by
  induction c with
  | zero => rw [if_neg (by omega)]; rfl
  | succ c ih =>
    show a_th ((kn + c, n0 + c + 1, 0) :: a_ext kn n0 c θ) j = _
    rw [a_th_cons, ih]
    by_cases h : kn + c = j
    · subst h
      rw [if_pos rfl, if_pos (by omega), Nat.add_sub_cancel_left]
    · rw [if_neg h]
      by_cases h2 : kn ≤ j ∧ j < kn + c
      · rw [if_pos h2, if_pos (by omega)]
      · rw [if_neg h2, if_neg (by omega)]
-- the caller's unknowns, then the callee's new ones
def aGlue (ρ ρp : Nat → Int) (n kn : Nat) : Nat → Int := fun i => if i < n then ρ i else ρp (kn + (i - n))
theorem aGlue_ag (ρ ρp : Nat → Int) (n kn : Nat) : aAg ρ (aGlue ρ ρp n kn) n := fun i hi => if_pos hi
theorem a_ext_ok {ρ ρp σ : Nat → Int} {n kn c : Nat} {θ : aTh} (hs : aThS n kn θ) (hσ : aVal ρ σ θ) (ha : aAg σ ρp kn) : aVal (aGlue ρ ρp n kn) ρp (a_ext kn n c θ) ∧ aThS (n + c) (kn + c) (a_ext kn n c θ) := by
  refine ⟨fun j e he => ?_, fun j e he => ?_⟩
  · rw [a_ext_th] at he
    by_cases h2 : kn ≤ j ∧ j < kn + c
    · rw [if_pos h2] at he
      cases he
      show ρp j = (if n + (j - kn) < n then ρ (n + (j - kn)) else ρp (kn + (n + (j - kn) - n))) + 0
      rw [if_neg (by omega), Nat.add_sub_cancel_left, show kn + (j - kn) = j from by omega, Int.add_zero]
    · rw [if_neg h2] at he
      obtain ⟨s1, s2⟩ := hs j e he
      rw [ha j s2, hσ j e he, aev_ag (aGlue_ag ρ ρp n kn) s1]
  · rw [a_ext_th] at he
    by_cases h2 : kn ≤ j ∧ j < kn + c
    · rw [if_pos h2] at he
      cases he
      exact ⟨by show n + (j - kn) + 1 ≤ n + c; omega, h2.2⟩
    · rw [if_neg h2] at he
      obtain ⟨s1, s2⟩ := hs j e he
      exact ⟨by omega, by omega⟩
theorem a_newE_ok {β : Type} {ρ σ : Nat → Int} {n N : Nat} {θ : aTh} {f : aB → Option (List β)} {r : List β} (hs : aThS n N θ) (hσ : aVal ρ σ θ) : ∀ {Es E : aB}, a_newE θ f Es E = some r → (∀ x ∈ Es, x.2.1 ≤ σ x.1 ∧ σ x.1 ≤ x.2.2) → aBnd ρ n E → ∃ E', f E' = some r ∧ aBnd ρ n E'
  | [], E, hr, _, he => ⟨E, hr, he⟩
  | x :: Es, E, hr, hx, he => by
    have hx1 := hx x List.mem_cons_self
    have hxs : ∀ y ∈ Es, y.2.1 ≤ σ y.1 ∧ σ y.1 ≤ y.2.2 := fun y hy => hx y (List.mem_cons_of_mem _ hy)
    have hr : (match a_th θ x.1 with
      | some e => Nat.rec (motive := fun _ => Option (List β)) (cond (@decide (x.2.1 ≤ e.2) (a_decLe _ _) && @decide (e.2 ≤ x.2.2) (a_decLe _ _)) (a_newE θ f Es E) (some [])) (fun i _ => match a_get E i with
        | some u => x_kZ (a_max u.1 (x.2.1 - e.2)) (fun l => x_kZ (a_min u.2 (x.2.2 - e.2)) (fun h => cond (@decide (l ≤ h) (a_decLe _ _)) (x_kN i (fun i => a_newE θ f Es ((i, l, h) :: E))) (some [])))
        | none => x_kZ (x.2.1 - e.2) (fun l => x_kZ (x.2.2 - e.2) (fun h => x_kN i (fun i => a_newE θ f Es ((i, l, h) :: E))))) e.1
      | none => none) = some r := hr
    cases hth : a_th θ x.1 with
    | none => rw [hth] at hr; cases hr
    | some e =>
      rw [hth] at hr
      obtain ⟨e1, e2⟩ := e
      have hv := hσ _ _ hth
      have hsc := (hs _ _ hth).1
      cases e1 with
      | zero =>
        have hr : cond (@decide (x.2.1 ≤ e2) (a_decLe _ _) && @decide (e2 ≤ x.2.2) (a_decLe _ _)) (a_newE θ f Es E) (some []) = some r := hr
        have hv : σ x.1 = e2 := hv
        rw [a_decT (by omega : x.2.1 ≤ e2), a_decT (by omega : e2 ≤ x.2.2)] at hr
        exact a_newE_ok hs hσ hr hxs he
      | succ i =>
        have hv : σ x.1 = ρ i + e2 := hv
        have hi : i < n := hsc
        have hr : (match a_get E i with
          | some u => x_kZ (a_max u.1 (x.2.1 - e2)) (fun l => x_kZ (a_min u.2 (x.2.2 - e2)) (fun h => cond (@decide (l ≤ h) (a_decLe _ _)) (x_kN i (fun i => a_newE θ f Es ((i, l, h) :: E))) (some [])))
          | none => x_kZ (x.2.1 - e2) (fun l => x_kZ (x.2.2 - e2) (fun h => x_kN i (fun i => a_newE θ f Es ((i, l, h) :: E))))) = some r := hr
        cases hg : a_get E i with
        | none =>
          rw [hg] at hr
          have hr : x_kZ (x.2.1 - e2) (fun l => x_kZ (x.2.2 - e2) (fun h => x_kN i (fun i => a_newE θ f Es ((i, l, h) :: E)))) = some r := hr
          rw [x_kZ_eq, x_kZ_eq, x_kN_eq] at hr
          refine a_newE_ok hs hσ hr hxs (fun y hy => ?_)
          rcases List.mem_cons.mp hy with e | e
          · rw [e]
            exact ⟨hi, by show x.2.1 - e2 ≤ ρ i; omega, by show ρ i ≤ x.2.2 - e2; omega⟩
          · exact he y e
        | some u =>
          rw [hg] at hr
          obtain ⟨-, u1, u2⟩ := a_get_ok he hg
          have hr : x_kZ (a_max u.1 (x.2.1 - e2)) (fun l => x_kZ (a_min u.2 (x.2.2 - e2)) (fun h => cond (@decide (l ≤ h) (a_decLe _ _)) (x_kN i (fun i => a_newE θ f Es ((i, l, h) :: E))) (some []))) = some r := hr
          rw [x_kZ_eq, x_kZ_eq] at hr
          obtain ⟨-, -, m1⟩ := a_max_ok u.1 (x.2.1 - e2)
          obtain ⟨-, -, m2⟩ := a_min_ok u.2 (x.2.2 - e2)
          rw [a_decT (by omega : a_max u.1 (x.2.1 - e2) ≤ a_min u.2 (x.2.2 - e2))] at hr
          have hr : x_kN i (fun i => a_newE θ f Es ((i, a_max u.1 (x.2.1 - e2), a_min u.2 (x.2.2 - e2)) :: E)) = some r := hr
          rw [x_kN_eq] at hr
          refine a_newE_ok hs hσ hr hxs (fun y hy => ?_)
          rcases List.mem_cons.mp hy with e | e
          · rw [e]
            exact ⟨hi, by show a_max u.1 (x.2.1 - e2) ≤ ρ i; omega, by show ρ i ≤ a_min u.2 (x.2.2 - e2); omega⟩
          · exact he y e
theorem a_newF_ok {β : Type} {ρ σ : Nat → Int} {n N : Nat} {θ : aTh} {f : List aF → Option β} {r : β} (hs : aThS n N θ) (hσ : aVal ρ σ θ) : ∀ {Fs Gs : List aF}, a_newF θ f Fs Gs = some r → (∀ x ∈ Fs, alin σ x.1 ≤ x.2) → (∀ x ∈ Gs, aScope n x.1 ∧ alin ρ x.1 ≤ x.2) → ∃ Gs', f Gs' = some r ∧ ∀ x ∈ Gs', aScope n x.1 ∧ alin ρ x.1 ≤ x.2
  | [], Gs, hr, _, he => ⟨Gs, hr, he⟩
  | x :: Fs, Gs, hr, hx, he => by
    have hx1 := hx x List.mem_cons_self
    have hr : (match a_subF θ x.1 with
      | some r => x_spine r.1 (fun ts => x_kZ (x.2 - r.2) (fun b => a_newF θ f Fs ((ts, b) :: Gs)))
      | none => none) = some r := hr
    cases hq : a_subF θ x.1 with
    | none => rw [hq] at hr; cases hr
    | some w =>
      rw [hq] at hr
      obtain ⟨k1, k2⟩ := a_subF_ok hs hq
      have hr : x_spine w.1 (fun ts => x_kZ (x.2 - w.2) (fun b => a_newF θ f Fs ((ts, b) :: Gs))) = some r := hr
      rw [x_spine_eq, x_kZ_eq] at hr
      refine a_newF_ok hs hσ hr (fun y hy => hx y (List.mem_cons_of_mem _ hy)) (fun y hy => ?_)
      rcases List.mem_cons.mp hy with e | e
      · rw [e]
        have := k2 ρ σ hσ
        exact ⟨k1, by show alin ρ w.1 ≤ x.2 - w.2; omega⟩
      · exact he y e
theorem a_newO_ok {β : Type} {ρ σ : Nat → Int} {n N : Nat} {θ : aTh} {f : aO → Option β} {r : β} {h : zH} (hs : aThS n N θ) (hσ : aVal ρ σ θ) : ∀ {Os O : aO}, a_newO N θ f Os O = some r → aOv σ N Os h → aOv ρ n O h → ∃ O', f O' = some r ∧ aOv ρ n O' h
  | [], O, hr, _, he => ⟨O, hr, he⟩
  | x :: Os, O, hr, hx, he => by
    obtain ⟨x1, x2, x3⟩ := hx x List.mem_cons_self
    have hr : a_thK N θ x.1.2.1 x.1.2.2 (fun s o => a_thK N θ x.2.2.1 x.2.2.2 (fun s2 o2 => a_newO N θ f Os (((x.1.1, s, o), (x.2.1, s2, o2)) :: O))) = some r := hr
    obtain ⟨s, o, hr, hs1, -, hk⟩ := a_thK_ok hr hs
    obtain ⟨s2, o2, hr, hs2, -, hk2⟩ := a_thK_ok hr hs
    have hk := hk ρ σ hσ
    have hk2 := hk2 ρ σ hσ
    refine a_newO_ok hs hσ hr (fun y hy => hx y (List.mem_cons_of_mem _ hy)) (fun y hy => ?_)
    rcases List.mem_cons.mp hy with e | e
    · rw [e]
      rw [hk] at x2 x3
      refine ⟨hs1, x2, hs2, ?_⟩
      show _ = (x.2.1, aev ρ s2 o2)
      rw [← hk2]
      exact x3.2
    · exact he y e
theorem a_okept_ok {ρ : Nat → Int} {n : Nat} {E : aB} {O : aO} {κm : aM} {h h' : zH} (he : aBnd ρ n E) (hO : aOv ρ n O h) (hf : aFr κm h h') : aOv ρ n (a_flt (a_okept E κm) O) h' := by
  intro e hm
  obtain ⟨h1, h2⟩ := a_flt_mem hm
  obtain ⟨o1, o2, o3⟩ := hO e h1
  refine ⟨o1, o2, ?_⟩
  rw [hf]
  · exact o3
  · rintro ⟨q, hq, q1, q2, q3⟩
    have hk := a_okeepR_ok he (a_all_ok h2 q hq)
    have e1 : (Int.ofNat q.2.1 : Int) = ((q.2.1 : Nat) : Int) := rfl
    have e2 : (Int.ofNat q.2.2 : Int) = ((q.2.2 : Nat) : Int) := rfl
    rw [e1, e2] at hk
    rcases hk with hk | hk | hk
    · exact hk q1.symm
    · omega
    · omega
theorem a_fkept_ok {X : aX} (hX : aOK X) {fl : List Nat} {κm : aM} {h h' : zH} (hfl : ∀ j ∈ fl, X.2.2.1 j h) (hf : aFr κm h h') : ∀ j ∈ a_flt (a_fkept X.1.2.1 κm) fl, X.2.2.1 j h' := by
  intro j hj
  obtain ⟨h1, h2⟩ := a_flt_mem hj
  have h2 : a_all (fun x => a_fkeep X.1.2.1 x.1 (Int.ofNat x.2.1) (Int.ofNat x.2.2) j) κm = true := h2
  cases hc : a_at X.1.2.1 j with
  | none =>
    have e : h' = h := by
      funext r k
      refine hf r k ?_
      rintro ⟨q, hq, -⟩
      have hk := a_all_ok h2 q hq
      unfold a_fkeep at hk
      rw [hc] at hk
      cases hk
    rw [e]
    exact hfl j h1
  | some m =>
    have hc' := hc
    refine hX.1.1 j m hc' h h' (fun r k hin => hf r k ?_) (hfl j h1)
    rintro ⟨q, hq, q1, q2, q3⟩
    have hk := a_all_ok h2 q hq
    unfold a_fkeep at hk
    rw [hc] at hk
    have hk : (!(a_hits m q.1 (Int.ofNat q.2.1) (Int.ofNat q.2.2))) = true := hk
    rw [Bool.not_eq_true'] at hk
    rw [q1] at hk
    exact a_hits_ok (k := k) (by show ((q.2.1 : Nat) : Int) ≤ _; omega) (by show _ ≤ ((q.2.2 : Nat) : Int); omega) hk hin
theorem a_retK_ok {β : Type} {ρ σ : Nat → Int} {n N : Nat} {θ : aTh} {v : Option aV} {w : Option zV} {f : Option aV → Option β} {r : β} (hr : a_retK N θ v f = some r) (hs : aThS n N θ) (hσ : aVal ρ σ θ) (hv : aRo σ N v w) : ∃ v', f v' = some r ∧ aRo ρ n v' w := by
  match v, w, hv with
  | none, none, _ => exact ⟨none, hr, trivial⟩
  | some v, some w, hv =>
    have hr : a_thK N θ v.2.1 v.2.2 (fun s o => f (some (v.1, s, o))) = some r := hr
    obtain ⟨s, o, hr, hs1, -, hk⟩ := a_thK_ok hr hs
    refine ⟨_, hr, hs1, ?_⟩
    show _ = (v.1, aev ρ s o)
    rw [← hk ρ σ hσ]
    exact hv.2
-- what a call comes to
def aCall (o : Nat) (X : aX) (T : zT) (ρ : Nat → Int) (q : aQ) (h : zH) (d mj : Nat) (bs : List zV) (rets : List aRs) : Prop := ∃ r, zRun X.2.1 T (o + d) mj 0 (h, zargs 0 bs, []) r ∧ ∃ x ∈ rets, ∃ ρ', aAg ρ ρ' q.1 ∧ q.1 ≤ x.1.1 ∧ aDen X ρ' x.1 r.1 ∧ aRo ρ' x.1.1 x.2 r.2
theorem a_callK_ok {o : Nat} {X : aX} (hX : aOK X) {T : zT} {κ : aK} (hκ : aSpecO o X.1 X.2.1 X.2.2.1 T κ) {ρ : Nat → Int} {q : aQ} {h : zH} {as : List aV} {bs : List zV} {rets : List aRs} (hr : a_callK X.1 X.2.2.2.2 κ q as = some rets) (g : aDen X ρ q h) (has : aRl ρ q.1 as bs) : aCall o X T ρ q h κ.2.1 κ.1 bs rets := by
  unfold a_callK at hr
  obtain ⟨θ1, hr, -, s1, k1⟩ := a_bindsK_ok g.1.1 hr has (fun j e h => by cases h)
  obtain ⟨θ, hr, e2, s2, k2⟩ := a_bindOK_ok g hr s1
  rcases x_condT hr with ⟨hc, hr⟩ | ⟨-, hr⟩
  · rw [Bool.and_eq_true] at hc
    obtain ⟨hc1, hc2⟩ := hc
    have hσ := aSig_val ρ θ
    obtain ⟨r1, r2, -⟩ := a_rest_ok (X := X) hc1 g (fun h => by cases h) s2 hσ
    have hden : aDen (aG0 X.1, X.2.1, X.2.2.1, h, κ.2.2.2.2.1) (aSig ρ θ) κ.2.2.1 h := ⟨r1, g.2.1, k2 _ hσ, r2, fun _ _ _ => rfl, fun h => by cases h⟩
    obtain ⟨zr, hrun, p, hp, ρp, p1, p2, p3, p4⟩ := hκ _ h bs hden (k1 _ (hσ.sub e2))
    refine ⟨zr, hrun, ?_⟩
    obtain ⟨rx, hrx, hsub⟩ := a_gath_ok hr p hp
    unfold a_postK at hrx
    rcases x_condT hrx with ⟨hle, hrx⟩ | ⟨-, hrx⟩
    · have hle := Nat.le_of_ble_eq_true hle
      rw [x_spine_eq] at hrx
      obtain ⟨c, hcc⟩ : ∃ c, p.1.1 = κ.2.2.1.1 + c := ⟨p.1.1 - κ.2.2.1.1, by omega⟩
      have hcs : p.1.1 - κ.2.2.1.1 = c := by omega
      rw [hcs] at hrx
      obtain ⟨v1, s3⟩ := a_ext_ok (c := c) s2 hσ p1
      rw [← hcc] at s3
      have hag := aGlue_ag ρ ρp q.1 κ.2.2.1.1
      obtain ⟨E', hrx, b1⟩ := a_newE_ok s3 v1 hrx (fun x hx => (p3.1.1 x hx).2) (fun x hx => by
        obtain ⟨a1, a2⟩ := g.1.1 x hx
        rw [hag x.1 a1]
        exact ⟨by omega, a2⟩)
      obtain ⟨Fs', hrx, b2⟩ := a_newF_ok s3 v1 hrx (fun x hx => (p3.1.2 x hx).2) (g.1.mono (Nat.le_add_right q.1 c) hag).2
      rw [x_spine_eq] at hrx
      obtain ⟨O', hrx, b3⟩ := a_newO_ok (h := zr.1) s3 v1 hrx p3.2.2.1 (aOv.mono (a_okept_ok g.1.1 g.2.2.1 p3.2.2.2.2.1) (Nat.le_add_right q.1 c) hag)
      rw [x_spine_eq] at hrx
      obtain ⟨v', hrx, b4⟩ := a_retK_ok hrx s3 v1 p4
      rw [x_kN_eq] at hrx
      cases hrx
      refine ⟨_, hsub _ List.mem_cons_self, _, hag, Nat.le_add_right _ _, ⟨⟨b1, b2⟩, p3.2.1, b3, ?_, ?_, ?_⟩, b4⟩
      · intro j hj
        rcases List.mem_append.mp hj with e | e
        · exact p3.2.2.2.1 j e
        · exact a_fkept_ok hX g.2.2.2.1 p3.2.2.2.2.1 j e
      · intro a k hn
        refine (p3.2.2.2.2.1 a k ?_).trans (g.2.2.2.2.1 a k hn)
        rintro ⟨w, hw, w1, w2, w3⟩
        apply hn
        have := a_mod_ok (k := k) (by show ((w.2.1 : Nat) : Int) ≤ _; omega) (by show _ ≤ ((w.2.2 : Nat) : Int); omega) (a_all_ok hc2 w hw)
        rw [w1] at this
        exact this
      · intro hl
        obtain ⟨l1, l2⟩ := g.2.2.2.2.2 hl
        exact ⟨Nat.lt_of_lt_of_le l1 (Nat.le_add_right _ _), by rw [hag 0 l1]; exact l2⟩
    · cases hrx
  · cases hr
theorem a_pick_ok {o : Nat} {X : aX} (hX : aOK X) {T : zT} {ρ : Nat → Int} {q : aQ} {h : zH} {as : List aV} {bs : List zV} {d mj : Nat} (g : aDen X ρ q h) (has : aRl ρ q.1 as bs) : ∀ {Ks : List aK} {rets : List aRs}, (∀ κ ∈ Ks, aSpecO o X.1 X.2.1 X.2.2.1 T κ) → a_pick X.1 X.2.2.2.2 d mj q as Ks = some rets → aCall o X T ρ q h d mj bs rets
  | [], _, _, hr => by cases hr
  | κ :: Ks, rets, hK, hr => by
    have hK' : ∀ κ ∈ Ks, aSpecO o X.1 X.2.1 X.2.2.1 T κ := fun x hx => hK x (List.mem_cons_of_mem _ hx)
    have hr : cond (Nat.beq κ.1 mj && Nat.ble κ.2.1 d) (match a_callK X.1 X.2.2.2.2 κ q as with
      | some r => some r
      | none => a_pick X.1 X.2.2.2.2 d mj q as Ks) (a_pick X.1 X.2.2.2.2 d mj q as Ks) = some rets := hr
    rcases x_condT hr with ⟨hc, hr⟩ | ⟨-, hr⟩
    · rw [Bool.and_eq_true] at hc
      have c1 := Nat.eq_of_beq_eq_true hc.1
      have c2 := Nat.le_of_ble_eq_true hc.2
      cases hq : a_callK X.1 X.2.2.2.2 κ q as with
      | none => rw [hq] at hr; exact a_pick_ok hX g has hK' hr
      | some r =>
        rw [hq] at hr
        cases hr
        obtain ⟨zr, k1, k2⟩ := a_callK_ok hX (hK κ List.mem_cons_self) hq g has
        rw [c1] at k1
        exact ⟨zr, k1.deeper (o + d) (Nat.add_le_add_left c2 o), k2⟩
    · exact a_pick_ok hX g has hK' hr
