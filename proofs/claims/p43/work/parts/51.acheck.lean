/-! A CONTRACT THAT THE KERNEL CHECKED HOLDS -/
-- measures fall
def aLex : Nat → List Int → List Int → Prop
  | 0, _, _ => False
  | k + 1, n :: ns, o :: os => (n < o ∧ 0 ≤ n) ∨ (n ≤ o ∧ aLex k ns os)
  | _ + 1, _, _ => False
theorem aLex.up : ∀ {k : Nat} {ns os : List Int}, aLex k ns os → aLex (k + 1) ns os
  | 0, _, _, h => h.elim
  | k + 1, n :: ns, o :: os, h => by
    rcases h with h | ⟨h1, h2⟩
    · exact Or.inl h
    · exact Or.inr ⟨h1, aLex.up h2⟩
  | k + 1, [], _, h => h.elim
  | k + 1, _ :: _, [], h => h.elim
theorem aLex.le {k : Nat} {ns os : List Int} (h : aLex k ns os) : ∀ k', k ≤ k' → aLex k' ns os
  | 0, hk => by
    have : k = 0 := by omega
    rw [this] at h
    exact h
  | k' + 1, hk => by
    by_cases e : k = k' + 1
    · rw [← e]; exact h
    · exact (aLex.le h k' (by omega)).up
theorem aLex_acc : ∀ (k : Nat) (os : List Int), Acc (aLex k) os
  | 0, os => ⟨_, fun _ h => h.elim⟩
  | k + 1, [] => ⟨_, fun ns h => by cases ns <;> exact h.elim⟩
  | k + 1, o :: os => by
    have key : ∀ (m : Nat) (os : List Int), ∀ o : Int, o.toNat = m → Acc (aLex (k + 1)) (o :: os) := by
      intro m
      induction m using Nat.strongRecOn with
      | ind m ihm =>
        intro os
        induction aLex_acc k os with
        | intro os _ iho =>
          intro o ho
          refine ⟨_, fun ns h => ?_⟩
          match ns, h with
          | n :: ns, h =>
            rcases h with ⟨h1, h2⟩ | ⟨h1, h2⟩
            · exact ihm n.toNat (by omega) ns n rfl
            · by_cases e : n.toNat = m
              · exact iho ns h2 n e
              · exact ihm n.toNat (by omega) ns n rfl
    exact key _ os o rfl
def aMs (ρ : Nat → Int) (ms : List aF) : List Int := ms.map fun m => alin ρ m.1 + m.2
theorem aMs_ag {ρ ρ' : Nat → Int} {n : Nat} (ha : aAg ρ ρ' n) : ∀ {ms : List aF}, (∀ x ∈ ms, aScope n x.1) → aMs ρ' ms = aMs ρ ms
  | [], _ => rfl
  | m :: ms, h => by
    show (alin ρ' m.1 + m.2) :: aMs ρ' ms = (alin ρ m.1 + m.2) :: aMs ρ ms
    rw [alin_ag ha (h m List.mem_cons_self), aMs_ag ha (fun x hx => h x (List.mem_cons_of_mem _ hx))]
theorem a_lexR_ok {X : aX} {q : aQ} {h : zH} {ρ σ : Nat → Int} {N : Nat} {θ : aTh} (g : aDen X ρ q h) (hs : aThS q.1 N θ) (hσ : aVal ρ σ θ) : ∀ {ns os : List aF}, a_lexR q θ ns os = true → aLex ns.length (aMs σ ns) (aMs ρ os)
  | [], os, h => by cases h
  | n :: ns, [], h => by cases h
  | n :: ns, o :: os, h => by
    have h : (match a_subF θ n.1 with
      | some r => (a_ent q.2.1 q.2.2.1 3 (a_less r.1 o.1) (o.2 - n.2 - r.2 - 1) && a_ent q.2.1 q.2.2.1 3 (a_less [] r.1) (n.2 + r.2)) || (a_ent q.2.1 q.2.2.1 3 (a_less r.1 o.1) (o.2 - n.2 - r.2) && a_lexR q θ ns os)
      | none => false) = true := h
    cases hq : a_subF θ n.1 with
    | none => rw [hq] at h; cases h
    | some r =>
      rw [hq] at h
      have e := (a_subF_ok hs hq).2 ρ σ hσ
      have h : ((a_ent q.2.1 q.2.2.1 3 (a_less r.1 o.1) (o.2 - n.2 - r.2 - 1) && a_ent q.2.1 q.2.2.1 3 (a_less [] r.1) (n.2 + r.2)) || (a_ent q.2.1 q.2.2.1 3 (a_less r.1 o.1) (o.2 - n.2 - r.2) && a_lexR q θ ns os)) = true := h
      rw [Bool.or_eq_true, Bool.and_eq_true, Bool.and_eq_true] at h
      show (alin σ n.1 + n.2 < alin ρ o.1 + o.2 ∧ 0 ≤ alin σ n.1 + n.2) ∨ (alin σ n.1 + n.2 ≤ alin ρ o.1 + o.2 ∧ aLex ns.length (aMs σ ns) (aMs ρ os))
      rcases h with ⟨h1, h2⟩ | ⟨h1, h2⟩
      · have k1 := a_ent_ok g.1 3 h1
        have k2 := a_ent_ok g.1 3 h2
        rw [a_less_ok] at k1 k2
        have e0 : alin ρ [] = 0 := rfl
        exact Or.inl ⟨by omega, by omega⟩
      · have k1 := a_ent_ok g.1 3 h1
        rw [a_less_ok] at k1
        exact Or.inr ⟨by omega, a_lexR_ok g hs hσ h2⟩
section AC
variable {o : Nat} {X : aX} {T : zT} {Ks : List aK}
theorem a_retOK_ok {k : Nat} {r p : aRs} (hr : a_retOK X.1 k r p = true) {ρ : Nat → Int} {zr : zR} (hk : k ≤ r.1.1) (g : aDen X ρ r.1 zr.1) (hv : aRo ρ r.1.1 r.2 zr.2) : ∃ σ, aAg ρ σ k ∧ k ≤ p.1.1 ∧ aDen X σ p.1 zr.1 ∧ aRo σ p.1.1 p.2 zr.2 := by
  unfold a_retOK at hr
  have fin : ∀ {θ0 : aTh} {b : Bool}, a_bindOK p.1.1 r.1 (fun θ => some (a_rest X.1.2.2 p.1 r.1 θ)) p.1.2.2.2.1 θ0 = some b → b = true → aThS r.1.1 p.1.1 θ0 → k ≤ p.1.1 → aExt (a_id k) θ0 → (∀ σ, aVal ρ σ θ0 → aRo σ p.1.1 p.2 zr.2) → ∃ σ, aAg ρ σ k ∧ k ≤ p.1.1 ∧ aDen X σ p.1 zr.1 ∧ aRo σ p.1.1 p.2 zr.2 := by
    intro θ0 b hb hbt hs hkp hid hret
    obtain ⟨θ, hb, e1, s1, k1⟩ := a_bindOK_ok g hb hs
    have hb := Option.some.inj hb
    rw [hbt] at hb
    have hσ := aSig_val ρ θ
    obtain ⟨r1, r2, r3⟩ := a_rest_ok (X := X) hb g (fun h => h) s1 hσ
    exact ⟨aSig ρ θ, a_id_ag (hid.trans e1) hσ, hkp, ⟨r1, g.2.1, k1 _ hσ, r2, g.2.2.2.2.1, r3⟩, hret _ (hσ.sub e1)⟩
  generalize hp2 : p.2 = pv at hr fin ⊢
  generalize hr2 : r.2 = rv at hr hv
  match pv, rv, hr, hv with
  | none, none, hr, hv =>
    split at hr
    · rename_i b hb
      rw [Bool.and_eq_true] at hr
      have hkp := Nat.le_of_ble_eq_true hr.2
      exact fin hb hr.1 (a_id_scope hk hkp) hkp (aExt.refl _) (fun σ _ => by
        match hz : zr.2, hv with
        | none, _ => trivial)
    · cases hr
  | some pv, some v, hr, hv =>
    split at hr
    · rename_i b hb
      rw [Bool.and_eq_true] at hr
      have hkp := Nat.le_of_ble_eq_true hr.2
      match hz : zr.2, hv with
      | some w, hv =>
        obtain ⟨θ, hb, e1, s1, k1⟩ := a_bindK_ok hb g.1.1 hv (a_id_scope hk hkp)
        rw [hz] at fin
        exact fin hb hr.1 s1 hkp e1 (fun σ hσ => k1 σ hσ)
    · cases hr
  | none, some _, hr, _ => cases hr
  | some _, none, hr, _ => cases hr
theorem a_cutOK_ok {k : Nat} {olds : Option (List aF)} {st : aS} {c : aCut} (hr : a_cutOK X.1 k olds st c = true) {ρ : Nat → Int} {z : zS} (hk : k ≤ st.1.1) (g : aStD X ρ st z) : ∃ σ, aAg ρ σ k ∧ k ≤ c.2.1.1.1 ∧ aStD X σ c.2.1 z ∧ ∀ os, olds = some os → aLex c.2.2.length (aMs σ c.2.2) (aMs ρ os) := by
  unfold a_cutOK at hr
  split at hr
  · rename_i b hb
    rw [Bool.and_eq_true] at hr
    have hkp := Nat.le_of_ble_eq_true hr.2
    obtain ⟨θ1, hb, e1, s1, k1⟩ := a_bindLK_ok g.1.1.1 g.2.1 hb (a_id_scope hk hkp)
    obtain ⟨θ2, hb, e2, s2, k2⟩ := a_bindsK_ok g.1.1.1 hb g.2.2 s1
    obtain ⟨θ, hb, e3, s3, k3⟩ := a_bindOK_ok g.1 hb s2
    have hb := Option.some.inj hb
    rw [hr.1, Bool.and_eq_true] at hb
    have hσ := aSig_val ρ θ
    obtain ⟨r1, r2, r3⟩ := a_rest_ok (X := X) hb.1 g.1 (fun h => h) s3 hσ
    refine ⟨aSig ρ θ, a_id_ag (e1.trans (e2.trans e3)) hσ, hkp, ⟨⟨r1, g.1.2.1, k3 _ hσ, r2, g.1.2.2.2.2.1, r3⟩, k1 _ (hσ.sub (e2.trans e3)), k2 _ (hσ.sub e3)⟩, fun os ho => ?_⟩
    have hl := hb.2
    rw [ho] at hl
    exact a_lexR_ok g.1 s3 hσ hl
  · cases hr
-- a run's good end
def aGood (o : Nat) (X : aX) (T : zT) (κ : aK) (d mi pc : Nat) (z : zS) (ρ : Nat → Int) : Prop := ∃ zr, zRun X.2.1 T (o + d) mi pc z zr ∧ ∃ p ∈ κ.2.2.2.2.2, ∃ ρ', aAg ρ ρ' κ.2.2.1.1 ∧ κ.2.2.1.1 ≤ p.1.1 ∧ aDen X ρ' p.1 zr.1 ∧ aRo ρ' p.1.1 p.2 zr.2
-- or it has come to a cut, its measures fallen
def aNext (o : Nat) (X : aX) (T : zT) (κ : aK) (cuts : List aCut) (d mi pc : Nat) (z : zS) (ρ : Nat → Int) (olds : Option (List aF)) (n : Nat) : Prop := ∃ c ∈ cuts, ∃ σ z', aAg ρ σ κ.2.2.1.1 ∧ κ.2.2.1.1 ≤ c.2.1.1.1 ∧ aStD X σ c.2.1 z' ∧ (∀ zr, zRun X.2.1 T (o + d) mi c.1 z' zr → zRun X.2.1 T (o + d) mi pc z zr) ∧ ∀ os, olds = some os → (∀ x ∈ os, aScope n x.1) → aLex c.2.2.length (aMs σ c.2.2) (aMs ρ os)
theorem a_from_ok (hX : aOK X) (hK : ∀ κ ∈ Ks, aSpecO o X.1 X.2.1 X.2.2.1 T κ) (hT : ∀ mi t, x_nth zMT mi = some t → ∀ pc i, z_at t pc = some i → T mi pc = some i) {lm : aLm} (hlm : aLmOK X lm) {hs : aHt} {n : Nat} {κ : aK} {cuts : List aCut} {t : List (List (Option zX))} (ht : ∀ pc i, z_at t pc = some i → T κ.1 pc = some i) (hm : X.2.2.2.2 = κ.2.2.2.2.1) {olds : Option (List aF)} {pc : Nat} {st : aS} (hr : a_from X.1 lm hs Ks n κ cuts t olds pc st = true) {ρ : Nat → Int} {z : zS} (hk : κ.2.2.1.1 ≤ st.1.1) (g : aStD X ρ st z) : aGood o X T κ κ.2.1 κ.1 pc z ρ ∨ aNext o X T κ cuts κ.2.1 κ.1 pc z ρ olds st.1.1 := by
  unfold a_from at hr
  rw [← hm, a_bN_eq] at hr
  split at hr
  · rename_i rs hrs
    obtain ⟨x, hx, ρ1, a1, hend⟩ := a_run_ok hX hK hT hlm hs n _ _ _ _ _ _ _ _ ht hrs ρ z g
    have hf := a_all_ok hr x hx
    match x, hf, hend with
    | .inr r, hf, ⟨n1, zr, hrun, g1, v1⟩ =>
      obtain ⟨p, hp, hq⟩ := a_any_ok (show a_any (a_retOK X.1 κ.2.2.1.1 r) κ.2.2.2.2.2 = true from hf)
      obtain ⟨σ, b1, b2, b3, b4⟩ := a_retOK_ok hq (Nat.le_trans hk n1) g1 v1
      exact Or.inl ⟨zr, hrun, p, hp, σ, (fun i hi => (b1 i hi).trans (a1 i (Nat.lt_of_lt_of_le hi hk))), b2, b3, b4⟩
    | .inl (pc', st'), hf, ⟨n1, z', hrun, g1⟩ =>
      obtain ⟨c, hc, hq⟩ := a_any_ok (show a_any (fun c => Nat.beq c.1 pc' && a_cutOK X.1 κ.2.2.1.1 olds st' c) cuts = true from hf)
      rw [Bool.and_eq_true] at hq
      have hpc := Nat.eq_of_beq_eq_true hq.1
      obtain ⟨σ, b1, b2, b3, b4⟩ := a_cutOK_ok hq.2 (Nat.le_trans hk n1) g1
      rw [← hpc] at hrun
      exact Or.inr ⟨c, hc, σ, z', (fun i hi => (b1 i hi).trans (a1 i (Nat.lt_of_lt_of_le hi hk))), b2, b3, hrun, fun os ho hsc => by
        have := b4 os ho
        rw [aMs_ag a1 hsc] at this
        exact this⟩
  · cases hr
theorem aGood.back {κ : aK} {d mi pc pc2 : Nat} {z z2 : zS} {ρ ρ2 : Nat → Int} (h : aGood o X T κ d mi pc2 z2 ρ2) (ha : aAg ρ ρ2 κ.2.2.1.1) (hb : ∀ zr, zRun X.2.1 T (o + d) mi pc2 z2 zr → zRun X.2.1 T (o + d) mi pc z zr) : aGood o X T κ d mi pc z ρ := by
  obtain ⟨zr, h1, p, hp, ρ', b1, b2⟩ := h
  exact ⟨zr, hb _ h1, p, hp, ρ', fun i hi => (b1 i hi).trans (ha i hi), b2⟩
theorem a_maxlen (cuts : List aCut) : ∃ K, ∀ c ∈ cuts, c.2.2.length ≤ K := by
  induction cuts with
  | nil => exact ⟨0, fun c hc => by cases hc⟩
  | cons a l ih =>
    obtain ⟨K, hK⟩ := ih
    refine ⟨K + a.2.2.length, fun c hc => ?_⟩
    rcases List.mem_cons.mp hc with e | e
    · rw [e]; omega
    · have := hK c e; omega
theorem a_loop_ok (hX : aOK X) (hK : ∀ κ ∈ Ks, aSpecO o X.1 X.2.1 X.2.2.1 T κ) (hT : ∀ mi t, x_nth zMT mi = some t → ∀ pc i, z_at t pc = some i → T mi pc = some i) {lm : aLm} (hlm : aLmOK X lm) {hs : aHt} {n : Nat} {κ : aK} {cuts : List aCut} {t : List (List (Option zX))} (ht : ∀ pc i, z_at t pc = some i → T κ.1 pc = some i) (hm : X.2.2.2.2 = κ.2.2.2.2.1) (hc : a_all (fun c => a_all (fun x => a_scp c.2.1.1.1 x.1) c.2.2 && a_from X.1 lm hs Ks n κ cuts t (some c.2.2) c.1 c.2.1) cuts = true) {pc : Nat} {st : aS} (hr : a_from X.1 lm hs Ks n κ cuts t none pc st = true) {ρ : Nat → Int} {z : zS} (hk : κ.2.2.1.1 ≤ st.1.1) (g : aStD X ρ st z) : aGood o X T κ κ.2.1 κ.1 pc z ρ := by
  obtain ⟨K, hKl⟩ := a_maxlen cuts
  have key : ∀ v : List Int, ∀ c ∈ cuts, κ.2.2.1.1 ≤ c.2.1.1.1 → ∀ ρ z, aStD X ρ c.2.1 z → aMs ρ c.2.2 = v → aGood o X T κ κ.2.1 κ.1 c.1 z ρ := by
    intro v
    induction aLex_acc K v with
    | intro v _ ih =>
      intro c hcm hck ρ z g hv
      have hcc := a_all_ok hc c hcm
      rw [Bool.and_eq_true] at hcc
      rcases a_from_ok hX hK hT hlm ht hm hcc.2 hck g with h | ⟨c', hc', σ, z', b1, b2, b3, b4, b5⟩
      · exact h
      · have hl := b5 c.2.2 rfl (fun x hx p hp => Nat.le_of_ble_eq_true (a_all_ok (a_all_ok hcc.1 x hx) p hp))
        rw [hv] at hl
        exact (ih _ (hl.le K (hKl c' hc')) c' hc' b2 σ z' b3 rfl).back b1 b4
  rcases a_from_ok hX hK hT hlm ht hm hr hk g with h | ⟨c', hc', σ, z', b1, b2, b3, b4, -⟩
  · exact h
  · exact (key _ c' hc' b2 σ z' b3 rfl).back b1 b4
end AC
theorem a_check_sound {o : Nat} {G : aG} {D : zD} {Fl : Nat → zH → Prop} {T : zT} {Ks : List aK} (hX : ∀ h m, aOK (aG0 G, D, Fl, h, m)) (hT : ∀ mi t, x_nth zMT mi = some t → ∀ pc i, z_at t pc = some i → T mi pc = some i) {lm : aLm} (hlm : ∀ h m, aLmOK (aG0 G, D, Fl, h, m) lm) {hs : aHt} {n : Nat} {κ : aK} {cuts : List aCut} (hr : a_check (aG0 G) lm hs Ks n κ cuts = true) (hK : ∀ κ ∈ Ks, aSpecO o G D Fl T κ) : aSpecO o G D Fl T κ := by
  unfold a_check at hr
  split at hr
  · rename_i t ht
    rw [Bool.and_eq_true] at hr
    intro ρ h bs g has
    exact a_loop_ok (X := (aG0 G, D, Fl, h, κ.2.2.2.2.1)) (hX _ _) hK hT (hlm _ _) (hT _ _ ht) rfl hr.2 hr.1 (Nat.le_refl _) (z := (h, zargs 0 bs, [])) ⟨g, (a_args_ok 0 has).2, trivial⟩
  · cases hr
