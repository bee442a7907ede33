/-! CUTS BY HAND; FAMILIES: contracts deeper by a number -/
section LH
variable {o : Nat} {X : aX} {T : zT} {Ks : List aK}
theorem a_cutsH_ok (hX : aOK X) (hK : ∀ κ ∈ Ks, aSpecO o X.1 X.2.1 X.2.2.1 T κ) (hT : ∀ mi t, x_nth zMT mi = some t → ∀ pc i, z_at t pc = some i → T mi pc = some i) {lm : aLm} (hlm : aLmOK X lm) {hs : aHt} {n : Nat} {κ : aK} {cuts : List aCut} {t : List (List (Option zX))} (ht : ∀ pc i, z_at t pc = some i → T κ.1 pc = some i) (hm : X.2.2.2.2 = κ.2.2.2.2.1) (hand : Nat → Bool)
    (hsc : ∀ c ∈ cuts, a_all (fun x => a_scp c.2.1.1.1 x.1) c.2.2 = true) (hc : ∀ c ∈ cuts, hand c.1 = false → a_from X.1 lm hs Ks n κ cuts t (some c.2.2) c.1 c.2.1 = true)
    (hH : ∀ c ∈ cuts, hand c.1 = true → κ.2.2.1.1 ≤ c.2.1.1.1 → ∀ ρ z, aStD X ρ c.2.1 z → aGood o X T κ κ.2.1 κ.1 c.1 z ρ ∨ aNext o X T κ cuts κ.2.1 κ.1 c.1 z ρ (some c.2.2) c.2.1.1.1) :
    ∀ c ∈ cuts, κ.2.2.1.1 ≤ c.2.1.1.1 → ∀ ρ z, aStD X ρ c.2.1 z → aGood o X T κ κ.2.1 κ.1 c.1 z ρ := by
  obtain ⟨K, hKl⟩ := a_maxlen cuts
  have key : ∀ v : List Int, ∀ c ∈ cuts, κ.2.2.1.1 ≤ c.2.1.1.1 → ∀ ρ z, aStD X ρ c.2.1 z → aMs ρ c.2.2 = v → aGood o X T κ κ.2.1 κ.1 c.1 z ρ := by
    intro v
    induction aLex_acc K v with
    | intro v _ ih =>
      intro c hcm hck ρ z g hv
      have step : aGood o X T κ κ.2.1 κ.1 c.1 z ρ ∨ aNext o X T κ cuts κ.2.1 κ.1 c.1 z ρ (some c.2.2) c.2.1.1.1 := by
        cases hh : hand c.1 with
        | true => exact hH c hcm hh hck ρ z g
        | false => exact a_from_ok hX hK hT hlm ht hm (hc c hcm hh) hck g
      rcases step with h | ⟨c', hc', σ, z', b1, b2, b3, b4, b5⟩
      · exact h
      · have hl := b5 c.2.2 rfl (fun x hx p hp => Nat.le_of_ble_eq_true (a_all_ok (a_all_ok (hsc c hcm) x hx) p hp))
        rw [hv] at hl
        exact (ih _ (hl.le K (hKl c' hc')) c' hc' b2 σ z' b3 rfl).back b1 b4
  exact fun c hc hk ρ z g => key _ c hc hk ρ z g rfl
/-- where a run has come to a state that fits a cut -/
theorem aNext.of {κ : aK} {cuts : List aCut} {d mi pc : Nat} {z z' : zS} {ρ ρ' : Nat → Int} {os : List aF} {n : Nat} {c : aCut} (hc : c ∈ cuts) {st : aS} (hr : a_cutOK X.1 κ.2.2.1.1 (some os) st c = true) (hk : κ.2.2.1.1 ≤ st.1.1) (ha : aAg ρ ρ' n) (hn : κ.2.2.1.1 ≤ n) (g : aStD X ρ' st z') (hz : ∀ zr, zRun X.2.1 T (o + d) mi c.1 z' zr → zRun X.2.1 T (o + d) mi pc z zr) : aNext o X T κ cuts d mi pc z ρ (some os) n := by
  obtain ⟨σ, b1, b2, b3, b4⟩ := a_cutOK_ok hr hk g
  refine ⟨c, hc, σ, z', fun i hi => (b1 i hi).trans (ha i (Nat.lt_of_lt_of_le hi hn)), b2, b3, hz, fun os' ho hsc => ?_⟩
  cases ho
  have := b4 os rfl
  rw [aMs_ag ha hsc] at this
  exact this
end LH
/-! one flag of another meaning -/
def FlW (Fl : Nat → zH → Prop) (j0 : Nat) (P : zH → Prop) : Nat → zH → Prop := fun j h => if j = j0 then P h else Fl j h
theorem FlW_ne {Fl : Nat → zH → Prop} {j0 : Nat} {P : zH → Prop} {j : Nat} {h : zH} (hj : j ≠ j0) : FlW Fl j0 P j h ↔ Fl j h := by
  unfold FlW
  rw [if_neg hj]
theorem FlW_eq {Fl : Nat → zH → Prop} {j0 : Nat} {P : zH → Prop} {h : zH} : FlW Fl j0 P j0 h ↔ P h := by
  unfold FlW
  rw [if_pos rfl]
theorem aOK_W {G : aG} {D : zD} {Fl : Nat → zH → Prop} {h : zH} {m : aM} (hX : aOK (G, D, Fl, h, m)) {j0 : Nat} (hj : 353 ≤ j0) {P : zH → Prop} {s : aM} (hs : a_at G.2.1 j0 = some s) (hP : ∀ h h' : zH, (∀ r k, aIn s r k → h' r k = h r k) → P h → P h') : aOK (G, D, FlW Fl j0 P, h, m) := by
  refine ⟨⟨fun j m' hm h1 h2 he hf => ?_, hX.1.2⟩, hX.2.1, fun j h1 a b => ?_⟩
  · by_cases e : j = j0
    · subst e
      have hm : a_at G.2.1 j = some m' := hm
      rw [hs] at hm
      cases hm
      exact FlW_eq.mpr (hP h1 h2 he (FlW_eq.mp hf))
    · exact (FlW_ne e).mpr (hX.1.1 j m' hm h1 h2 he ((FlW_ne e).mp hf))
  · have : FlW Fl j0 P j h1 ↔ Fl j h1 := FlW_ne (by omega)
    exact this.trans (hX.2.2 j h1 a b)
theorem aFlOK_W {G : aG} {D : zD} {Fl : Nat → zH → Prop} {h : zH} {m : aM} (hX : aFlOK (G, D, Fl, h, m)) {j0 : Nat} (hj : 353 ≤ j0) {P : zH → Prop} : aFlOK (G, D, FlW Fl j0 P, h, m) := fun j h1 hj1 => (FlW_ne (show j ≠ j0 by omega)).trans (hX j h1 hj1)
/-! contracts and cuts with a flag more; of another depth -/
def qfl (j : Nat) (q : aQ) : aQ := (q.1, q.2.1, q.2.2.1, q.2.2.2.1, j :: q.2.2.2.2)
def kfl (j : Nat) (κ : aK) : aK := (κ.1, κ.2.1, qfl j κ.2.2.1, κ.2.2.2.1, κ.2.2.2.2.1, κ.2.2.2.2.2.map fun p => (qfl j p.1, p.2))
def kdp (d : Nat) (κ : aK) : aK := (κ.1, d, κ.2.2)
def cfl (j : Nat) (c : aCut) : aCut := (c.1, (qfl j c.2.1.1, c.2.1.2), c.2.2)
-- a place known more at the entry
noncomputable def kov (e : (Nat × Nat × Int) × aV) (κ : aK) : aK := (κ.1, κ.2.1, a_addO κ.2.2.1 e, κ.2.2.2.1, κ.2.2.2.2.1, κ.2.2.2.2.2)
/-- a post in the one meaning is one in the other -/
theorem aDen.fl {G : aG} {D : zD} {Fl Fl' : Nat → zH → Prop} {h0 : zH} {m : aM} {ρ : Nat → Int} {q : aQ} {h : zH} (g : aDen (G, D, Fl, h0, m) ρ q h) (hf : ∀ j ∈ q.2.2.2.2, Fl j h → Fl' j h) : aDen (G, D, Fl', h0, m) ρ q h := ⟨g.1, g.2.1, g.2.2.1, fun j hj => hf j hj (g.2.2.2.1 j hj), g.2.2.2.2.1, g.2.2.2.2.2⟩
theorem aDen.qfl {G : aG} {D : zD} {Fl : Nat → zH → Prop} {h0 : zH} {m : aM} {ρ : Nat → Int} {q : aQ} {h : zH} (g : aDen (G, D, Fl, h0, m) ρ q h) {j : Nat} (hj : Fl j h) : aDen (G, D, Fl, h0, m) ρ (qfl j q) h := ⟨g.1, g.2.1, g.2.2.1, fun i hi => (List.mem_cons.mp hi).elim (fun e => by rw [e]; exact hj) (g.2.2.2.1 i), g.2.2.2.2.1, g.2.2.2.2.2⟩
