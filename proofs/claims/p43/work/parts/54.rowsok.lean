/-! the hints of rows hold -/
def aThen {β : Type} (X : aX) (ρ : Nat → Int) (q : aQ) (h : zH) (f : aQ → Option β) (r : β) : Prop := ∃ q' ρ', f q' = some r ∧ aAg ρ ρ' q.1 ∧ q.1 ≤ q'.1 ∧ aDen X ρ' q' h
section TH
variable {β : Type} {X : aX} {ρ : Nat → Int} {q : aQ} {h : zH} {f : aQ → Option β} {r : β}
theorem aThen.here (hr : f q = some r) (g : aDen X ρ q h) : aThen X ρ q h f r := ⟨q, ρ, hr, aAg.refl _ _, Nat.le_refl _, g⟩
theorem aThen.same {q1 : aQ} (hr : f q1 = some r) (hq : q1.1 = q.1) (g : aDen X ρ q1 h) : aThen X ρ q h f r := ⟨q1, ρ, hr, aAg.refl _ _, Nat.le_of_eq hq.symm, g⟩
theorem aThen.bind {g : aQ → Option β} (h1 : aThen X ρ q h g r) (h2 : ∀ q' ρ', g q' = some r → aDen X ρ' q' h → aThen X ρ' q' h f r) : aThen X ρ q h f r := by
  obtain ⟨q', ρ', e1, e2, e3, e4⟩ := h1
  obtain ⟨q2, ρ2, d1, d2, d3, d4⟩ := h2 q' ρ' e1 e4
  exact ⟨q2, ρ2, d1, e2.trans d2 e3, Nat.le_trans e3 d3, d4⟩
theorem aDen.setF (g : aDen X ρ q h) {fl : List Nat} (hf : ∀ j ∈ fl, X.2.2.1 j h) : aDen X ρ (a_setF q fl) h := ⟨g.1, g.2.1, g.2.2.1, hf, g.2.2.2.2⟩
theorem aDen.setO (g : aDen X ρ q h) {O : aO} (hO : aOv ρ q.1 O h) : aDen X ρ (a_setO q O) h := ⟨g.1, g.2.1, hO, g.2.2.2.1, g.2.2.2.2⟩
theorem a_ogetN (g : aDen X ρ q h) {r o : Nat} {v : aV} (hv : a_oget q.2.2.2.1 r 0 (Int.ofNat o) = some v) : aR ρ q.1 v (h r o) := (a_oget_ok g.2.2.1 hv).2
theorem a_okb_ok (g : aDen X ρ q h) {r o : Nat} {m : Int} (hb : a_okb q r o m = true) : rB m (h r o).2 := by
  intro hm
  unfold a_okb at hb
  rw [show @decide (m < 0) (a_decLt _ _) = false from a_decN (by omega)] at hb
  have hb : (match a_oget q.2.2.2.1 r 0 (Int.ofNat o) with
    | some v => (match a_rngK q.2.1 v (fun lo hi => some (@decide (0 ≤ lo) (a_decLe _ _) && @decide (hi ≤ m) (a_decLe _ _))) with
      | some b => b
      | none => false)
    | none => false) = true := hb
  split at hb
  · rename_i v hv
    have hR := a_ogetN g hv
    split at hb
    · rename_i b hk
      obtain ⟨lo, hi, k1, k2, k3⟩ := a_rngK_ok hk g.1.1
      cases k1
      rw [Bool.and_eq_true, a_dec_eq, a_dec_eq] at hb
      rw [← aR_val hR] at k2 k3
      omega
    · cases hb
  · cases hb
theorem a_okR_ok (g : aDen X ρ q h) {ra oa rb ob : Nat} {nd : Int × Int} (hb : a_okR q ra oa rb ob nd = true) : rB nd.1 (h ra oa).2 ∧ rB nd.2 (h rb ob).2 := by
  unfold a_okR at hb
  rw [Bool.and_eq_true] at hb
  exact ⟨a_okb_ok g hb.1, a_okb_ok g hb.2⟩
theorem a_rgood_ok (g : aDen X ρ q h) {j : Nat} (hb : a_rgood q j = true) : rOK j h := by
  unfold a_rgood at hb
  rw [a_rowK_eq] at hb
  split at hb
  · rename_i b hk
    subst hb
    split at hk
    · cases hk
    · rename_i vk hv
      have hR := a_ogetN g hv
      obtain ⟨lo, hi, hk, k2, k3⟩ := a_rngK_ok hk g.1.1
      rw [← aR_val hR] at k2 k3
      rcases x_condT hk with ⟨e, hk⟩ | ⟨-, hk⟩
      · rw [a_dec_eq] at e
        have ek : (h (rPl j).1 (rPl j).2.1).2 = lo := by omega
        unfold rOK
        rw [ek]
        rcases x_condT hk with ⟨e1, hk⟩ | ⟨e1, hk⟩
        · have e1 : j < 150 := Nat.le_of_ble_eq_true e1
          have et : rTau j = 0 := if_pos e1
          rw [et]
          rcases x_condT hk with ⟨e2, hk⟩ | ⟨e2, hk⟩
          · rw [a_dec_eq] at e2
            split at hk
            · cases hk
            · rename_i vt hvt
              have hRt := a_ogetN g hvt
              obtain ⟨l2, h2, hk, m2, m3⟩ := a_rngK_ok hk g.1.1
              rw [← aR_val hRt] at m2 m3
              rcases x_condT hk with ⟨e3, hk⟩ | ⟨-, hk⟩
              · rw [a_dec_eq] at e3
                have e4 : (h (rPl j).1 (rPl j).2.2.1).2 = l2 := by omega
                rw [e4, e2]
                exact a_okR_ok g (Option.some.inj hk)
              · cases hk
          · rw [a_decF] at e2
            rw [a_nd_t (Or.inr e2)]
            exact a_okR_ok g (Option.some.inj hk)
        · have e1 : ¬ j < 150 := fun e => by rw [show Nat.blt j 150 = true from Nat.ble_eq_true_of_le e] at e1; cases e1
          have et : rTau j = 1 := if_neg e1
          rw [et]
          exact a_okR_ok g (Option.some.inj hk)
      · cases hk
  · cases hb
theorem a_eqV_ok (g : aDen X ρ q h) {r o r' o' : Nat} (hb : a_eqV (a_oget q.2.2.2.1 r 0 (Int.ofNat o)) (a_oget q.2.2.2.1 r' 0 (Int.ofNat o')) = true) : h r' o' = h r o := by
  unfold a_eqV at hb
  split at hb
  · rename_i v w hv hw
    simp only [Bool.and_eq_true, a_dec_eq] at hb
    have e : v = w := Prod.ext (Nat.eq_of_beq_eq_true hb.1) (Prod.ext (Nat.eq_of_beq_eq_true hb.2.1) hb.2.2)
    rw [(a_ogetN g hv).2, (a_ogetN g hw).2, e]
  · cases hb
theorem a_alike_ok (g : aDen X ρ q h) {a b : Nat} (hb : a_alike q a b = true) (ht : rTau a = rTau b) (ha : rOK a h) : rOK b h := by
  unfold a_alike at hb
  rw [a_rowK_eq, a_rowK_eq] at hb
  simp only [Bool.and_eq_true] at hb
  obtain ⟨h1, h2, h3, h4⟩ := hb
  unfold rOK
  rw [a_eqV_ok g h1, a_eqV_ok g h2, a_eqV_ok g h3, a_eqV_ok g h4, ← ht]
  exact ha
theorem a_allN_ok {p : Nat → Bool} {j0 : Nat} : ∀ {n : Nat}, a_allN p j0 n = true → ∀ i, i < n → p (j0 + i) = true
  | 0, _, i, hi => absurd hi (Nat.not_lt_zero i)
  | n + 1, hb, i, hi => by
    have hb : (p (j0 + n) && a_allN p j0 n) = true := hb
    rw [Bool.and_eq_true] at hb
    rcases Nat.lt_or_ge i n with e | e
    · exact a_allN_ok hb.2 i e
    · rw [show i = n by omega]; exact hb.1
end TH
def aFlOK (X : aX) : Prop := ∀ j h, j < 345 → (X.2.2.1 j h ↔ rFl j h)
section RW
variable {β : Type} {X : aX} {ρ : Nat → Int} {q : aQ} {h : zH} {f : aQ → Option β} {r : β}
theorem rFl_n {j : Nat} (hj : j ≠ 155) : rFl j h ↔ ∀ x, (a_fr j).1 ≤ x → x < (a_fr j).2 → rOK x h := by
  unfold rFl
  rw [if_neg hj]
theorem rFl_155 : rFl 155 h ↔ ∀ x : Nat, 120 ≤ x → x < 150 → (x : Int) - 120 < (h 121 25).2 → rOK x h := by
  unfold rFl
  rw [if_pos rfl]
theorem a_fr_hi {j : Nat} (hj : 345 ≤ j) : a_fr j = (0, 0) := by
  have e : ∀ m, m ≤ 345 → Nat.blt j m = false := fun m hm => Bool.eq_false_iff.mpr (fun e => by have := Nat.le_of_ble_eq_true e; omega)
  unfold a_fr
  rw [e 155 (by omega), e 156 (by omega), e 187 (by omega), e 217 (by omega), e 223 (by omega), e 284 (by omega), e 345 (by omega)]
  rfl
theorem a_has_ok (hFl : aFlOK X) (g : aDen X ρ q h) {x : Nat} (hb : a_has q x = true) : rOK x h := by
  unfold a_has at hb
  rw [Bool.or_eq_true] at hb
  rcases hb with hb | hb
  · obtain ⟨j, hj, hc⟩ := a_any_ok hb
    rw [Bool.and_eq_true] at hc
    have c1 := Nat.le_of_ble_eq_true hc.1
    have c2 : x < (a_fr j).2 := Nat.le_of_ble_eq_true hc.2
    have j1 : j < 345 := by
      rcases Nat.lt_or_ge j 345 with e | e
      · exact e
      · rw [a_fr_hi e] at c2
        exact absurd c2 (Nat.not_lt_zero _)
    have j2 : j ≠ 155 := fun e => by
      rw [e] at c2
      exact absurd c2 (Nat.not_lt_zero _)
    exact (rFl_n j2).mp ((hFl j h (by omega)).mp (g.2.2.2.1 j hj)) x c1 c2
  · simp only [Bool.and_eq_true] at hb
    obtain ⟨b1, b2, b3, b4⟩ := hb
    split at b4
    · rename_i v hv
      split at b4
      · rename_i b hk
        obtain ⟨lo, hi, k1, k2, k3⟩ := a_rngK_ok hk g.1.1
        cases k1
        rw [a_dec_eq] at b4
        rw [← aR_val (a_ogetN (o := 25) g hv)] at k2 k3
        exact rFl_155.mp ((hFl 155 h (by omega)).mp (g.2.2.2.1 155 (a_memN_ok b1))) x (Nat.le_of_ble_eq_true b2) (Nat.le_of_ble_eq_true b3) (by omega)
      · cases b4
    · cases b4
theorem a_covR_ok (hFl : aFlOK X) (g : aDen X ρ q h) {sr lo n : Nat} (hb : a_covR q sr lo n = true) : ∀ x, lo ≤ x → x < lo + n → rOK x h := by
  intro x h1 h2
  have := a_allN_ok hb (x - lo) (by omega)
  rw [show lo + (x - lo) = x by omega, Bool.or_eq_true, Bool.or_eq_true, Bool.and_eq_true, Bool.and_eq_true] at this
  rcases this with e | e | e
  · exact a_has_ok hFl g e
  · exact a_rgood_ok g e
  · exact a_alike_ok g e.2.2 (Nat.eq_of_beq_eq_true e.1) (a_has_ok hFl g e.2.1)
theorem a_cov_ok (hFl : aFlOK X) {sr t : Nat} (hr : a_cov sr t q f = some r) (g : aDen X ρ q h) : aThen X ρ q h f r := by
  have add : ∀ t, t < 345 → rFl t h → f (a_setF q (t :: q.2.2.2.2)) = some r → aThen X ρ q h f r := fun t ht hf hr => aThen.same hr rfl (g.setF fun j hj => by
    rcases List.mem_cons.mp hj with e | e
    · rw [e]; exact (hFl t h ht).mpr hf
    · exact g.2.2.2.1 j e)
  unfold a_cov at hr
  rcases x_condT hr with ⟨-, hr⟩ | ⟨-, hr⟩
  · exact aThen.here hr g
  rcases x_condT hr with ⟨-, hr⟩ | ⟨h155, hr⟩
  · split at hr
    · rename_i v hv
      obtain ⟨lo, hi, hr, k2, k3⟩ := a_rngK_ok hr g.1.1
      rw [← aR_val (a_ogetN (o := 25) g hv)] at k2 k3
      rcases x_condT hr with ⟨hc, hr⟩ | ⟨-, hr⟩
      · rw [Bool.and_eq_true, a_dec_eq] at hc
        exact add 155 (by omega) (rFl_155.mpr fun x x1 x2 x3 => a_covR_ok hFl g hc.2 x x1 (by omega)) hr
      · exact aThen.here hr g
    · exact aThen.here hr g
  rcases x_condT hr with ⟨ht, hr⟩ | ⟨-, hr⟩
  · rw [x_kN_eq, x_kN_eq] at hr
    rcases x_condT hr with ⟨hc, hr⟩ | ⟨-, hr⟩
    · rw [x_kN_eq] at hr
      have hn : t ≠ 155 := fun e => by rw [e] at h155; cases h155
      exact add t (Nat.le_of_ble_eq_true ht) ((rFl_n hn).mpr fun x x1 x2 => a_covR_ok hFl g hc x x1 (by omega)) hr
    · exact aThen.here hr g
  · exact aThen.here hr g
theorem a_cover_ok (hFl : aFlOK X) {f : aQ → Option β} : ∀ {ts : List Int} {q : aQ} {ρ : Nat → Int}, a_cover f ts q = some r → aDen X ρ q h → aThen X ρ q h f r
  | [], q, _, hr, g => aThen.here hr g
  | t :: ts, q, ρ, hr, g => by
    have hr : a_cov (a_fr t.toNat).1 t.toNat q (a_cover f ts) = some r := hr
    obtain ⟨q', ρ', e1, e2, e3, e4⟩ := a_cov_ok hFl hr g
    obtain ⟨q2, ρ2, d1, d2, d3, d4⟩ := a_cover_ok hFl e1 e4
    exact ⟨q2, ρ2, d1, e2.trans d2 e3, Nat.le_trans e3 d3, d4⟩
theorem a_rngK_any {γ : Type} {E : aB} {v : aV} {k : Int → Int → Option γ} {r : γ} (h : a_rngK E v k = some r) : ∃ lo hi, k lo hi = some r := by
  obtain ⟨t, s, o⟩ := v
  cases s with
  | zero => exact ⟨o, o, h⟩
  | succ i =>
    unfold a_rngK at h
    dsimp only at h
    split at h
    · rw [x_kZ_eq, x_kZ_eq] at h
      exact ⟨_, _, h⟩
    · cases h
theorem a_coverP_ok (hFl : aFlOK X) {t r0 : Nat} {o : Int} (hr : a_coverP t r0 o q f = some r) (g : aDen X ρ q h) : aThen X ρ q h f r := by
  unfold a_coverP at hr
  split at hr
  · obtain ⟨lo, hi, hr⟩ := a_rngK_any hr
    rcases x_condT hr with ⟨-, hr⟩ | ⟨-, hr⟩
    · rw [x_kN_eq] at hr
      exact a_cov_ok hFl hr g
    · exact aThen.here hr g
  · exact aThen.here hr g
theorem a_coverL_ok (hFl : aFlOK X) {L : aL} {t loc m d : Nat} (hr : a_coverL L t loc m d q f = some r) (g : aDen X ρ q h) : aThen X ρ q h f r := by
  unfold a_coverL at hr
  split at hr
  · obtain ⟨lo, hi, hr⟩ := a_rngK_any hr
    rcases x_condT hr with ⟨-, hr⟩ | ⟨-, hr⟩
    · rw [x_kN_eq] at hr
      exact a_cov_ok hFl hr g
    · exact aThen.here hr g
  · exact aThen.here hr g
theorem a_blk_ok {γ : Type} {L : aL} {x : Int} {f : Nat → Option γ} {r : γ} (hr : a_blk q L x f = some r) : ∃ b, f b = some r := by
  unfold a_blk at hr
  rcases x_condT hr with ⟨-, hr⟩ | ⟨-, hr⟩
  · rw [x_kN_eq] at hr
    exact ⟨_, hr⟩
  · split at hr
    · obtain ⟨lo, hi, hr⟩ := a_rngK_any hr
      rcases x_condT hr with ⟨-, hr⟩ | ⟨-, hr⟩
      · rw [x_kN_eq] at hr
        exact ⟨_, hr⟩
      · cases hr
    · cases hr
end RW
