/-! the hints of rows hold -/
def aThen {β : Type} (X : aX) (ρ : Nat → Int) (q : aQ) (h : zH) (f : aQ → Option β) (r : β) : Prop := ∃ q' ρ', f q' = some r ∧ aAg ρ ρ' q.1 ∧ q.1 ≤ q'.1 ∧ aDen X ρ' q' h
section TH
variable {β : Type} {X : aX} {ρ : Nat → Int} {q : aQ} {h : zH} {f : aQ → Option β} {r : β}
theorem aThen.here (hr : f q = some r) (g : aDen X ρ q h) : aThen X ρ q h f r := ⟨q, ρ, hr, aAg.refl _ _, Nat.le_refl _, g⟩
theorem aThen.same {q1 : aQ} (hr : f q1 = some r) (hq : q1.1 = q.1) (g : aDen X ρ q1 h) : aThen X ρ q h f r := ⟨q1, ρ, hr, aAg.refl _ _, Nat.le_of_eq hq.symm, g⟩
theorem aThen.bind {g : aQ → Option β} (h1 : aThen X ρ q h g r) (h2 : ∀ q' ρ', g q' = some r → aDen X ρ' q' h → aThen X ρ' q' h f r) : aThen X ρ q h f r := by
  obtain ⟨q', ρ', e1, e2, e3, e4⟩ := h1
  obtain ⟨q2, ρ2, d1, d2, d3, d4⟩ := h2 q' ρ' e1 e4
  exact ⟨q2, ρ2, d1, e2.trans d2 e3, Nat.le_trans e3 d3, d4⟩
theorem aDen.setF (g : aDen X ρ q h) {fl : List Nat} (hf : ∀ j ∈ fl, X.2.2.1 j h) : aDen X ρ (a_setF q fl) h := ⟨g.1, g.2.1, g.2.2.1, hf, g.2.2.2.2⟩
theorem aDen.setO (g : aDen X ρ q h) {O : aO} (hO : aOv ρ q.1 O h) : aDen X ρ (a_setO q O) h := ⟨g.1, g.2.1, hO, g.2.2.2.1, g.2.2.2.2⟩
theorem a_newRK_ok {p : Nat → Bool} {fl : List Nat} {f : List Nat → Option β} {j0 : Nat} : ∀ {n : Nat} {acc : List Nat}, a_newRK p fl f j0 n acc = some r → ∃ fl', f fl' = some r ∧ ∀ x ∈ fl', x ∈ acc ∨ (j0 ≤ x ∧ x < j0 + n ∧ p x = true)
  | 0, acc, hr => ⟨acc, hr, fun _ hx => Or.inl hx⟩
  | n + 1, acc, hr => by
    have hr : x_kN (j0 + n) (fun j => cond (a_memN j fl) (a_newRK p fl f j0 n acc) (cond (p j) (a_newRK p fl f j0 n (j :: acc)) (a_newRK p fl f j0 n acc))) = some r := hr
    rw [x_kN_eq] at hr
    have step : a_newRK p fl f j0 n acc = some r → ∃ fl', f fl' = some r ∧ ∀ x ∈ fl', x ∈ acc ∨ (j0 ≤ x ∧ x < j0 + (n + 1) ∧ p x = true) := fun hr => by
      obtain ⟨fl', h1, h2⟩ := a_newRK_ok hr
      exact ⟨fl', h1, fun x hx => (h2 x hx).imp id (fun ⟨a, b, c⟩ => ⟨a, by omega, c⟩)⟩
    rcases x_condT hr with ⟨-, hr⟩ | ⟨-, hr⟩
    · exact step hr
    rcases x_condT hr with ⟨hp, hr⟩ | ⟨-, hr⟩
    · obtain ⟨fl', h1, h2⟩ := a_newRK_ok hr
      refine ⟨fl', h1, fun x hx => ?_⟩
      rcases h2 x hx with e | ⟨a, b, c⟩
      · rcases List.mem_cons.mp e with e | e
        · exact Or.inr ⟨by omega, by omega, by rw [e]; exact hp⟩
        · exact Or.inl e
      · exact Or.inr ⟨a, by omega, c⟩
    · exact step hr
theorem a_addR_ok {p : Nat → Bool} {j0 n : Nat} (hr : a_addR p j0 n q f = some r) (g : aDen X ρ q h) (hp : ∀ x, j0 ≤ x → x < j0 + n → p x = true → X.2.2.1 x h) : aThen X ρ q h f r := by
  obtain ⟨fl', h1, h2⟩ := a_newRK_ok (f := fun fl => f (a_setF q fl)) hr
  exact aThen.same (q1 := a_setF q fl') h1 rfl (g.setF fun j hj => (h2 j hj).elim (g.2.2.2.1 j) (fun ⟨a, b, c⟩ => hp j a b c))
theorem a_addR_fl {p : Nat → Bool} {j0 n : Nat} (hr : a_addR p j0 n q f = some r) : ∃ fl', f (a_setF q fl') = some r ∧ ∀ x ∈ fl', x ∈ q.2.2.2.2 ∨ (j0 ≤ x ∧ x < j0 + n ∧ p x = true) := a_newRK_ok (f := fun fl => f (a_setF q fl)) hr
theorem a_ogetN (g : aDen X ρ q h) {r o : Nat} {v : aV} (hv : a_oget q.2.2.2.1 r 0 (Int.ofNat o) = some v) : aR ρ q.1 v (h r o) := (a_oget_ok g.2.2.1 hv).2
theorem a_okb_ok (g : aDen X ρ q h) {r o : Nat} {m : Int} (hb : a_okb q r o m = true) : rB m (h r o).2 := by
  intro hm
  unfold a_okb at hb
  rw [show decide (m < 0) = false from decide_eq_false (by omega)] at hb
  have hb : (match a_oget q.2.2.2.1 r 0 (Int.ofNat o) with
    | some v => (match a_rngK q.2.1 v (fun lo hi => some (decide (0 ≤ lo) && decide (hi ≤ m))) with
      | some b => b
      | none => false)
    | none => false) = true := hb
  split at hb
  · rename_i v hv
    have hR := a_ogetN g hv
    split at hb
    · rename_i b hk
      obtain ⟨lo, hi, k1, k2, k3⟩ := a_rngK_ok hk g.1.1
      cases k1
      rw [Bool.and_eq_true, decide_eq_true_eq, decide_eq_true_eq] at hb
      rw [← aR_val hR] at k2 k3
      omega
    · cases hb
  · cases hb
theorem a_okR_ok (g : aDen X ρ q h) {ra oa rb ob : Nat} {nd : Int × Int} (hb : a_okR q ra oa rb ob nd = true) : rB nd.1 (h ra oa).2 ∧ rB nd.2 (h rb ob).2 := by
  unfold a_okR at hb
  rw [Bool.and_eq_true] at hb
  exact ⟨a_okb_ok g hb.1, a_okb_ok g hb.2⟩
theorem a_rgood_ok (g : aDen X ρ q h) {j : Nat} (hb : a_rgood q j = true) : rOK j h := by
  unfold a_rgood at hb
  rw [a_rowK_eq] at hb
  split at hb
  · rename_i b hk
    subst hb
    split at hk
    · cases hk
    · rename_i vk hv
      have hR := a_ogetN g hv
      obtain ⟨lo, hi, hk, k2, k3⟩ := a_rngK_ok hk g.1.1
      rw [← aR_val hR] at k2 k3
      rcases x_condT hk with ⟨e, hk⟩ | ⟨-, hk⟩
      · rw [decide_eq_true_eq] at e
        have ek : (h (rPl j).1 (rPl j).2.1).2 = lo := by omega
        unfold rOK
        rw [ek]
        rcases x_condT hk with ⟨e1, hk⟩ | ⟨e1, hk⟩
        · have e1 : j < 150 := Nat.le_of_ble_eq_true e1
          have et : rTau j = 0 := if_pos e1
          rw [et]
          rcases x_condT hk with ⟨e2, hk⟩ | ⟨e2, hk⟩
          · rw [decide_eq_true_eq] at e2
            split at hk
            · cases hk
            · rename_i vt hvt
              have hRt := a_ogetN g hvt
              obtain ⟨l2, h2, hk, m2, m3⟩ := a_rngK_ok hk g.1.1
              rw [← aR_val hRt] at m2 m3
              rcases x_condT hk with ⟨e3, hk⟩ | ⟨-, hk⟩
              · rw [decide_eq_true_eq] at e3
                have e4 : (h (rPl j).1 (rPl j).2.2.1).2 = l2 := by omega
                rw [e4, e2]
                exact a_okR_ok g (Option.some.inj hk)
              · cases hk
          · rw [decide_eq_false_iff_not] at e2
            rw [a_nd_t (Or.inr e2)]
            exact a_okR_ok g (Option.some.inj hk)
        · have e1 : ¬ j < 150 := fun e => by rw [show Nat.blt j 150 = true from Nat.ble_eq_true_of_le e] at e1; cases e1
          have et : rTau j = 1 := if_neg e1
          rw [et]
          exact a_okR_ok g (Option.some.inj hk)
      · cases hk
  · cases hb
theorem a_eqV_ok (g : aDen X ρ q h) {r o r' o' : Nat} (hb : a_eqV (a_oget q.2.2.2.1 r 0 (Int.ofNat o)) (a_oget q.2.2.2.1 r' 0 (Int.ofNat o')) = true) : h r' o' = h r o := by
  unfold a_eqV at hb
  split at hb
  · rename_i v w hv hw
    simp only [Bool.and_eq_true, decide_eq_true_eq] at hb
    have e : v = w := Prod.ext (Nat.eq_of_beq_eq_true hb.1) (Prod.ext (Nat.eq_of_beq_eq_true hb.2.1) hb.2.2)
    rw [(a_ogetN g hv).2, (a_ogetN g hw).2, e]
  · cases hb
theorem a_alike_ok (g : aDen X ρ q h) {a b : Nat} (hb : a_alike q a b = true) (ht : rTau a = rTau b) (ha : rOK a h) : rOK b h := by
  unfold a_alike at hb
  rw [a_rowK_eq, a_rowK_eq] at hb
  simp only [Bool.and_eq_true] at hb
  obtain ⟨h1, h2, h3, h4⟩ := hb
  unfold rOK
  rw [a_eqV_ok g h1, a_eqV_ok g h2, a_eqV_ok g h3, a_eqV_ok g h4, ← ht]
  exact ha
theorem a_allN_ok {p : Nat → Bool} {j0 : Nat} : ∀ {n : Nat}, a_allN p j0 n = true → ∀ i, i < n → p (j0 + i) = true
  | 0, _, i, hi => absurd hi (Nat.not_lt_zero i)
  | n + 1, hb, i, hi => by
    have hb : (p (j0 + n) && a_allN p j0 n) = true := hb
    rw [Bool.and_eq_true] at hb
    rcases Nat.lt_or_ge i n with e | e
    · exact a_allN_ok hb.2 i e
    · rw [show i = n by omega]; exact hb.1
theorem rFl_row {j : Nat} (hj : j < 150 ∨ (160 ≤ j ∧ j < 520)) : rFl j h ↔ rOK j h := by
  unfold rFl
  by_cases h1 : j < 150
  · rw [if_pos h1]
  · rw [if_neg h1, if_neg (by omega), if_neg (by omega), if_neg (by omega), if_pos (by omega)]
theorem a_bOK_ok {g j0 n : Nat} (hb : a_bOK g j0 n = true) : g < 600 ∧ j0 + n ≤ 520 ∧ (j0 + n ≤ 150 ∨ 160 ≤ j0) ∧ (rFl g h ↔ ∀ i, i < n → rOK (j0 + i) h) := by
  unfold a_bOK at hb
  cases hg : Nat.blt g 155 with
  | true =>
    rw [hg, cond_true] at hb
    simp only [Bool.and_eq_true] at hb
    have hg : g < 155 := Nat.le_of_ble_eq_true hg
    have h1 : 150 ≤ g := Nat.le_of_ble_eq_true hb.1
    have h2 : j0 = 30 * (g - 150) := Nat.eq_of_beq_eq_true hb.2.1
    have h3 : n = 30 := Nat.eq_of_beq_eq_true hb.2.2
    refine ⟨by omega, by omega, by omega, ?_⟩
    rw [h2, h3]
    unfold rFl
    rw [if_neg (by omega), if_pos hg]
  | false =>
    rw [hg, cond_false] at hb
    simp only [Bool.and_eq_true] at hb
    have h1 : 520 ≤ g := Nat.le_of_ble_eq_true hb.1
    have h4 : g < 526 := Nat.le_of_ble_eq_true hb.2.1
    have h2 : j0 = 160 + 60 * (g - 520) := Nat.eq_of_beq_eq_true hb.2.2.1
    have h3 : n = 60 := Nat.eq_of_beq_eq_true hb.2.2.2
    refine ⟨by omega, by omega, by omega, ?_⟩
    rw [h2, h3]
    unfold rFl
    rw [if_neg (by omega), if_neg (by omega), if_neg (by omega), if_neg (by omega), if_neg (by omega), if_pos h4]
end TH
def aFlOK (X : aX) : Prop := ∀ j h, j < 600 → (X.2.2.1 j h ↔ rFl j h)
section RW
variable {β : Type} {X : aX} {ρ : Nat → Int} {q : aQ} {h : zH} {f : aQ → Option β} {r : β}
theorem a_rowF (hFl : aFlOK X) {j : Nat} (hj : j < 150 ∨ (160 ≤ j ∧ j < 520)) : X.2.2.1 j h ↔ rOK j h := (hFl j h (by omega)).trans (rFl_row hj)
theorem a_checkR_ok (hFl : aFlOK X) {j0 n : Nat} (hr : a_checkR j0 n q f = some r) (hj : j0 + n ≤ 150 ∨ (160 ≤ j0 ∧ j0 + n ≤ 520)) (g : aDen X ρ q h) : aThen X ρ q h f r := a_addR_ok hr g fun x a b c => (a_rowF hFl (by omega)).mpr (a_rgood_ok g c)
theorem a_moveR_ok (hFl : aFlOK X) {a b n : Nat} (hr : a_moveR a b n q f = some r) (ha : 160 ≤ a ∧ a + n ≤ 520) (hb : 160 ≤ b ∧ b + n ≤ 520) (g : aDen X ρ q h) : aThen X ρ q h f r := a_addR_ok hr g fun x k1 k2 hc => by
  rw [Bool.and_eq_true, Bool.and_eq_true] at hc
  exact (a_rowF hFl (by omega)).mpr (a_alike_ok g hc.2.2 (Nat.eq_of_beq_eq_true hc.2.1) ((a_rowF hFl (by omega)).mp (g.2.2.2.1 _ (a_memN_ok hc.1))))
theorem a_bundle_ok (hFl : aFlOK X) {b j0 n : Nat} (hr : a_bundle b j0 n q f = some r) (g : aDen X ρ q h) : aThen X ρ q h f r := by
  unfold a_bundle at hr
  rcases x_condT hr with ⟨hb, hr⟩ | ⟨-, hr⟩
  · obtain ⟨b1, b2, b3, b4⟩ := a_bOK_ok (h := h) hb
    rcases x_condT hr with ⟨hm, hr⟩ | ⟨-, hr⟩
    · refine a_addR_ok hr g fun x k1 k2 _ => (a_rowF hFl (by omega)).mpr ?_
      have := b4.mp ((hFl _ _ b1).mp (g.2.2.2.1 _ (a_memN_ok hm))) (x - j0) (by omega)
      rw [show j0 + (x - j0) = x by omega] at this
      exact this
    rcases x_condT hr with ⟨ha, hr⟩ | ⟨-, hr⟩
    · refine aThen.same hr rfl (g.setF fun j hj => ?_)
      rcases List.mem_cons.mp hj with e | e
      · rw [e]
        exact (hFl _ _ b1).mpr (b4.mpr fun i hi => (a_rowF hFl (by omega)).mp (g.2.2.2.1 _ (a_memN_ok (a_allN_ok ha i hi))))
      · exact g.2.2.2.1 j e
    · exact aThen.here hr g
  · cases hr
theorem a_bundleN_ok (hFl : aFlOK X) (hr : a_bundleN q f = some r) (g : aDen X ρ q h) : aThen X ρ q h f r := by
  unfold a_bundleN at hr
  split at hr
  · exact aThen.here hr g
  · rename_i v hv
    have hR : aR ρ q.1 v (h 121 25) := a_ogetN (o := 25) g hv
    obtain ⟨lo, hi, hr, k2, k3⟩ := a_rngK_ok hr g.1.1
    rw [← aR_val hR] at k2 k3
    have h155 : rFl 155 h ↔ ∀ i : Nat, i < 30 → (i : Int) < (h 121 25).2 → rOK (120 + i) h := by
      unfold rFl
      rw [if_neg (by omega), if_neg (by omega), if_pos rfl]
    rcases x_condT hr with ⟨hc, hr⟩ | ⟨-, hr⟩
    · simp only [Bool.and_eq_true, decide_eq_true_eq] at hc
      have en : (h 121 25).2 = lo := by omega
      rcases x_condT hr with ⟨hm, hr⟩ | ⟨-, hr⟩
      · rw [x_kN_eq] at hr
        refine a_addR_ok hr g fun x k1 k2 _ => (a_rowF hFl (by omega)).mpr ?_
        have := h155.mp ((hFl 155 _ (by omega)).mp (g.2.2.2.1 _ (a_memN_ok hm))) (x - 120) (by omega) (by omega)
        rw [show 120 + (x - 120) = x by omega] at this
        exact this
      rcases x_condT hr with ⟨ha, hr⟩ | ⟨-, hr⟩
      · refine aThen.same hr rfl (g.setF fun j hj => ?_)
        rcases List.mem_cons.mp hj with e | e
        · rw [e]
          exact (hFl 155 _ (by omega)).mpr (h155.mpr fun i hi h2 => (a_rowF hFl (by omega)).mp (g.2.2.2.1 _ (a_memN_ok (a_allN_ok ha i (by omega)))))
        · exact g.2.2.2.1 j e
      · exact aThen.here hr g
    · exact aThen.here hr g
theorem a_rs_ok (hFl : aFlOK X) {j : Nat} {i : Nat} (hi : i < 30) (hj : j < 150) (g : aDen X ρ q h) (hc : (a_rgood q j || a_any (fun b => a_memN (30 * b + i) q.2.2.2.2 && a_alike q (30 * b + i) j) [0, 1, 2, 3, 4]) = true) : X.2.2.1 j h := by
  refine (a_rowF hFl (Or.inl hj)).mpr ?_
  rw [Bool.or_eq_true] at hc
  rcases hc with hc | hc
  · exact a_rgood_ok g hc
  · have : ∃ b ∈ [0, 1, 2, 3, 4], (a_memN (30 * b + i) q.2.2.2.2 && a_alike q (30 * b + i) j) = true := a_any_ok hc
    obtain ⟨b, hb, hc⟩ := this
    have hb5 : b < 5 := by
      simp only [List.mem_cons, List.not_mem_nil, or_false] at hb
      omega
    rw [Bool.and_eq_true] at hc
    refine a_alike_ok g hc.2 ?_ ((a_rowF hFl (Or.inl (by omega))).mp (g.2.2.2.1 _ (a_memN_ok hc.1)))
    unfold rTau
    rw [if_pos (by omega), if_pos hj]
end RW
