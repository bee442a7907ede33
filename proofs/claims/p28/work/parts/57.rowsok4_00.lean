section TH4
variable {X : aX} {ρ : Nat → Int} {q : aQ} {h : zH}
theorem a_bdK_ok {β : Type} {v : aV} {zv : zV} {m : Int} {f : aQ → Option (List β)} {r : List β} (hr : a_bdK v m q f = some r) (g : aDen X ρ q h) (hv : aR ρ q.1 v zv) (hB : rB m zv.2) : ∃ q', f q' = some r ∧ q'.1 = q.1 ∧ q'.2.2.2 = q.2.2.2 ∧ aDen X ρ q' h := by
  unfold a_bdK at hr
  rcases x_condT hr with ⟨-, hr⟩ | ⟨hm, hr⟩
  · exact ⟨q, hr, rfl, rfl, g⟩
  · rw [a_decF] at hm
    obtain ⟨b1, b2⟩ := hB (by omega)
    obtain ⟨q1, hr, e1, e2, g1⟩ := a_leK_ok (zx := zv) (zy := (0, m)) hr g hv ⟨Nat.zero_le _, rfl⟩ (by show zv.2 ≤ m + 0; omega)
    obtain ⟨q2, hr, d1, d2, g2⟩ := a_leK_ok (zx := (0, 0)) (zy := zv) hr g1 ⟨Nat.zero_le _, rfl⟩ (by rw [e1]; exact hv) (by show 0 ≤ zv.2 + 0; omega)
    exact ⟨q2, hr, d1.trans e1, d2.trans e2, g2⟩
end TH4
section TH4
variable {X : aX} {ρ : Nat → Int} {q : aQ} {h : zH}
end TH4
section TH4
variable {X : aX} {ρ : Nat → Int} {q : aQ} {h : zH}
theorem rPl_1 {o i : Nat} (hi : i < 60) : rPl (160 + 60 * o + i) = (a_ord o + 1, i, i, a_ord o + 2, i, a_ord o + 3, i) := by
  unfold rPl
  rw [if_neg (by omega), show 160 + 60 * o + i - 160 = 60 * o + i by omega, show (60 * o + i) / 60 = o by omega, show (60 * o + i) % 60 = i by omega]
end TH4
section TH4
variable {X : aX} {ρ : Nat → Int} {q : aQ} {h : zH}
theorem a_rowreadC_ok (hFl : aFlOK X) {loc r0 : Nat} {o0 : Int} {st : aS} {z : zS} {l : List aS} (hr : a_rowreadC loc r0 o0 st = some l) (g : aStD X ρ st z) : ∃ st' ∈ l, aRes1 X ρ st.1.1 z st' := by
  obtain ⟨q, L, S⟩ := st
  unfold a_rowreadC at hr
  dsimp only at hr
  split at hr
  · rename_i vi vo hvi hvo
    rcases x_condT hr with ⟨-, hr⟩ | ⟨-, hr⟩
    · split at hr
      · rename_i o ho
        obtain ⟨o6, -⟩ := a_ordI_ok ho
        rcases x_condT hr with ⟨hm, hr⟩ | ⟨-, hr⟩
        · obtain ⟨zi, -, hRi⟩ := a_lget_ok g.2.1 hvi
          obtain ⟨lo, hi, hr, k1, k2⟩ := a_rng_den hr g.1 hRi
          rcases x_condT hr with ⟨hc, hr⟩ | ⟨-, hr⟩
          · simp only [Bool.and_eq_true, a_dec_eq] at hc
            obtain ⟨s, of, hr, s1, s2⟩ := a_idxK_ok hr hRi k1 k2
            split at hr
            · rename_i vk va vb hk ha hb
              have rk := (a_oget_ok g.1.2.2.1 hk).2
              have ra := (a_oget_ok g.1.2.2.1 ha).2
              have rb := (a_oget_ok g.1.2.2.1 hb).2
              obtain ⟨i, hi⟩ : ∃ i, i = zi.2.toNat := ⟨_, rfl⟩
              rw [s2, ← hi] at rk ra rb
              have i60 : i < 60 := by omega
              have hok : rOK (160 + 60 * o + i) z.1 := by
                have := (hFl (217 + o) z.1 (by omega)).mp (g.1.2.2.2.1 _ (a_memN_ok hm))
                have hfr : a_fr (217 + o) = (160 + 60 * o, 220 + 60 * o) := by
                  match o, o6 with
                  | 0, _ => rfl
                  | 1, _ => rfl
                  | 2, _ => rfl
                  | 3, _ => rfl
                  | 4, _ => rfl
                  | 5, _ => rfl
                  | n + 6, h => omega
                exact (rFl_n (by omega)).mp this (160 + 60 * o + i) (by rw [hfr]; show 160 + 60 * o ≤ _; omega) (by rw [hfr]; show _ < 220 + 60 * o; omega)
              unfold rOK at hok
              rw [rPl_1 i60, show rTau (160 + 60 * o + i) = 1 from if_neg (by omega)] at hok
              dsimp only at hok
              refine a_kinds_ok hr g rk fun k q' l' hr e1 e2 g' ek => ?_
              rw [ek] at hok
              obtain ⟨q1, hr, d1, d2, g1⟩ := a_bdK_ok hr g'.1 (by rw [e1]; exact ra) hok.1
              obtain ⟨q2, hr, c1, c2, g2⟩ := a_bdK_ok hr g1 (by rw [d1, e1]; exact rb) hok.2
              cases hr
              exact ⟨_, List.mem_cons_self, ρ, aAg.refl _ _, Nat.le_of_eq (c1.trans (d1.trans e1)).symm, g'.with (c1.trans d1) g2⟩
            · cases hr
          · cases hr
        · cases hr
      · cases hr
    · cases hr
  · cases hr
end TH4
