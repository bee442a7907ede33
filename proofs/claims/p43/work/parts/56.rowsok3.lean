section TH3
variable {β : Type} {X : aX} {ρ : Nat → Int} {q : aQ} {h : zH} {f : aQ → Option β} {r : β}
theorem a_rowstep_ok (hFl : aFlOK X) {L : aL} {loc : Nat} {off a b : Int} (hr : a_rowstep L loc off a b q f = some r) (g : aDen X ρ q h) : aThen X ρ q h f r := by
  unfold a_rowstep at hr
  split at hr
  · obtain ⟨lo, hi, hr⟩ := a_rngK_any hr
    rcases x_condT hr with ⟨-, hr⟩ | ⟨-, hr⟩
    · rw [x_kN_eq] at hr
      rcases x_condT hr with ⟨-, hr⟩ | ⟨-, hr⟩
      · rcases x_condT hr with ⟨-, hr⟩ | ⟨-, hr⟩
        · exact a_dropO_ok hr g
        · exact aThen.here hr g
      rcases x_condT hr with ⟨-, hr⟩ | ⟨-, hr⟩
      · exact aThen.here hr g
      · obtain ⟨a', hr⟩ := a_blk_ok hr
        obtain ⟨b', hr⟩ := a_blk_ok hr
        rw [x_kN_eq] at hr
        refine (a_cov_ok hFl hr g).bind fun q1 ρ1 hr g1 => (a_cov_ok hFl hr g1).bind fun q2 ρ2 hr g2 => ?_
        rw [x_spine_eq] at hr
        have k := a_dropO_ok hr (g2.setF fun j hj => g2.2.2.2.1 j (a_flt_mem hj).1)
        exact k
    · cases hr
  · cases hr
def aRes1 (X : aX) (ρ : Nat → Int) (n : Nat) (z : zS) (st : aS) : Prop := ∃ ρ', aAg ρ ρ' n ∧ n ≤ st.1.1 ∧ aStD X ρ' st z
theorem aStD.with {L : aL} {S : List aV} {z : zS} {q' : aQ} (g : aStD X ρ (q, L, S) z) (h1 : q'.1 = q.1) (h2 : aDen X ρ q' z.1) : aStD X ρ (q', L, S) z := ⟨h2, by show aRL ρ q'.1 _ _; rw [h1]; exact g.2.1, by show aRl ρ q'.1 _ _; rw [h1]; exact g.2.2⟩
theorem aStD.then {L : aL} {S : List aV} {z : zS} {l : List aS} (g : aStD X ρ (q, L, S) z) (hr : aThen X ρ q z.1 (fun q => some [(q, L, S)]) l) : ∃ st' ∈ l, aRes1 X ρ q.1 z st' := by
  obtain ⟨q', ρ', e1, e2, e3, e4⟩ := hr
  cases e1
  exact ⟨_, List.mem_cons_self, ρ', e2, e3, e4, g.2.1.mono e3 e2, g.2.2.mono e3 e2⟩
theorem a_kinds_ok {vk : aV} {zk : zV} {pay : Int → aQ → Option (List aS)} {L : aL} {S : List aV} {z : zS} : ∀ {ks : List Int} {q : aQ} {l : List aS}, a_kinds vk pay L S ks q = some l → aStD X ρ (q, L, S) z → aR ρ q.1 vk zk → (∀ k q' l', pay k q' = some l' → q'.1 = q.1 → q'.2.2.2 = q.2.2.2 → aStD X ρ (q', L, S) z → zk.2 = k → ∃ st' ∈ l', aRes1 X ρ q.1 z st') → ∃ st' ∈ l, aRes1 X ρ q.1 z st'
  | [], q, l, hr, g, hk, hp => by
    have hr : some [(q, L, S)] = some l := hr
    cases hr
    exact ⟨_, List.mem_cons_self, ρ, aAg.refl _ _, Nat.le_refl _, g⟩
  | k :: ks, q, l, hr, g, hk, hp => by
    have hr : a_br 2 q vk (0, 0, k) (pay k) (a_kinds vk pay L S ks) = some l := hr
    obtain ⟨q', r', m1, m2, m3, m4, m5⟩ := a_br_ok (zy := (0, k)) hr g.1 hk ⟨Nat.zero_le _, rfl⟩
    have g' := g.with m2 m4
    rcases m5 with ⟨e, hr⟩ | ⟨-, hr⟩
    · have e : zk.2 = k := a_ofDec e
      obtain ⟨st', h1, h2⟩ := hp k q' r' hr m2 m3 g' e
      exact ⟨st', m1 _ h1, h2⟩
    · obtain ⟨st', h1, h2⟩ := a_kinds_ok hr g' (by rw [m2]; exact hk) (fun k q2 l' a b c d e => by
        rw [m2]
        exact hp k q2 l' a (b.trans m2) (c.trans m3) d e)
      rw [m2] at h2
      exact ⟨st', m1 _ h1, h2⟩
theorem a_rowb1_ok {r0 o : Nat} {m : Int} (hr : a_rowb1 r0 o m q f = some r) (g : aDen X ρ q h) (hB : rB m (h r0 o).2) (ht : (h r0 o).1 = 0) : aThen X ρ q h f r := by
  unfold a_rowb1 at hr
  rcases x_condT hr with ⟨-, hr⟩ | ⟨hm, hr⟩
  · exact aThen.here hr g
  · rw [a_decF] at hm
    obtain ⟨b1, b2⟩ := hB (by omega)
    obtain ⟨q', v, ρ', hr, e1, e2, e3, e4⟩ := a_newK_ok hr g b1 b2
    have hr : f (a_addO q' ((r0, 0, Int.ofNat o), v)) = some r := (x_kN_eq o (fun o => f (a_addO q' ((r0, 0, Int.ofNat o), v)))).symm.trans hr
    have e4 : aR ρ' q'.1 v (h r0 o) := by rw [show h r0 o = (0, (h r0 o).2) from Prod.ext ht rfl]; exact e4
    exact ⟨_, ρ', hr, e1, e2, e3.cell e4⟩
theorem rPl_0 {j : Nat} (hj : j < 30) : rPl j = (126, 277 + 9 * j, 277 + 9 * j + 6, 126, 277 + 9 * j + 1, 126, 277 + 9 * j + 2) := by
  unfold rPl
  rw [if_pos (by omega), Nat.div_eq_of_lt hj, Nat.mod_eq_of_lt hj]
theorem a_rowread_ok (hFl : aFlOK X) (hI : aIntOK X) {loc : Nat} {st : aS} {z : zS} {l : List aS} (hr : a_rowread loc st = some l) (g : aStD X ρ st z) : ∃ st' ∈ l, aRes1 X ρ st.1.1 z st' := by
  obtain ⟨q, L, S⟩ := st
  unfold a_rowread at hr
  dsimp only at hr
  split at hr
  · rename_i vw hw
    obtain ⟨lo, hi, hr⟩ := a_rngK_any hr
    rcases x_condT hr with ⟨-, hr⟩ | ⟨-, hr⟩
    · rw [x_kN_eq] at hr
      obtain ⟨j, hj⟩ : ∃ j, j = (lo.toNat - 277) / 9 := ⟨_, rfl⟩
      rw [← hj] at hr
      rcases x_condT hr with ⟨hc, hr⟩ | ⟨-, hr⟩
      · rw [x_kN_eq] at hr
        simp only [Bool.and_eq_true] at hc
        obtain ⟨c1, c2, c3⟩ := hc
        have c1 := Nat.eq_of_beq_eq_true c1
        have c2 : j < 30 := Nat.le_of_ble_eq_true c2
        rw [c1] at hr
        have hok : rOK j z.1 := a_has_ok hFl g.1 c3
        have hi := (hI z.1 g.1.2.1).1
        unfold rOK at hok
        rw [rPl_0 c2, show rTau j = 0 from if_pos (by omega)] at hok
        dsimp only at hok
        split at hr
        · rename_i vk hvk
          have hRk := a_ogetN g.1 hvk
          refine a_kinds_ok hr g hRk fun k q' l' hr e1 e2 g' ek => ?_
          rw [ek] at hok
          rcases x_condT hr with ⟨h7, hr⟩ | ⟨h7, hr⟩
          · rw [a_dec_eq] at h7
            rw [h7] at hok
            split at hr
            · rename_i vt hvt
              have hRt := a_ogetN g'.1 hvt
              have := a_kinds_ok hr g' hRt fun t q2 l2 hr d1 d2 g2 et => by
                rw [et] at hok
                rw [← d1]
                exact g2.then ((a_rowb1_ok hr g2.1 hok.1 (hi _ (by omega))).bind fun q3 ρ3 hr g3 => a_rowb1_ok hr g3 hok.2 (hi _ (by omega)))
              rw [e1] at this
              exact this
            · cases hr
              exact ⟨_, List.mem_cons_self, ρ, aAg.refl _ _, Nat.le_of_eq e1.symm, g'⟩
          · rw [a_decF] at h7
            rw [a_nd_t (Or.inr h7)] at hok
            rw [← e1]
            exact g'.then ((a_rowb1_ok hr g'.1 hok.1 (hi _ (by omega))).bind fun q3 ρ3 hr g3 => a_rowb1_ok hr g3 hok.2 (hi _ (by omega)))
        · cases hr
      · cases hr
    · cases hr
  · cases hr
end TH3
