section TH4
variable {X : aX} {ρ : Nat → Int} {q : aQ} {h : zH}
theorem a_splitL_ok {X : aX} {ρ : Nat → Int} {loc r0 : Nat} {o0 : Int} {d : Nat} {st : aS} {z : zS} {l : List aS} (hr : a_splitL loc r0 o0 d st = some l) (g : aStD X ρ st z) : ∃ st' ∈ l, ∃ ρ', aAg ρ ρ' st.1.1 ∧ st.1.1 ≤ st'.1.1 ∧ aStD X ρ' st' z := by
  unfold a_splitL at hr
  split at hr
  · rename_i vi v h1 h2
    obtain ⟨lo, hi, hr⟩ := a_rngK_any hr
    rcases x_condT hr with ⟨-, hr⟩ | ⟨-, hr⟩
    · rw [x_kN_eq] at hr
      rcases x_condT hr with ⟨-, hr⟩ | ⟨-, hr⟩
      · rw [x_kZ_eq] at hr
        obtain ⟨-, h3⟩ := a_oget_ok g.1.2.2.1 h2
        obtain ⟨st', k1, k2, k3⟩ := a_splitR_ok (X := X) (z := z) hr g h3
        exact ⟨st', k1, ρ, aAg.refl _ _, Nat.le_of_eq k2.symm, k3⟩
      · cases hr
        exact ⟨_, List.mem_cons_self, ρ, aAg.refl _ _, Nat.le_refl _, g⟩
    · cases hr
  · cases hr
end TH4
section TH4
variable {X : aX} {ρ : Nat → Int} {q : aQ} {h : zH}
theorem aLmR_ok (hX : aOK X) (hFl : aFlOK X) (hI : aIntOK X) : aLmOK X aLmR := by
  intro k w bs st l hr ρ z g
  have one : ∀ s : (aQ → Option (List aS)) → Option (List aS), a_one1 st s = some l → (∀ f r, s f = some r → aThen X ρ st.1 z.1 f r) → ∃ st' ∈ l, ∃ ρ', aAg ρ ρ' st.1.1 ∧ st.1.1 ≤ st'.1.1 ∧ aStD X ρ' st' z := fun s hr hs => aStD.then (q := st.1) (L := st.2.1) (S := st.2.2) g (hs _ _ hr)
  unfold aLmR at hr
  split at hr
  · exact a_rowread_ok hFl hI hr g
  · exact one (fun f => a_cover f _ st.1) hr fun f r hr => a_cover_ok hFl hr g.1
  · exact one _ hr fun f r hr => a_coverP_ok hFl hr g.1
  · exact one _ hr fun f r hr => a_coverL_ok hFl hr g.1
  · exact a_rowreadC_ok hFl hr g
  · exact one _ hr fun f r hr => a_rowstep_ok hFl hr g.1
  · exact one _ hr fun f r hr => a_dropF_ok hr g.1
  · exact one _ hr fun f r hr => a_openC_ok hI hr g.1
  · exact one _ hr fun f r hr => a_moveC_ok hFl hr g.1
  · exact one _ hr fun f r hr => a_derive_ok hr g.1 g.2.1
  · exact one _ hr fun f r hr => a_dropO_ok hr g.1
  · exact one (fun f => a_rebase _ _ st.1 f _) hr fun f r hr => a_rebase_ok hr g.1
  · exact one _ hr fun f r hr => a_moveA_ok hX hr g.1
  · exact one _ hr fun f r hr => a_zeroA_ok hX hr g.1
  · exact one _ hr fun f r hr => a_zeA_ok hX hr g.1
  · exact one _ hr fun f r hr => a_keepR_ok hr g.1
  · exact a_splitL_ok hr g
  · exact aLmS_ok X _ w bs st l hr ρ z g
  · exact aLmS_ok X _ w bs st l hr ρ z g
  · cases hr
end TH4
