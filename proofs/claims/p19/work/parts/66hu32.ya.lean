/-! WHAT HOLDS OF EVERY LAND THAT A TEXT SAYS -/
def pV0 (P : PT) : Prop := (2 ≤ P 0 0 ∧ P 0 0 ≤ 8) ∧ (0 ≤ P 0 1 ∧ P 0 1 ≤ 6) ∧ P 0 2 = 1 ∧ P 0 3 = 0 ∧ P 0 4 = 0 ∧ P 0 9 = 0 ∧ ∀ i, P 3 i = 0
def pVk (P : PT) (k : Nat) : Prop := (0 ≤ P 5 k ∧ gIn P (P 5 k).toNat) ∧ (0 ≤ P 6 k ∧ gIn P (P 6 k).toNat) ∧ (0 ≤ P 7 k ∧ gIn P (P 7 k).toNat) ∧ (0 ≤ P 8 k ∧ P 8 k < P 0 2) ∧ P 9 k = 0
def pV (P : PT) : Prop := (2 ≤ P 0 0 ∧ P 0 0 ≤ 8) ∧ (1 ≤ P 0 1 ∧ P 0 1 ≤ 6) ∧ 1 ≤ P 0 2 ∧ (P 0 9 = 0 → P 0 2 = 1) ∧ 0 ≤ P 0 3 ∧ P 0 4 = 0 ∧ (∀ i, P 3 i = 0) ∧ ∀ k : Nat, (k : Int) < P 0 3 → pVk P k
theorem pRow_V {τ P P' : PT} {i j : Nat} (h : pV0 P) (e : pRow τ P i = .inr (P', j)) : pV0 P' := by
  obtain ⟨a1, a2, a3, a4, a5, a6, a7⟩ := h
  unfold pRow at e
  by_cases c : 6 ≤ P 0 1
  · rw [if_pos c] at e; cases e
  · rw [if_neg c] at e
    unfold pRowL at e
    by_cases d : bL τ (P 0 0) (i + 1) ≠ 0 ∧ pAll τ (i + 1) (P 0 0).toNat = true
    · rw [if_pos d] at e
      cases e
      exact ⟨a1, (show 0 ≤ P 0 1 + 1 ∧ P 0 1 + 1 ≤ 6 by omega), a3, a4, a5, a6, a7⟩
    · rw [if_neg d] at e; cases e
theorem pRows_V {τ : PT} : ∀ (f : Nat) {P P' : PT} {i j : Nat}, pV0 P → pRows τ f P i = .inr (P', j) → pV0 P' ∧ 1 ≤ P' 0 1
  | 0, _, _, _, _, _, e => by cases e
  | f + 1, P, P', i, j, h, e => by
    have e : (if bW τ 1 i ≠ 0 then eb (pS τ (pRow τ P i)) (fun a => pRows τ f a.1 a.2) else if 0 < P 0 1 then .inr (P, i) else .inl (eF τ i 2)) = .inr (P', j) := e
    by_cases c : bW τ 1 i ≠ 0
    · rw [if_pos c] at e
      obtain ⟨a, e1, e2⟩ := eb_i e
      obtain ⟨b, e3, e4⟩ := eb_i e1
      obtain ⟨q, e5, e6⟩ := eb_i e4
      cases e6
      exact pRows_V f (pRow_V (P' := b.1) (j := b.2) h e3) e2
    · rw [if_neg c] at e
      by_cases d : 0 < P 0 1
      · rw [if_pos d] at e
        cases e
        exact ⟨h, by omega⟩
      · rw [if_neg d] at e; cases e
theorem pCell_V {τ : PT} {w r x y : Int} {i j : Nat} (e : pCell τ w r i = .inr (x, y, j)) : (0 ≤ x ∧ x ≤ w - 1) ∧ 0 ≤ y ∧ y ≤ r - 1 := by
  unfold pCell at e
  obtain ⟨a, e1, e2⟩ := eb_i e
  obtain ⟨b, e3, e4⟩ := eb_i e2
  cases e4
  exact ⟨pNum_bd (j := a.2) e1, pNum_bd (j := b.2) e3⟩
theorem pCi_in {P : PT} {x y : Int} (hx : 0 ≤ x ∧ x ≤ P 0 0 - 1) (hy : 0 ≤ y ∧ y ≤ P 0 1 - 1) (hw : P 0 0 ≤ 8) (hr : P 0 1 ≤ 6) : 0 ≤ pCi x y ∧ gIn P (pCi x y).toNat := by
  unfold pCi
  exact ⟨by omega, by omega, by omega, by omega⟩
section PAD
variable {P : PT} {nm hm gl b : Int} {k : Nat}
theorem pAdd_5 : pAdd P nm hm gl b 5 k = if k = (P 0 3).toNat then hm else P 5 k := by
  unfold pAdd
  rw [pset_ne (by omega), pset_ne (by omega), pset_ne (by omega), pset_ne (by omega), pset_ne (by omega)]
  by_cases c : k = (P 0 3).toNat
  · rw [if_pos c, c, pset_same]
  · rw [if_neg c, pset_ne (fun q => c q.2), pset_ne (by omega)]
theorem pAdd_6 : pAdd P nm hm gl b 6 k = if k = (P 0 3).toNat then hm else P 6 k := by
  unfold pAdd
  rw [pset_ne (by omega), pset_ne (by omega), pset_ne (by omega), pset_ne (by omega)]
  by_cases c : k = (P 0 3).toNat
  · rw [if_pos c, c, pset_same]
  · rw [if_neg c, pset_ne (fun q => c q.2), pset_ne (by omega), pset_ne (by omega)]
theorem pAdd_7 : pAdd P nm hm gl b 7 k = if k = (P 0 3).toNat then gl else P 7 k := by
  unfold pAdd
  rw [pset_ne (by omega), pset_ne (by omega), pset_ne (by omega)]
  by_cases c : k = (P 0 3).toNat
  · rw [if_pos c, c, pset_same]
  · rw [if_neg c, pset_ne (fun q => c q.2), pset_ne (by omega), pset_ne (by omega), pset_ne (by omega)]
theorem pAdd_8 : pAdd P nm hm gl b 8 k = if k = (P 0 3).toNat then b else P 8 k := by
  unfold pAdd
  rw [pset_ne (by omega), pset_ne (by omega)]
  by_cases c : k = (P 0 3).toNat
  · rw [if_pos c, c, pset_same]
  · rw [if_neg c, pset_ne (fun q => c q.2), pset_ne (by omega), pset_ne (by omega), pset_ne (by omega), pset_ne (by omega)]
theorem pAdd_9 : pAdd P nm hm gl b 9 k = if k = (P 0 3).toNat then 0 else P 9 k := by
  unfold pAdd
  rw [pset_ne (by omega)]
  by_cases c : k = (P 0 3).toNat
  · rw [if_pos c, c, pset_same]
  · rw [if_neg c, pset_ne (fun q => c q.2), pset_ne (by omega), pset_ne (by omega), pset_ne (by omega), pset_ne (by omega), pset_ne (by omega)]
end PAD
theorem pPart_V {τ P P' : PT} {i j : Nat} (h : pV P) (e : pPart τ P i = .inr (P', j)) : pV P' := by
  obtain ⟨a1, a2, a3, a4, a5, a6, a7, a8⟩ := id h
  unfold pPart at e
  by_cases c : bW τ 2 i ≠ 0
  · rw [if_pos c] at e
    unfold pRise at e
    obtain ⟨q1, e1, e2⟩ := eb_i e
    obtain ⟨q2, e3, e4⟩ := eb_i e2
    obtain ⟨q3, e5, e6⟩ := eb_i e4
    cases e6
    exact h
  · rw [if_neg c] at e
    by_cases c2 : bW τ 4 i ≠ 0
    · rw [if_pos c2] at e
      unfold pCopies at e
      by_cases c3 : P 0 9 ≠ 0
      · rw [if_pos c3] at e; cases e
      · rw [if_neg c3] at e
        obtain ⟨v, e1, e2⟩ := eb_i e
        cases e2
        have vb := pNum_bd (x := v.1) (j := v.2) e1
        have p2 := a4 (by omega)
        refine ⟨a1, a2, vb.1, fun q => absurd q (by show ¬ (1 : Int) = 0; decide), a5, a6, a7, fun k hk => ?_⟩
        obtain ⟨b1, b2, b3, b4, b5⟩ := a8 k hk
        exact ⟨b1, b2, b3, (show 0 ≤ P 8 k ∧ P 8 k < v.1 by omega), b5⟩
    · rw [if_neg c2] at e
      by_cases c3 : bW τ 5 i ≠ 0
      · rw [if_pos c3] at e
        unfold pCompany at e
        by_cases d : 6 ≤ P 0 3
        · rw [if_pos d] at e; cases e
        · rw [if_neg d] at e
          by_cases d2 : bN τ (i + 1) ≠ 0
          · rw [if_pos d2] at e
            by_cases d3 : pIx (P 4) (τ 4 (i + 1)) (P 0 3).toNat 0 ≠ -1
            · rw [if_pos d3] at e; cases e
            · rw [if_neg d3] at e
              obtain ⟨q1, e1, e2⟩ := eb_i e
              obtain ⟨q2, e3, e4⟩ := eb_i e2
              obtain ⟨q3, e5, e6⟩ := eb_i e4
              obtain ⟨q4, e7, e8⟩ := eb_i e6
              obtain ⟨q5, e9, e10⟩ := eb_i e8
              have v1 := pCell_V (x := q2.1) (y := q2.2.1) (j := q2.2.2) e3
              have v2 := pCell_V (x := q4.1) (y := q4.2.1) (j := q4.2.2) e7
              have g1 := pCi_in (P := P) v1.1 v1.2 a1.2 a2.2
              have g2 := pCi_in (P := P) v2.1 v2.2 a1.2 a2.2
              have vb : 0 ≤ q5.1 ∧ q5.1 < P 0 2 := by
                unfold pBy at e9
                by_cases d4 : bW τ 3 q4.2.2 ≠ 0
                · rw [if_pos d4] at e9
                  have := pNum_bd (x := q5.1) (j := q5.2) e9
                  omega
                · rw [if_neg d4] at e9
                  cases e9
                  show (0 : Int) ≤ 0 ∧ 0 < P 0 2
                  omega
              cases e10
              refine ⟨a1, a2, a3, a4, (show 0 ≤ P 0 3 + 1 by omega), a6, a7, fun k hk => ?_⟩
              have hk : (k : Int) < P 0 3 + 1 := hk
              unfold pVk
              rw [pAdd_5, pAdd_6, pAdd_7, pAdd_8, pAdd_9]
              by_cases ek : k = (P 0 3).toNat
              · rw [if_pos ek, if_pos ek, if_pos ek, if_pos ek, if_pos ek]
                exact ⟨g1, g1, g2, vb, rfl⟩
              · rw [if_neg ek, if_neg ek, if_neg ek, if_neg ek, if_neg ek]
                exact a8 k (by omega)
          · rw [if_neg d2] at e; cases e
      · rw [if_neg c3] at e; cases e
theorem pParts_V {τ : PT} : ∀ (f : Nat) {P P' : PT} {i : Nat}, pV P → pParts τ f P i = .inr P' → pV P'
  | 0, _, _, _, h, e => by cases e; exact h
  | f + 1, P, P', i, h, e => by
    have e : (if τ 0 i = 0 then .inr P else eb (pS τ (pPart τ P i)) (fun a => pParts τ f a.1 a.2)) = .inr P' := e
    by_cases c : τ 0 i = 0
    · rw [if_pos c] at e
      cases e
      exact h
    · rw [if_neg c] at e
      obtain ⟨a, e1, e2⟩ := eb_i e
      obtain ⟨b, e3, e4⟩ := eb_i e1
      obtain ⟨q, e5, e6⟩ := eb_i e4
      cases e6
      exact pParts_V f (pPart_V (P' := b.1) (j := b.2) h e3) e2
theorem pLand_V {τ P : PT} (e : pLand τ = .inr P) : pV P := by
  unfold pLand at e
  obtain ⟨a, e1, e2⟩ := eb_i e
  obtain ⟨b, e3, e4⟩ := eb_i e2
  unfold pWide at e1
  obtain ⟨q1, f1, f2⟩ := eb_i e1
  obtain ⟨q2, f3, f4⟩ := eb_i f2
  obtain ⟨q3, f5, f6⟩ := eb_i f4
  cases f6
  have w := pNum_bd (x := q2.1) (j := q2.2) f3
  have v0 : pV0 (pset pO 0 0 q2.1) := by
    refine ⟨w, ?_, ?_, ?_, ?_, ?_, fun i => ?_⟩
    · rw [pset_ne (by decide)]; unfold pO; decide
    · rw [pset_ne (by decide)]; rfl
    · rw [pset_ne (by decide)]; rfl
    · rw [pset_ne (by decide)]; rfl
    · rw [pset_ne (by decide)]; rfl
    · rw [pset_ne (by omega)]; exact if_neg (by omega)
  obtain ⟨⟨b1, b2, b3, b4, b5, b6, b7⟩, b8⟩ := pRows_V 7 (P' := b.1) (j := b.2) v0 e3
  exact pParts_V 900 ⟨b1, ⟨b8, b2.2⟩, by omega, fun _ => b3, by omega, b5, b7, fun k hk => absurd hk (by omega)⟩ e4
