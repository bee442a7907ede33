section
/-! ORDERS WITH WHAT THEY SAY: an item's numbers, what tokens spell, and how it comes to lie in rows -/
theorem pCell_bd {τ : PT} {w r : Int} {i : Nat} {a : Int × Int × Nat} (h : pCell τ w r i = .inr a) : (0 ≤ a.1 ∧ a.1 ≤ w - 1) ∧ 0 ≤ a.2.1 ∧ a.2.1 ≤ r - 1 := by
  obtain ⟨b, h1, h⟩ := eb_i h
  obtain ⟨c, h2, h⟩ := eb_i h
  cases h
  exact ⟨pNum_bd (x := b.1) (j := b.2) h1, pNum_bd (x := c.1) (j := c.2) h2⟩
theorem oArV_ok {τ P : PT} (lb : lB P) {w : Int} {i : Nat} {v : Int × Int × Nat} (h : oArV τ P w i = .inr v) : 0 ≤ v.1 ∧ v.1 < 128 ∧ 0 ≤ v.2.1 ∧ oIt P w.toNat v.1.toNat v.2.1.toNat := by
  obtain ⟨⟨w0, w8⟩, ⟨r0, r6⟩, ⟨c0, c3⟩, m0, m6⟩ := lb
  unfold oArV at h
  unfold oIt
  by_cases c1 : w = 8 ∨ w = 10 ∨ w = 16
  · rw [if_pos c1] at h
    obtain ⟨a, h1, h⟩ := eb_i h
    obtain ⟨b, h2, h⟩ := eb_i h
    obtain ⟨c, h3, h⟩ := eb_i h
    cases h
    have e1 := pNum_bd (x := a.1) (j := a.2) h1
    have e3 := pCell_bd h3
    refine ⟨by dsimp only; omega, by dsimp only; omega, by dsimp only; omega, fun _ => ⟨by dsimp only; omega, ?_⟩, fun c => by omega, fun c => by omega, fun c => by omega, fun c => by omega, fun c => by omega, fun c => by omega⟩
    unfold gIn
    dsimp only
    omega
  rw [if_neg c1] at h
  by_cases c2 : w = 9
  · rw [if_pos c2] at h
    obtain ⟨a, h1, h⟩ := eb_i h
    cases h
    have e1 := pNum_bd (x := a.1) (j := a.2) h1
    exact ⟨by dsimp only; omega, by dsimp only; omega, by dsimp only; omega, fun c => by omega, fun _ => by dsimp only; omega, fun c => by omega, fun c => by omega, fun c => by omega, fun c => by omega, fun c => by omega⟩
  rw [if_neg c2] at h
  by_cases c3 : w = 11
  · rw [if_pos c3] at h
    obtain ⟨a, h1, h⟩ := eb_i h
    obtain ⟨b, h2, h⟩ := eb_i h
    obtain ⟨c, h3, h⟩ := eb_i h
    cases h
    have e1 := pNum_bd (x := a.1) (j := a.2) h1
    have e3 := pNum_bd (x := c.1) (j := c.2) h3
    exact ⟨by dsimp only; omega, by dsimp only; omega, by dsimp only; omega, fun c => by omega, fun _ => by omega, fun c => by dsimp only; omega, fun c => by omega, fun c => by omega, fun c => by omega, fun c => by omega⟩
  rw [if_neg c3] at h
  by_cases c4 : w = 12
  · rw [if_pos c4] at h
    obtain ⟨a, h1, h⟩ := eb_i h
    obtain ⟨b, h2, h⟩ := eb_i h
    obtain ⟨c, h3, h⟩ := eb_i h
    cases h
    have e1 := pNum_bd (x := a.1) (j := a.2) h1
    have e3 := pNum_bd (x := c.1) (j := c.2) h3
    exact ⟨by dsimp only; omega, by dsimp only; omega, by dsimp only; omega, fun c => by omega, fun _ => by omega, fun c => by omega, fun c => by dsimp only; omega, fun c => by omega, fun c => by omega, fun c => by omega⟩
  rw [if_neg c4] at h
  by_cases c5 : w = 13 ∨ w = 17
  · rw [if_pos c5] at h
    obtain ⟨a, h1, h⟩ := eb_i h
    cases h
    unfold pNm at h1
    by_cases d1 : bN τ i ≠ 0
    · rw [if_pos d1] at h1
      by_cases d2 : pIx (P 4) (τ 4 i) (P 0 3).toNat 0 ≠ -1
      · rw [if_pos d2] at h1
        cases h1
        have e1 := pIx_bq d2
        exact ⟨by dsimp only; omega, by dsimp only; omega, by dsimp only; omega, fun c => by omega, fun _ => by omega, fun c => by omega, fun c => by omega, fun c => by dsimp only; omega, fun c => by omega, fun c => by omega⟩
      · rw [if_neg d2] at h1; cases h1
    · rw [if_neg d1] at h1; cases h1
  rw [if_neg c5] at h
  by_cases c6 : w = 19
  · rw [if_pos c6] at h
    obtain ⟨a, h1, h⟩ := eb_i h
    cases h
    have e1 := pNum_bd (x := a.1) (j := a.2) h1
    exact ⟨by dsimp only; omega, by dsimp only; omega, by dsimp only; omega, fun c => by omega, fun c => by omega, fun c => by omega, fun c => by omega, fun c => by omega, fun _ => by dsimp only; omega, fun c => by omega⟩
  rw [if_neg c6] at h
  by_cases c7 : w = 18
  · rw [if_pos c7] at h
    obtain ⟨a, h1, h⟩ := eb_i h
    obtain ⟨b, h2, h⟩ := eb_i h
    cases h
    have e2 := pNum_bd (x := b.1) (j := b.2) h2
    unfold pCm at h1
    by_cases d1 : τ 0 i = 3 ∧ iC (τ 3 i) ≠ 0
    · rw [if_pos d1] at h1
      cases h1
      have e1 := iC_b d1.2
      exact ⟨by dsimp only; omega, by dsimp only; omega, by dsimp only; omega, fun c => by omega, fun c => by omega, fun c => by omega, fun c => by omega, fun c => by omega, fun c => by omega, fun _ => by dsimp only; omega⟩
    · rw [if_neg d1] at h1; cases h1
  rw [if_neg c7] at h
  cases h
  exact ⟨by dsimp only; omega, by dsimp only; omega, by dsimp only; omega, fun c => by omega, fun c => by omega, fun c => by omega, fun c => by omega, fun c => by omega, fun c => by omega, fun c => by omega⟩
theorem pStep_V {τ P : PT} {s d i s' d' i' : Nat} (h : pStep τ P s d i = .inr (s', d', i')) (hE : bW τ 20 i = 0) : 0 ≤ swd τ i ∧ (τ 3 i = 15 → 0 ≤ twd τ (i + 1)) ∧ ∃ K u v j, pItV τ P i = .inr (K, u, v, j) ∧ pSg τ 59 j = .inr i' := by
  unfold pStep at h
  rw [if_neg (fun c => c hE)] at h
  by_cases c2 : swd τ i < 0
  · rw [if_pos c2] at h; cases h
  · rw [if_neg c2] at h
    by_cases c3 : 30 ≤ s
    · rw [if_pos c3] at h; cases h
    · rw [if_neg c3] at h
      by_cases c4 : opW (τ 3 i) = true ∧ 3 ≤ d
      · rw [if_pos c4] at h; cases h
      · rw [if_neg c4] at h
        obtain ⟨a, h1, h⟩ := eb_i h
        obtain ⟨b, h2, h⟩ := eb_i h
        cases h
        refine ⟨by omega, fun c5 => ?_, ?_⟩
        · rw [if_pos c5] at h1
          by_cases c6 : twd τ (i + 1) < 0
          · rw [if_pos c6] at h1; cases h1
          · omega
        · unfold pItV
          by_cases c5 : τ 3 i = 15
          · rw [if_pos c5] at h1 ⊢
            by_cases c6 : twd τ (i + 1) < 0
            · rw [if_pos c6] at h1; cases h1
            · rw [if_neg c6, oArg_V] at h1
              obtain ⟨v, e1, e2⟩ := eb_i h1
              cases e2
              exact ⟨_, v.1, v.2.1, v.2.2, by rw [e1, eb_r], h2⟩
          · rw [if_neg c5] at h1 ⊢
            rw [oArg_V] at h1
            obtain ⟨v, e1, e2⟩ := eb_i h1
            cases e2
            exact ⟨_, v.1, v.2.1, v.2.2, by rw [e1, eb_r], h2⟩
/-- the tokens from i to i1 are an item, its ';' with it -/
def oTk (τ P : PT) (i d i1 : Nat) : Prop := 0 ≤ swd τ i ∧ (τ 3 i = 15 → 0 ≤ twd τ (i + 1)) ∧ ∃ K u v j, pItV τ P i = .inr (K, u, v, j) ∧ pSg τ 59 j = .inr i1 ∧ d = oE K.toNat u.toNat v.toNat
theorem oTk_u {τ P : PT} {i d d' i1 i2 : Nat} (h : oTk τ P i d i1) (h' : oTk τ P i d' i2) : d = d' ∧ i1 = i2 := by
  obtain ⟨_, _, K, u, v, j, q1, q2, rfl⟩ := h
  obtain ⟨_, _, K', u', v', j', p1, p2, rfl⟩ := h'
  rw [q1] at p1
  cases p1
  rw [q2] at p2
  cases p2
  exact ⟨rfl, rfl⟩
def oT (τ : PT) (j : Nat) : Prop := τ 0 j = 0 ∨ bW τ 20 j ≠ 0
theorem oTk_T {τ P : PT} {i d i1 : Nat} (h : oTk τ P i d i1) (e : oT τ i) : False := by
  obtain ⟨a, b⟩ := swd_ge.mp h.1
  rcases e with e | e
  · omega
  · have := (bW_y.mp e).2
    omega
/-- what is known of an item's numbers -/
theorem oTk_k {τ P : PT} (lb : lB P) {i d i1 : Nat} {K u v : Int} {j : Nat} (h : 0 ≤ swd τ i) (h' : τ 3 i = 15 → 0 ≤ twd τ (i + 1)) (q : pItV τ P i = .inr (K, u, v, j)) : ∃ k a b : Nat, K = (k : Int) ∧ u = (a : Int) ∧ v = (b : Int) ∧ oD (oE k a b) k a b ∧ ((8 ≤ k ∧ k ≤ 14) ∨ (16 ≤ k ∧ k ≤ 19) ∨ k = 21) ∧ (opW (τ 3 i) = true ↔ 16 ≤ k ∧ k ≤ 19) ∧ oIt P k a b := by
  obtain ⟨s1, s2⟩ := swd_ge.mp h
  unfold pItV at q
  have op : opW (τ 3 i) = true ↔ (τ 3 i = 15 ∨ τ 3 i = 19) := by
    unfold opW
    exact decide_eq_true_iff
  by_cases c5 : τ 3 i = 15
  · rw [if_pos c5] at q
    obtain ⟨w, e1, e2⟩ := eb_i q
    have t := twd_ge.mp (h' c5)
    have g := oArV_ok lb e1
    cases e2
    refine ⟨(τ 3 (i + 1)).toNat, u.toNat, v.toNat, by omega, by dsimp only at g; omega, by dsimp only at g; omega, oD_E (by omega) (by dsimp only at g; omega), by omega, ?_, g.2.2.2⟩
    rw [op]
    omega
  · rw [if_neg c5] at q
    obtain ⟨w, e1, e2⟩ := eb_i q
    have g := oArV_ok lb e1
    cases e2
    refine ⟨(τ 3 i).toNat, u.toNat, v.toNat, by omega, by dsimp only at g; omega, by dsimp only at g; omega, oD_E (by omega) (by dsimp only at g; omega), by omega, ?_, g.2.2.2⟩
    rw [op]
    omega
theorem oTk_mk {τ P : PT} (lb : lB P) {s d i s' d' i' : Nat} {K u v : Int} {j : Nat} (q : pStep τ P s d i = .inr (s', d', i')) (hE : bW τ 20 i = 0) (p : pItV τ P i = .inr (K, u, v, j)) : ∃ k a b : Nat, K = (k : Int) ∧ u = (a : Int) ∧ v = (b : Int) ∧ oD (oE k a b) k a b ∧ oTk τ P i (oE k a b) i' ∧ (opW (τ 3 i) = true ↔ oB (oE k a b)) := by
  obtain ⟨h1, h2, K', u', v', j', q1, q2⟩ := pStep_V q hE
  rw [p] at q1
  cases q1
  obtain ⟨k, a, b, rfl, rfl, rfl, e4, e5, e6, e7⟩ := oTk_k (d := 0) (i1 := 0) lb h1 h2 p
  refine ⟨k, a, b, rfl, rfl, rfl, e4, ⟨h1, h2, _, _, _, _, p, q2, rfl⟩, ?_⟩
  exact e6.trans (by unfold oB; rw [e4.1])
/-- the tokens from i to j spell orders -/
def oSp (τ P : PT) : OT → Nat → Nat → Prop
  | .leaf _, i, j => i = j
  | .branch d y r, i, j => ∃ i1, oTk τ P i d i1 ∧ (if oB d then ∃ i2 i3, oSp τ P y i1 i2 ∧ bW τ 20 i2 ≠ 0 ∧ pSg τ 59 (i2 + 1) = .inr i3 ∧ oSp τ P r i3 j else y = oNil ∧ oSp τ P r i1 j)
theorem oSp_b {τ P : PT} {d i j : Nat} {y r : OT} (hB : oB d) : oSp τ P (.branch d y r) i j = (∃ i1, oTk τ P i d i1 ∧ ∃ i2 i3, oSp τ P y i1 i2 ∧ bW τ 20 i2 ≠ 0 ∧ pSg τ 59 (i2 + 1) = .inr i3 ∧ oSp τ P r i3 j) := by
  simp only [oSp, if_pos hB]
theorem oSp_a {τ P : PT} {d i j : Nat} {y r : OT} (hB : ¬ oB d) : oSp τ P (.branch d y r) i j = (∃ i1, oTk τ P i d i1 ∧ y = oNil ∧ oSp τ P r i1 j) := by
  simp only [oSp, if_neg hB]
theorem oSp_u {τ P : PT} : ∀ (t t' : OT) {i j j' : Nat}, oSp τ P t i j → oSp τ P t' i j' → oT τ j → oT τ j' → t = t' ∧ j = j'
  | .leaf _, .leaf _, i, j, j', h, h', _, _ => by
    have h : i = j := h
    have h' : i = j' := h'
    exact ⟨rfl, h.symm.trans h'⟩
  | .leaf _, .branch d y r, i, j, j', h, h', e, e' => by
    obtain ⟨i1, k, _⟩ := h'
    have h : i = j := h
    subst h
    exact (oTk_T k e).elim
  | .branch d y r, .leaf _, i, j, j', h, h', e, e' => by
    obtain ⟨i1, k, _⟩ := h
    have h' : i = j' := h'
    subst h'
    exact (oTk_T k e').elim
  | .branch d y r, .branch d' y' r', i, j, j', h, h', e, e' => by
    obtain ⟨i1, k, h⟩ := h
    obtain ⟨i1', k', h'⟩ := h'
    obtain ⟨rfl, rfl⟩ := oTk_u k k'
    by_cases hB : oB d
    · rw [if_pos hB] at h h'
      obtain ⟨i2, i3, g1, g2, g3, g4⟩ := h
      obtain ⟨i2', i3', g1', g2', g3', g4'⟩ := h'
      obtain ⟨rfl, rfl⟩ := oSp_u y y' g1 g1' (Or.inr g2) (Or.inr g2')
      rw [g3] at g3'
      cases g3'
      obtain ⟨rfl, rfl⟩ := oSp_u r r' g4 g4' e e'
      exact ⟨rfl, rfl⟩
    · rw [if_neg hB] at h h'
      obtain ⟨rfl, h⟩ := h
      obtain ⟨rfl, h'⟩ := h'
      obtain ⟨rfl, rfl⟩ := oSp_u r r' h h' e e'
      exact ⟨rfl, rfl⟩
theorem oSp_ok {τ P : PT} (lb : lB P) : ∀ (t : OT) {i j : Nat}, oSp τ P t i j → oOk P t
  | .leaf _, _, _, _ => trivial
  | .branch d y r, i, j, h => by
    obtain ⟨i1, k, h⟩ := h
    obtain ⟨k1, k2, K, u, v, j0, q1, q2, ed⟩ := k
    obtain ⟨k, a, b, rfl, rfl, rfl, e4, e5, e6, e7⟩ := oTk_k (d := 0) (i1 := 0) lb k1 k2 q1
    have ed : d = oE k a b := ed
    subst ed
    by_cases hB : oB (oE k a b)
    · rw [if_pos hB] at h
      obtain ⟨i2, i3, g1, g2, g3, g4⟩ := h
      rw [oOk_b hB e4]
      exact ⟨e7, oSp_ok lb y g1, oSp_ok lb r g4⟩
    · rw [if_neg hB] at h
      rw [oOk_a hB e4]
      refine ⟨?_, e7, oSp_ok lb r h.2⟩
      have n : ¬ (16 ≤ k ∧ k ≤ 19) := fun c => hB (by unfold oB; rw [e4.1]; exact c)
      omega
/-! one behind the other -/
theorem tN_A : ∀ (t u : OT), tN (tA t u) = tN t + tN u
  | .leaf _, u => (Nat.zero_add _).symm
  | .branch d y r, u => by
    show tN (.branch d y (tA r u)) = _
    by_cases hB : oB d
    · rw [tN_b hB, tN_b hB, tN_A r u]; omega
    · rw [tN_a hB, tN_a hB, tN_A r u]; omega
theorem tS_A : ∀ (t u : OT), tS (tA t u) = tS t + tS u
  | .leaf _, u => (Nat.zero_add _).symm
  | .branch d y r, u => by
    show tS (.branch d y (tA r u)) = _
    by_cases hB : oB d
    · rw [tS_b hB, tS_b hB, tS_A r u]; omega
    · rw [tS_a hB, tS_a hB, tS_A r u]; omega
theorem cLay_A {c : Nat} {h : zH} : ∀ (t u : OT) {p : Nat}, cLay c h t p → cLay c h u (p + tN t) → cLay c h (tA t u) p
  | .leaf _, u, p, _, g => g
  | .branch d y r, u, p, f, g => by
    show cLay c h (.branch d y (tA r u)) p
    by_cases hB : oB d
    · rw [cLay_b hB ⟨rfl, rfl, rfl⟩] at f ⊢
      rw [tN_b hB, show p + (tN y + tN r + 2) = p + tN y + 2 + tN r from by omega] at g
      exact ⟨f.1, f.2.1, f.2.2.1, cLay_A r u f.2.2.2 g⟩
    · rw [cLay_a hB ⟨rfl, rfl, rfl⟩] at f ⊢
      rw [tN_a hB, show p + (tN r + 1) = p + 1 + tN r from by omega] at g
      exact ⟨f.1, cLay_A r u f.2 g⟩
theorem rLay_A {o w : Nat} {h : zH} : ∀ (t u : OT) {s : Nat}, rLay o w h t s → rLay o w h u (s + tS t) → rLay o w h (tA t u) s
  | .leaf _, u, s, _, g => g
  | .branch d y r, u, s, f, g => by
    show rLay o w h (.branch d y (tA r u)) s
    by_cases hB : oB d
    · rw [rLay_b hB ⟨rfl, rfl, rfl⟩] at f ⊢
      rw [tS_b hB, show s + (tS y + tS r + 1) = s + 1 + tS y + tS r from by omega] at g
      exact ⟨f.1, f.2.1, f.2.2.1, rLay_A r u f.2.2.2 g⟩
    · rw [rLay_a hB ⟨rfl, rfl, rfl⟩] at f ⊢
      rw [tS_a hB, show s + (tS r + 1) = s + 1 + tS r from by omega] at g
      exact ⟨f.1, f.2.1, rLay_A r u f.2.2 g⟩
theorem oSp_A {τ P : PT} : ∀ (t u : OT) {i j l : Nat}, oSp τ P t i j → oSp τ P u j l → oSp τ P (tA t u) i l
  | .leaf _, u, i, j, l, f, g => by
    have f : i = j := f
    subst f
    exact g
  | .branch d y r, u, i, j, l, f, g => by
    show oSp τ P (.branch d y (tA r u)) i l
    by_cases hB : oB d
    · rw [oSp_b hB] at f ⊢
      obtain ⟨i1, k, i2, i3, g1, g2, g3, g4⟩ := f
      exact ⟨i1, k, i2, i3, g1, g2, g3, oSp_A r u g4 g⟩
    · rw [oSp_a hB] at f ⊢
      obtain ⟨i1, k, e, g1⟩ := f
      exact ⟨i1, k, e, oSp_A r u g1 g⟩
theorem cLay.fr {c : Nat} {h h' : zH} : ∀ (t : OT) {p : Nat}, cLay c h t p → (∀ j k, 11 ≤ j → j ≤ 14 → p ≤ k → k < p + tN t → h' (c + j) k = h (c + j) k) → cLay c h' t p
  | .leaf _, _, _, _ => trivial
  | .branch d y r, p, g, f => by
    by_cases hB : oB d
    · rw [tN_b hB] at f
      rw [cLay_b hB ⟨rfl, rfl, rfl⟩] at g ⊢
      obtain ⟨⟨g1, g2, g3⟩, ⟨g4, g5, g6⟩, g7, g8⟩ := g
      exact ⟨⟨(f 11 p (by omega) (by omega) (by omega) (by omega)).trans g1, (f 12 p (by omega) (by omega) (by omega) (by omega)).trans g2, (f 13 p (by omega) (by omega) (by omega) (by omega)).trans g3⟩, ⟨(f 14 p (by omega) (by omega) (by omega) (by omega)).trans g4, (f 11 _ (by omega) (by omega) (by omega) (by omega)).trans g5, (f 14 _ (by omega) (by omega) (by omega) (by omega)).trans g6⟩, cLay.fr y g7 (fun j k h1 h2 h3 h4 => f j k h1 h2 (by omega) (by omega)), cLay.fr r g8 (fun j k h1 h2 h3 h4 => f j k h1 h2 (by omega) (by omega))⟩
    · rw [tN_a hB] at f
      rw [cLay_a hB ⟨rfl, rfl, rfl⟩] at g ⊢
      obtain ⟨⟨g1, g2, g3⟩, g4⟩ := g
      exact ⟨⟨(f 11 p (by omega) (by omega) (by omega) (by omega)).trans g1, (f 12 p (by omega) (by omega) (by omega) (by omega)).trans g2, (f 13 p (by omega) (by omega) (by omega) (by omega)).trans g3⟩, cLay.fr r g4 (fun j k h1 h2 h3 h4 => f j k h1 h2 (by omega) (by omega))⟩
theorem rIt.fr {o w : Nat} {h h' : zH} {k a b s : Nat} (g : rIt o w h k a b s) (e : ∀ j, o + 277 + 9 * s ≤ j → j < o + 286 + 9 * s → h' 126 j = h 126 j) : rIt o w h' k a b s := by
  obtain ⟨g1, g2, g3, g4, g5, g6⟩ := g
  exact ⟨(e _ (by omega) (by omega)).trans g1, fun c => (e _ (by omega) (by omega)).trans (g2 c), fun c => (e _ (by omega) (by omega)).trans (g3 c), fun c => (e _ (by omega) (by omega)).trans (g4 c), fun c => (e _ (by omega) (by omega)).trans (g5 c), fun c => (e _ (by omega) (by omega)).trans (g6 c)⟩
theorem rIt.fr8 {o w : Nat} {h h' : zH} {k a b s : Nat} (g : rIt o w h k a b s) (e : ∀ j, o + 277 + 9 * s ≤ j → j < o + 285 + 9 * s → h' 126 j = h 126 j) : rIt o w h' k a b s := by
  obtain ⟨g1, g2, g3, g4, g5, g6⟩ := g
  exact ⟨(e _ (by omega) (by omega)).trans g1, fun c => (e _ (by omega) (by omega)).trans (g2 c), fun c => (e _ (by omega) (by omega)).trans (g3 c), fun c => (e _ (by omega) (by omega)).trans (g4 c), fun c => (e _ (by omega) (by omega)).trans (g5 c), fun c => (e _ (by omega) (by omega)).trans (g6 c)⟩
theorem rLay.fr {o w : Nat} {h h' : zH} : ∀ (t : OT) {s : Nat}, rLay o w h t s → (∀ e, o + 277 + 9 * s ≤ e → e < o + 277 + 9 * (s + tS t) → h' 126 e = h 126 e) → rLay o w h' t s
  | .leaf _, _, _, _ => trivial
  | .branch d y r, s, g, f => by
    by_cases hB : oB d
    · rw [tS_b hB] at f
      rw [rLay_b hB ⟨rfl, rfl, rfl⟩] at g ⊢
      obtain ⟨g1, g2, g3, g4⟩ := g
      exact ⟨g1.fr (fun e h1 h2 => f e (by omega) (by omega)), (f _ (by omega) (by omega)).trans g2, rLay.fr y g3 (fun e h1 h2 => f e (by omega) (by omega)), rLay.fr r g4 (fun e h1 h2 => f e (by omega) (by omega))⟩
    · rw [tS_a hB] at f
      rw [rLay_a hB ⟨rfl, rfl, rfl⟩] at g ⊢
      obtain ⟨g1, g2, g3⟩ := g
      exact ⟨g1.fr (fun e h1 h2 => f e (by omega) (by omega)), (f _ (by omega) (by omega)).trans g2, rLay.fr r g3 (fun e h1 h2 => f e (by omega) (by omega))⟩
/-! the class's rows: what is open, innermost first -/
theorem j4 {j : Nat} (h1 : 11 ≤ j) (h2 : j ≤ 14) : 8 + j = 19 ∨ 8 + j = 20 ∨ 8 + j = 21 ∨ 8 + j = 22 := by omega
theorem oW4.ne {h g : zH} {z K u v : Int} (w : oW4 h g z K u v) {j k : Nat} (hj : j = 19 ∨ j = 20 ∨ j = 21 ∨ j = 22) (hk : k ≠ z.toNat) : g j k = h j k := by
  obtain ⟨w1, w2, w3, w4⟩ := w
  rcases hj with rfl | rfl | rfl | rfl
  · exact (w1 k).trans (zset_ne (fun c => hk c.2))
  · exact (w2 k).trans (zset_ne (fun c => hk c.2))
  · exact (w3 k).trans (zset_ne (fun c => hk c.2))
  · exact (w4 k).trans (zset_ne (fun c => hk c.2))
theorem oE4.ne {h g : zH} {z f : Int} (w : oE4 h g z f) {j k : Nat} (hj : j = 19 ∨ j = 20 ∨ j = 21 ∨ j = 22) (hk : k ≠ z.toNat) (hf : j = 22 → k ≠ f.toNat) : g j k = h j k := by
  obtain ⟨w1, w2, w3, w4⟩ := w
  rcases hj with rfl | rfl | rfl | rfl
  · exact (w1 k).trans (zset_ne (fun c => hk c.2))
  · exact (w2 k).trans (zset_ne (fun c => hk c.2))
  · exact (w3 k).trans (zset_ne (fun c => hk c.2))
  · exact (w4 k).trans ((zset_ne (fun c => hf rfl c.2)).trans ((zset_ne (fun c => hk c.2)).trans (zset_ne (fun c => hk c.2))))
abbrev oZ := List (OT × Nat)
def zN : oZ → Nat
  | [] => 0
  | z :: Z => zN Z + tN z.1 + 1
def zSs : oZ → Nat
  | [] => 0
  | z :: Z => zSs Z + tS z.1 + 1
def zSp (τ P : PT) : oZ → Nat → Prop
  | [], i => i = 0
  | z :: Z, i => ∃ i0 i1, zSp τ P Z i0 ∧ oSp τ P z.1 i0 i1 ∧ oTk τ P i1 z.2 i ∧ oB z.2
def zLay (h : zH) : oZ → Prop
  | [] => True
  | z :: Z => cLay 8 h z.1 (zN Z) ∧ cWd 8 h (z.2 % 32) (z.2 / 32 % 128) (z.2 / 4096) (zN Z + tN z.1) ∧ (h 23 Z.length).2 = ((zN Z + tN z.1 : Nat) : Int) ∧ zLay h Z
theorem zLay.fr {h h' : zH} : ∀ (Z : oZ), zLay h Z → (∀ j k, 11 ≤ j → j ≤ 14 → k < zN Z → h' (8 + j) k = h (8 + j) k) → (∀ e, e < Z.length → h' 23 e = h 23 e) → zLay h' Z
  | [], _, _, _ => trivial
  | z :: Z, g, f, f3 => by
    obtain ⟨g1, ⟨g2, g3, g4⟩, g5, g6⟩ := g
    have e : zN (z :: Z) = zN Z + tN z.1 + 1 := rfl
    have l : (z :: Z).length = Z.length + 1 := rfl
    rw [e] at f
    rw [l] at f3
    exact ⟨cLay.fr z.1 g1 (fun j k h1 h2 h3 h4 => f j k h1 h2 (by omega)), ⟨(f 11 _ (by omega) (by omega) (by omega)).trans g2, (f 12 _ (by omega) (by omega) (by omega)).trans g3, (f 13 _ (by omega) (by omega) (by omega)).trans g4⟩, (congrArg Prod.snd (f3 _ (by omega))).trans g5, zLay.fr Z g6 (fun j k h1 h2 h3 => f j k h1 h2 (by omega)) (fun e he => f3 e (by omega))⟩
def cZs (τ P : PT) (h : zH) (s d i : Nat) (z : Int) : Prop := ∃ (Z : oZ) (t : OT) (ib : Nat), zSp τ P Z ib ∧ oSp τ P t ib i ∧ zLay h Z ∧ cLay 8 h t (zN Z) ∧ z = ((zN Z + tN t : Nat) : Int) ∧ s = zSs Z + tS t ∧ d = Z.length
theorem cZs_0 {τ P : PT} {h : zH} : cZs τ P h 0 0 0 0 := ⟨[], oNil, 0, rfl, rfl, trivial, trivial, rfl, rfl, rfl⟩
theorem oW4.wd {h g : zH} {z : Int} {k a b p : Nat} (w : oW4 h g z (k : Int) (a : Int) (b : Int)) (hp : z.toNat = p) : cWd 8 g k a b p := by
  subst hp
  obtain ⟨w1, w2, w3, _⟩ := w
  exact ⟨(w1 _).trans zset_same, (w2 _).trans zset_same, (w3 _).trans zset_same⟩
theorem cZs_st {τ P : PT} {h g : zH} {s d i s' d' i' : Nat} {z z' K u v : Int} {j : Nat} (lb : lB P) (hZ : cZs τ P h s d i z) (hE : bW τ 20 i = 0) (q : pStep τ P s d i = .inr (s', d', i')) (p : pItV τ P i = .inr (K, u, v, j)) (w : oW4 h g z K u v) (hz : z' = z + 1) (r : ∀ e, g 23 e = h 23 e) (hop : opW (τ 3 i) = false) : cZs τ P g s' d' i' z' := by
  obtain ⟨k, a, b, rfl, rfl, rfl, e4, e5, e6⟩ := oTk_mk lb q hE p
  obtain ⟨p1, p2, p3, p4⟩ := pStep_d q hE
  have p4 := p4 hop
  obtain ⟨Z, t, ib, z1, z2, z3, z4, z5, z6, z7⟩ := hZ
  have hB : ¬ oB (oE k a b) := fun c => by
    rw [← e6, hop] at c
    cases c
  subst z5 hz
  have ne : ∀ j k, 11 ≤ j → j ≤ 14 → k < zN Z + tN t → g (8 + j) k = h (8 + j) k := fun j k h1 h2 h3 => w.ne (j4 h1 h2) (by omega)
  refine ⟨Z, tA t (.branch (oE k a b) oNil oNil), ib, z1, oSp_A t _ z2 ?_, zLay.fr Z z3 (fun j k h1 h2 h3 => ne j k h1 h2 (by omega)) (fun e _ => r e), cLay_A t _ (cLay.fr t z4 (fun j k h1 h2 h3 h4 => ne j k h1 h2 (by omega))) ?_, ?_, ?_, by omega⟩
  · rw [oSp_a hB]
    exact ⟨i', e5, rfl, rfl⟩
  · rw [cLay_a hB e4]
    exact ⟨w.wd (by omega), trivial⟩
  · rw [tN_A, tN_a hB]
    show _ = ((zN Z + (tN t + (0 + 1)) : Nat) : Int)
    omega
  · rw [tS_A, tS_a hB]
    show _ = zSs Z + (tS t + (0 + 1))
    omega
theorem cZs_op {τ P : PT} {h g : zH} {s d i s' d' i' : Nat} {z z' K u v : Int} {j : Nat} (lb : lB P) (hZ : cZs τ P h s d i z) (hE : bW τ 20 i = 0) (q : pStep τ P s d i = .inr (s', d', i')) (p : pItV τ P i = .inr (K, u, v, j)) (w : oW4 h g z K u v) (hz : z' = z + 1) (r : ∀ e, g 23 e = zset h 23 ((d : Int)).toNat (0, z) 23 e) (hop : opW (τ 3 i) = true) : cZs τ P g s' d' i' z' := by
  obtain ⟨k, a, b, rfl, rfl, rfl, e4, e5, e6⟩ := oTk_mk lb q hE p
  obtain ⟨p1, p2, p3, p4⟩ := pStep_d q hE
  have p3 := (p3 hop).1
  obtain ⟨Z, t, ib, z1, z2, z3, z4, z5, z6, z7⟩ := hZ
  have hB : oB (oE k a b) := e6.mp hop
  subst z5 hz
  have ne : ∀ j k, 11 ≤ j → j ≤ 14 → k < zN Z + tN t → g (8 + j) k = h (8 + j) k := fun j k h1 h2 h3 => w.ne (j4 h1 h2) (by omega)
  have l : ((t, oE k a b) :: Z).length = Z.length + 1 := rfl
  have n : zN ((t, oE k a b) :: Z) = zN Z + tN t + 1 := rfl
  have sn : zSs ((t, oE k a b) :: Z) = zSs Z + tS t + 1 := rfl
  refine ⟨(t, oE k a b) :: Z, oNil, i', ⟨ib, i, z1, z2, e5, hB⟩, rfl, ⟨cLay.fr t z4 (fun j k h1 h2 h3 h4 => ne j k h1 h2 (by omega)), ?_, ?_, zLay.fr Z z3 (fun j k h1 h2 h3 => ne j k h1 h2 (by omega)) (fun e he => (r e).trans (zset_ne (fun c => by omega)))⟩, trivial, ?_, ?_, ?_⟩
  · obtain ⟨d1, d2, d3⟩ := e4
    show cWd 8 g (oE k a b % 32) (oE k a b / 32 % 128) (oE k a b / 4096) (zN Z + tN t)
    rw [d1, d2, d3]
    exact w.wd (by omega)
  · rw [r, zset_e (by omega)]
  · rw [n]
    show _ = ((zN Z + tN t + 1 + 0 : Nat) : Int)
    omega
  · rw [sn]
    show _ = zSs Z + tS t + 1 + 0
    omega
  · omega
theorem cZs_en {τ P : PT} {h g : zH} {s d i s' d' i' : Nat} {z z' f : Int} (hZ : cZs τ P h s d i z) (hE : bW τ 20 i ≠ 0) (q : pStep τ P s d i = .inr (s', d', i')) (hf : f = (h 23 (((d : Int) - 1)).toNat).2) (w : oE4 h g z f) (hz : z' = z + 1) (r : ∀ e, g 23 e = h 23 e) : cZs τ P g s' d' i' z' := by
  unfold pStep at q
  rw [if_pos hE] at q
  by_cases hd : d = 0
  · rw [if_pos hd] at q; cases q
  rw [if_neg hd] at q
  obtain ⟨j, q1, q2⟩ := eb_i q
  cases q2
  obtain ⟨Z, t, ib, z1, z2, z3, z4, z5, z6, z7⟩ := hZ
  cases Z with
  | nil => exact absurd z7 hd
  | cons y Z =>
    obtain ⟨ty, dy⟩ := y
    obtain ⟨i0, i1, y1, y2, y3, hB⟩ := z1
    obtain ⟨g1, g2, g3, g4⟩ := z3
    have l : ((ty, dy) :: Z).length = Z.length + 1 := rfl
    have n : zN ((ty, dy) :: Z) = zN Z + tN ty + 1 := rfl
    have sn : zSs ((ty, dy) :: Z) = zSs Z + tS ty + 1 := rfl
    rw [l] at z7
    rw [n] at z4 z5
    rw [sn] at z6
    have g1 : cLay 8 h ty (zN Z) := g1
    have g2 : cWd 8 h (dy % 32) (dy / 32 % 128) (dy / 4096) (zN Z + tN ty) := g2
    have g3 : (h 23 Z.length).2 = ((zN Z + tN ty : Nat) : Int) := g3
    rw [show (((d : Int) - 1)).toNat = Z.length from by omega, g3] at hf
    subst z5 hz hf
    have ne : ∀ j k, 11 ≤ j → j ≤ 14 → k < zN Z + tN ty + 1 + tN t → (j = 14 → k ≠ zN Z + tN ty) → g (8 + j) k = h (8 + j) k := fun j k h1 h2 h3 h4 => w.ne (j4 h1 h2) (by omega) (fun c e => h4 (by omega) (by omega))
    refine ⟨Z, tA ty (.branch dy t oNil), i0, y1, oSp_A ty _ y2 ?_, zLay.fr Z g4 (fun j k h1 h2 h3 => ne j k h1 h2 (by omega) (fun _ => by omega)) (fun e _ => r e), cLay_A ty _ (cLay.fr ty g1 (fun j k h1 h2 h3 h4 => ne j k h1 h2 (by omega) (fun _ => by omega))) ?_, ?_, ?_, ?_⟩
    · rw [oSp_b hB]
      exact ⟨ib, y3, i, i', z2, hE, q1, rfl⟩
    · rw [cLay_b hB ⟨rfl, rfl, rfl⟩]
      obtain ⟨a1, a2, a3⟩ := g2
      obtain ⟨w1, w2, w3, w4⟩ := w
      have w0 : oE4 h g ((zN Z + tN ty + 1 + tN t : Nat) : Int) ((zN Z + tN ty : Nat) : Int) := ⟨w1, w2, w3, w4⟩
      refine ⟨⟨(ne 11 _ (by omega) (by omega) (by omega) (fun c => by omega)).trans a1, (ne 12 _ (by omega) (by omega) (by omega) (fun c => by omega)).trans a2, (ne 13 _ (by omega) (by omega) (by omega) (fun c => by omega)).trans a3⟩, ⟨(w4 _).trans ((zset_e (by omega)).trans (congrArg (Prod.mk 0) (by omega))), (w1 _).trans (zset_e (by omega)), (w4 _).trans ((zset_ne (fun c => by omega)).trans (zset_e (by omega)))⟩, cLay.fr t z4 (fun j k h1 h2 h3 h4 => ne j k h1 h2 (by omega) (fun _ => by omega)), trivial⟩
    · rw [tN_A, tN_b hB]
      show _ = ((zN Z + (tN ty + (tN t + 0 + 2)) : Nat) : Int)
      omega
    · rw [tS_A, tS_b hB]
      show _ = zSs Z + (tS ty + (tS t + 0 + 1))
      omega
    · omega
end
section
/-! what the class's reader of ORDERS comes to, with what it read -/
def cOx7 (B : Nat → Int) (n : Nat) (P : PT) (h0 : zH) (x : zR) : Prop := ∃ m τ, Tks B n m τ ∧ ((∃ e, x.2 = some (0, 0) ∧ cB e x.1) ∨ (∃ (t : OT) (i : Nat), oSp τ P t 0 i ∧ τ 0 i = 0 ∧ x.2 = some (0, 1) ∧ cLay 8 x.1 t 0 ∧ x.1 18 1 = (0, ((tS t : Nat) : Int)) ∧ x.1 18 0 = (0, ((tN t : Nat) : Int)) ∧ tS t ≤ 30 ∧ tN t ≤ 60 ∧ x.1 10 7 = (0, 0) ∧ x.1 10 8 = (0, -1))) ∧ oXr h0 x.1
theorem cOx7_k {D : zD} {T : zT} {N mi pc : Nat} {l : List (Option zV)} {S : List zV} {Q : zR → Prop} {B : Nat → Int} {n : Nat} {P : PT} {h : zH} (H : vP D T N mi pc h l S (cOx7 B n P h)) (k1 : ∀ g m τ t i, oXr h g → Tks B n m τ → oSp τ P t 0 i → τ 0 i = 0 → cLay 8 g t 0 → g 18 1 = (0, ((tS t : Nat) : Int)) → g 18 0 = (0, ((tN t : Nat) : Int)) → tS t ≤ 30 → tN t ≤ 60 → g 10 7 = (0, 0) → g 10 8 = (0, -1) → Q (g, some (0, 1))) (k2 : ∀ g m τ e, oXr h g → Tks B n m τ → cB e g → Q (g, some (0, 0))) : vP D T N mi pc h l S Q := vP_Q (fun x hx => by
  obtain ⟨g, v⟩ := x
  obtain ⟨m, τ, hK, h1, hf⟩ := hx
  rcases h1 with ⟨e, h2, h3⟩ | ⟨t, i, h1, h2, h3, h4, h5, h6, h7, h8, h9, h10⟩
  · have h2 : v = some (0, 0) := h2
    subst h2
    exact k2 g m τ e hf hK h3
  · have h3 : v = some (0, 1) := h3
    subst h3
    exact k1 g m τ t i hf hK h1 h2 h4 h5 h6 h7 h8 h9 h10) H
def cOd7 (r : Nat) (B : Nat → Int) (n : Nat) (P : PT) (h0 : zH) (x : zR) : Prop := ∃ m τ, Tks B n m τ ∧ ((x.2 = some (0, -1) ∧ ∀ a j, r + 10 ≤ a → a ≤ r + 14 → x.1 a j = h0 a j) ∨ (∃ (t : OT) (i : Nat), oSp τ P t 0 i ∧ τ 0 i = 0 ∧ x.2 = some (0, ((tS t : Nat) : Int)) ∧ tS t ≤ 30 ∧ tN t ≤ 60 ∧ x.1 (r + 10) 0 = (0, ((tN t : Nat) : Int)) ∧ x.1 (r + 10) 1 = (0, ((tS t : Nat) : Int)) ∧ cLay r x.1 t 0))
theorem co7_turn_24 {D : zD} {T : zT} (hT : hTab T) (hO : vOK T) {N : Nat} {h : zH} {Q : zR → Prop} {B : Nat → Int} {n m i s d : Nat} {τ P : PT} (w x z : Int) (o : Option zV) (hX : cX B n m τ i h) (hK : Tks B n m τ) (hP : cP 24 P h) (hb : (0 ≤ P 0 0 ∧ P 0 0 ≤ 8) ∧ (0 ≤ P 0 1 ∧ P 0 1 ≤ 6) ∧ (0 ≤ P 0 2 ∧ P 0 2 ≤ 3) ∧ (0 ≤ P 0 3 ∧ P 0 3 ≤ 6)) (hl : h 17 2 = (2, 24)) (hs : h 18 1 = (0, (s : Int))) (hd : h 17 4 = (0, (d : Int))) (hz : h 18 0 = (0, z)) (bs : s ≤ 30) (bd : d ≤ 3) (bz : 0 ≤ z) (bzd : z + d ≤ 2 * s) (ho : ∀ e : Nat, e < d → 0 ≤ (h 23 e).2 ∧ (h 23 e).2 < z) (hx : 0 ≤ x ∧ x < 900) (h0 : τ 0 i ≠ 0) (hZ : cZs τ P h s d i z) (ih : ∀ g s' d' i' a b z' o', pStep τ P s d i = .inr (s', d', i') → cX B n m τ i' g → cP 24 P g → g 17 2 = (2, 24) → g 18 1 = (0, a) → a = (s' : Int) → g 17 4 = (0, b) → b = (d' : Int) → g 18 0 = (0, z') → s' ≤ 30 ∧ d' ≤ 3 ∧ 0 ≤ z' ∧ z' + d' ≤ 2 * s' → (∀ e : Nat, e < d' → 0 ≤ (g 23 e).2 ∧ (g 23 e).2 < z') → oFr h g → cZs τ P g s' d' i' z' → vP D T N 88 27 g [some (2, 17), some (2, 24), some (0, w), some (0, (x + 1)), o'] [] Q) (er : ∀ g e, pStep τ P s d i = .inl e → cB e g → oFr h g → Q (g, some (0, 0))) : vP D T (N + 1) 88 27 h [some (2, 17), some (2, 24), some (0, w), some (0, x), o] [] Q := by
  refine vP_hv (fun hv => ?_)
  have tb := bKp_bd hK hX.im.1
  by_cases hE : bW τ 20 i ≠ 0
  · exact co7_20_24 hT hO w x z o hv hX hK hP hb hl hs hd hz bs bd bz bzd ho hx h0 hE (fun g s' d' i' a b z' o' f q x1 x2 x3 x4 x5 x6 x7 x8 x9 x10 x11 e7 p w_ r => ih g s' d' i' a b z' o' q x1 x2 x3 x4 x5 x6 x7 x8 x9 x10 x11 (cZs_en hZ hE q p w_ e7 r)) er
  · have hE : bW τ 20 i = 0 := Classical.byContradiction hE
    by_cases hsw : swd τ i < 0
    · refine co_x_24 hT hO w x z o hv hX hK hP hb hl hs hd hz bs bd bz bzd ho hx h0 hE hsw ?_ (fun g s' d' i' a b z' o' q => absurd q ?_) er
      · have := swd_lt.mp hsw
        unfold bHw
        by_cases c : τ 0 i = 1
        · rw [if_pos c]; omega
        · rw [if_neg c]; omega
      · unfold pStep
        rw [if_neg (fun c => c hE), if_pos hsw]
        intro c
        cases c
    · have hge := swd_ge.mp (show 0 ≤ swd τ i by omega)
      obtain ⟨h1, h3⟩ := hge
      have hk : τ 3 i = 8 ∨ τ 3 i = 9 ∨ τ 3 i = 10 ∨ τ 3 i = 11 ∨ τ 3 i = 12 ∨ τ 3 i = 13 ∨ τ 3 i = 14 ∨ τ 3 i = 15 ∨ τ 3 i = 19 ∨ τ 3 i = 21 := by omega
      rcases hk with h3 | h3 | h3 | h3 | h3 | h3 | h3 | h3 | h3 | h3
      · exact co7_8_24 hT hO w x z o hv hX hK hP hb hl hs hd hz bs bd bz bzd ho hx h0 h1 h3 (fun g s' d' i' a b z' o' K u v j q x1 x2 x3 x4 x5 x6 x7 x8 x9 x10 x11 e7 p w_ r => ih g s' d' i' a b z' o' q x1 x2 x3 x4 x5 x6 x7 x8 x9 x10 x11 (cZs_st hb hZ hE q p w_ e7 r (by rw [h3]; rfl))) er
      · exact co7_9_24 hT hO w x z o hv hX hK hP hb hl hs hd hz bs bd bz bzd ho hx h0 h1 h3 (fun g s' d' i' a b z' o' K u v j q x1 x2 x3 x4 x5 x6 x7 x8 x9 x10 x11 e7 p w_ r => ih g s' d' i' a b z' o' q x1 x2 x3 x4 x5 x6 x7 x8 x9 x10 x11 (cZs_st hb hZ hE q p w_ e7 r (by rw [h3]; rfl))) er
      · exact co7_10_24 hT hO w x z o hv hX hK hP hb hl hs hd hz bs bd bz bzd ho hx h0 h1 h3 (fun g s' d' i' a b z' o' K u v j q x1 x2 x3 x4 x5 x6 x7 x8 x9 x10 x11 e7 p w_ r => ih g s' d' i' a b z' o' q x1 x2 x3 x4 x5 x6 x7 x8 x9 x10 x11 (cZs_st hb hZ hE q p w_ e7 r (by rw [h3]; rfl))) er
      · exact co7_11_24 hT hO w x z o hv hX hK hP hb hl hs hd hz bs bd bz bzd ho hx h0 h1 h3 (fun g s' d' i' a b z' o' K u v j q x1 x2 x3 x4 x5 x6 x7 x8 x9 x10 x11 e7 p w_ r => ih g s' d' i' a b z' o' q x1 x2 x3 x4 x5 x6 x7 x8 x9 x10 x11 (cZs_st hb hZ hE q p w_ e7 r (by rw [h3]; rfl))) er
      · exact co7_12_24 hT hO w x z o hv hX hK hP hb hl hs hd hz bs bd bz bzd ho hx h0 h1 h3 (fun g s' d' i' a b z' o' K u v j q x1 x2 x3 x4 x5 x6 x7 x8 x9 x10 x11 e7 p w_ r => ih g s' d' i' a b z' o' q x1 x2 x3 x4 x5 x6 x7 x8 x9 x10 x11 (cZs_st hb hZ hE q p w_ e7 r (by rw [h3]; rfl))) er
      · exact co7_13_24 hT hO w x z o hv hX hK hP hb hl hs hd hz bs bd bz bzd ho hx h0 h1 h3 (fun g s' d' i' a b z' o' K u v j q x1 x2 x3 x4 x5 x6 x7 x8 x9 x10 x11 e7 p w_ r => ih g s' d' i' a b z' o' q x1 x2 x3 x4 x5 x6 x7 x8 x9 x10 x11 (cZs_st hb hZ hE q p w_ e7 r (by rw [h3]; rfl))) er
      · exact co7_14_24 hT hO w x z o hv hX hK hP hb hl hs hd hz bs bd bz bzd ho hx h0 h1 h3 (fun g s' d' i' a b z' o' K u v j q x1 x2 x3 x4 x5 x6 x7 x8 x9 x10 x11 e7 p w_ r => ih g s' d' i' a b z' o' q x1 x2 x3 x4 x5 x6 x7 x8 x9 x10 x11 (cZs_st hb hZ hE q p w_ e7 r (by rw [h3]; rfl))) er
      · by_cases htw : twd τ (i + 1) < 0
        · refine co_15x_24 hT hO w x z o hv hX hK hP hb hl hs hd hz bs bd bz bzd ho hx h0 h1 h3 htw ?_ (fun g s' d' i' a b z' o' q => absurd ((pStep_V q hE).2.1 h3) (by omega)) er
          have := twd_lt.mp htw
          unfold bHw
          by_cases c : τ 0 (i + 1) = 1
          · rw [if_pos c]; omega
          · rw [if_neg c]; omega
        · have hte := twd_ge.mp (show 0 ≤ twd τ (i + 1) by omega)
          obtain ⟨h1b, h3b⟩ := hte
          have hk : τ 3 (i + 1) = 16 ∨ τ 3 (i + 1) = 17 ∨ τ 3 (i + 1) = 18 := by omega
          rcases hk with h3b | h3b | h3b
          · exact co7_15_16_24 hT hO w x z o hv hX hK hP hb hl hs hd hz bs bd bz bzd ho hx h0 h1 h3 h1b h3b (fun g s' d' i' a b z' o' K u v j q x1 x2 x3 x4 x5 x6 x7 x8 x9 x10 x11 e7 p w_ r => ih g s' d' i' a b z' o' q x1 x2 x3 x4 x5 x6 x7 x8 x9 x10 x11 (cZs_op hb hZ hE q p w_ e7 r (by rw [h3]; rfl))) er
          · exact co7_15_17_24 hT hO w x z o hv hX hK hP hb hl hs hd hz bs bd bz bzd ho hx h0 h1 h3 h1b h3b (fun g s' d' i' a b z' o' K u v j q x1 x2 x3 x4 x5 x6 x7 x8 x9 x10 x11 e7 p w_ r => ih g s' d' i' a b z' o' q x1 x2 x3 x4 x5 x6 x7 x8 x9 x10 x11 (cZs_op hb hZ hE q p w_ e7 r (by rw [h3]; rfl))) er
          · exact co7_15_18_24 hT hO w x z o hv hX hK hP hb hl hs hd hz bs bd bz bzd ho hx h0 h1 h3 h1b h3b (fun g s' d' i' a b z' o' K u v j q x1 x2 x3 x4 x5 x6 x7 x8 x9 x10 x11 e7 p w_ r => ih g s' d' i' a b z' o' q x1 x2 x3 x4 x5 x6 x7 x8 x9 x10 x11 (cZs_op hb hZ hE q p w_ e7 r (by rw [h3]; rfl))) er
      · exact co7_19_24 hT hO w x z o hv hX hK hP hb hl hs hd hz bs bd bz bzd ho hx h0 h1 h3 (fun g s' d' i' a b z' o' K u v j q x1 x2 x3 x4 x5 x6 x7 x8 x9 x10 x11 e7 p w_ r => ih g s' d' i' a b z' o' q x1 x2 x3 x4 x5 x6 x7 x8 x9 x10 x11 (cZs_op hb hZ hE q p w_ e7 r (by rw [h3]; rfl))) er
      · exact co7_21_24 hT hO w x z o hv hX hK hP hb hl hs hd hz bs bd bz bzd ho hx h0 h1 h3 (fun g s' d' i' a b z' o' K u v j q x1 x2 x3 x4 x5 x6 x7 x8 x9 x10 x11 e7 p w_ r => ih g s' d' i' a b z' o' q x1 x2 x3 x4 x5 x6 x7 x8 x9 x10 x11 (cZs_st hb hZ hE q p w_ e7 r (by rw [h3]; rfl))) er
theorem co7_text_24 {D : zD} {T : zT} (hT : hTab T) (hO : vOK T) {N : Nat} {h : zH} {B : Nat → Int} {n : Nat} {P : PT} (hB : TXc B n h) (hn : (n : Int) ≤ (h 10 1).2) (hP : cP 24 P h) (hb : lB P) : vP D T N 88 0 h [some (2, 17), some (2, 24), some (0, (n : Int)), none, none] [] (cOx7 B n P h) := by
  refine vP_hv (fun hv => co_text0_24 hT hO hv hB hn ?_)
  intro g m τ f hK hX
  have hP1 : cP 24 P g := hP.eq (fun a b h1 h2 => (f a b (fun c => by omega)).trans ((zset_ne (fun c => by omega)).trans ((zset_ne (fun c => by omega)).trans ((zset_ne (fun c => by omega)).trans (zset_ne (fun c => by omega))))))
  have f0 : ∀ g', oFr g g' → oXr h g' := fun g' f' a b hn => by
    rw [f' a b (fun c => hn (by omega)), f a b (fun c => hn (by omega)), zset_ne (fun c => hn (by omega)), zset_ne (fun c => hn (by omega)), zset_ne (fun c => hn (by omega)), zset_ne (fun c => hn (by omega))]
  refine vP_loop (fun h' l => ∃ (x : Nat) (s d i : Nat) (z : Int) (o : Option zV), l = [some (2, 17), some (2, 24), some (0, (n : Int)), some (0, (x : Int)), o] ∧ 2 * x ≤ i ∧ cX B n m τ i h' ∧ cP 24 P h' ∧ h' 17 2 = (2, 24) ∧ h' 18 1 = (0, (s : Int)) ∧ h' 17 4 = (0, (d : Int)) ∧ h' 18 0 = (0, z) ∧ (s ≤ 30 ∧ d ≤ 3 ∧ 0 ≤ z ∧ z + d ≤ 2 * s) ∧ (∀ e : Nat, e < d → 0 ≤ (h' 23 e).2 ∧ (h' 23 e).2 < z) ∧ oFr g h' ∧ cZs τ P h' s d i z) ?_ N _ _ ⟨0, 0, 0, 0, 0, none, rfl, by decide, hX, hP1, ?_, ?_, ?_, ?_, ⟨by decide, by decide, by decide, by decide⟩, fun e he => absurd he (by omega), oFr.rfl, cZs_0⟩
  · rintro N h' l ⟨x, s, d, i, z, o, rfl, hxi, hX', hP', hl, hs, hd, hz, ⟨b1, b2, b3, b4⟩, ho, hF, hZ⟩ ih
    have him := hX'.im
    by_cases h0 : τ 0 i = 0
    · refine vP_hv (fun hv => co_exit_24 hT hO n x o d hv hX' hd (bEn_y.mpr h0) (by omega) ?_ ?_)
      · intro c
        obtain ⟨Z, t, ib, z1, z2, z3, z4, z5, z6, z7⟩ := hZ
        cases Z with
        | cons y Z =>
          have l : (y :: Z).length = Z.length + 1 := rfl
          omega
        | nil =>
          have z1 : ib = 0 := z1
          have e1 : zN [] = 0 := rfl
          have e2 : zSs [] = 0 := rfl
          subst z1
          rw [e1] at z4 z5
          rw [e2] at z6
          refine ⟨m, τ, hK, Or.inr ⟨t, i, z2, h0, rfl, z4, ?_, ?_, by omega, by omega, hX'.fl, hX'.pl⟩, f0 _ hF⟩
          · rw [show ((tS t : Nat) : Int) = (s : Int) from by omega]; exact hs
          · rw [show ((tN t : Nat) : Int) = z from by omega]; exact hz
      · intro c g3 f3 c3
        exact ⟨m, τ, hK, Or.inl ⟨_, rfl, c3⟩, f0 _ (hF.t f3)⟩
    · refine co7_turn_24 hT hO n x z o hX' hK hP' hb hl hs hd hz b1 b2 b3 b4 ho ⟨by omega, by omega⟩ h0 hZ ?_ ?_
      · intro g3 s' d' i' a b z' o' q hX3 hP3 hl3 hs3 ha hd3 hb3 hz3 hbd ho3 f3 hZ3
        subst ha hb3
        have hi := pStep_i q
        exact ih _ _ ⟨x + 1, s', d', i', z', o', rfl, by omega, hX3, hP3, hl3, hs3, hd3, hz3, hbd, ho3, hF.trans f3, hZ3⟩
      · intro g3 e q c3 f3
        exact ⟨m, τ, hK, Or.inl ⟨e, rfl, c3⟩, f0 _ (hF.trans f3)⟩
  · exact (f 17 2 (fun c => by omega)).trans ((zset_ne (by decide)).trans ((zset_ne (by decide)).trans ((zset_ne (by decide)).trans zset_same)))
  · exact (f 18 1 (fun c => by omega)).trans ((zset_ne (by decide)).trans zset_same)
  · exact (f 17 4 (fun c => by omega)).trans zset_same
  · exact (f 18 0 (fun c => by omega)).trans ((zset_ne (by decide)).trans ((zset_ne (by decide)).trans zset_same))
theorem qc_ord7_24 {D : zD} {T : zT} (hT : hTab T) (hO : vOK T) {N : Nat} {h : zH} {Q : zR → Prop} {B : Nat → Int} {n : Nat} {P : PT} (hv0 : zHv h) (hB : TXc B n h) (hP : cP 24 P h) (hb : lB P) (e7 : h 0 7 = (2, 24)) (hn : (n : Int) ≤ (h 10 1).2) (hn3 : (n : Int) ≤ 300)
    (k0 : ∀ (g4 : zH) (m : Nat) (τ : PT) (t : OT) (i : Nat), (oXr h g4) → (Tks B n m τ) → (oSp τ P t 0 i) → (τ 0 i = 0) → (cLay 8 g4 t 0) → (g4 18 1 = (0, ((tS t : Nat) : Int))) → (g4 18 0 = (0, ((tN t : Nat) : Int))) → (tS t ≤ 30) → (tN t ≤ 60) → (g4 10 7 = (0, 0)) → (g4 10 8 = (0, -1)) → Q (zset (zcopy (zcopy (zcopy (zcopy (zset (zset (zset (zset (zset g4 10 1 (0, 0)) 10 9 (0, 0)) 10 10 (0, -1)) 34 0 (0, ((tN t : Nat) : Int))) 34 1 (0, ((tS t : Nat) : Int))) 19 0 35 0 60) 20 0 36 0 60) 21 0 37 0 60) 22 0 38 0 60) 0 0 (0, 0), some (0, ((tS t : Nat) : Int))))
    (k1 : ∀ (g5 : zH) (m : Nat) (τ : PT) (e5 : Er), (oXr h g5) → (Tks B n m τ) → (cB e5 g5) → Q (zset (zset (zset (zset g5 10 1 (0, 0)) 10 9 (0, e5.1)) 10 10 (0, e5.2)) 0 0 (0, 10), some (0, -1))) :
    vP D T N 170 0 h [some (2, 0), some (0, (n : Int)), none] [] Q := by
  refine v_load (v := (0, (n : Int))) (hi_X11_orders_0 hT) rfl rfl ?_
  refine v_if (hi_X11_orders_1 hT) (fun hc1 => absurd (show (n : Int) < 0 from hc1) (by omega)) (fun _ => ?_)
  refine v_load (v := (0, (n : Int))) (hi_X11_orders_4 hT) rfl rfl ?_
  refine v_load (v := (2, 0)) (hi_X11_orders_5 hT) rfl rfl ?_
  refine v_getR (c := 10) (r := 0) (hi_X11_orders_6 hT) rfl rfl rfl ?_
  refine v_getI (t := 0) (r := 10) (hi_X11_orders_9 hT) rfl rfl rfl ?_
  refine v_ic (hi_X11_orders_12 hT) (fun hc2 => absurd (show (h 10 1).2 < (n : Int) from hc2) (by omega)) (fun _ => ?_)
  refine v_load (v := (0, (n : Int))) (hi_X11_orders_15 hT) rfl rfl ?_
  refine v_push (300) (hi_X11_orders_16 hT) rfl ?_
  refine v_ic (hi_X11_orders_19 hT) (fun hc3 => absurd (show 300 < (n : Int) from hc3) (by omega)) (fun _ => ?_)
  refine v_load (v := (2, 0)) (hi_X11_orders_28 hT) rfl rfl ?_
  refine v_getR (c := 17) (r := 0) (hi_X11_orders_29 hT) rfl rfl rfl ?_
  refine v_load (v := (2, 0)) (hi_X11_orders_32 hT) rfl rfl ?_
  refine v_getf (v := (2, 24)) (r := 0) (hi_X11_orders_33 hT) rfl rfl (fun _ => e7) ?_
  refine v_load (v := (0, (n : Int))) (hi_X11_orders_36 hT) rfl rfl ?_
  refine v_call (w := 5) [some (2, 17), some (2, 24), some (0, (n : Int)), none, none] hO (hi_X11_orders_37 hT) rfl rfl (cOx7_k (co7_text_24 hT hO hB (by omega) hP hb) (fun g4 m τ t i xf4 hK4 qs4 qz4 ql4 sa4 sb4 ba4 bb4 da4 db4 => ?_) (fun g5 m τ e5 xf5 hK5 c5 => ?_))
  · show vP D T N 170 40 g4 [some (2, 0), some (0, (n : Int)), none] [(0, 1)] _
    refine vP_hv (fun hv4 => ?_)
    refine v_store1 [some (2, 0), some (0, (n : Int)), some (0, 1)] (hi_X11_orders_40 hT) ⟨rfl, Nat.ne_of_beq_eq_false rfl⟩ (Nat.le_of_ble_eq_true rfl) rfl ?_
    refine v_load (v := (2, 0)) (hi_X11_orders_41 hT) rfl rfl ?_
    refine v_getR (c := 10) (r := 0) (hi_X11_orders_42 hT) rfl rfl rfl ?_
    refine v_call (w := 1) [some (2, 10)] hO (hi_X11_orders_45 hT) rfl rfl ?_
    refine v_load (v := (2, 10)) (hi_X8_finishText_0 hT) rfl rfl ?_
    refine v_push (0) (hi_X8_finishText_1 hT) rfl ?_
    refine v_putf (r := 10) hO (hi_X8_finishText_2 hT) rfl (fun hf6 => ?_)
    refine v_load (v := (2, 10)) (hi_X8_finishText_5 hT) rfl rfl ?_
    refine v_load (v := (2, 10)) (hi_X8_finishText_6 hT) rfl rfl ?_
    refine v_getf (v := (0, 0)) (r := 10) (hi_X8_finishText_7 hT) rfl rfl (fun _ => Eq.trans (zset_ne (fun c => absurd c.2 (by decide))) (da4)) ?_
    refine v_putf (r := 10) hO (hi_X8_finishText_10 hT) rfl (fun hf7 => ?_)
    refine v_load (v := (2, 10)) (hi_X8_finishText_13 hT) rfl rfl ?_
    refine v_load (v := (2, 10)) (hi_X8_finishText_14 hT) rfl rfl ?_
    refine v_getf (v := (0, -1)) (r := 10) (hi_X8_finishText_15 hT) rfl rfl (fun _ => Eq.trans (Eq.trans (zset_ne (fun c => absurd c.2 (by decide))) (zset_ne (fun c => absurd c.2 (by decide)))) (db4)) ?_
    refine v_putf (r := 10) hO (hi_X8_finishText_18 hT) rfl (fun hf8 => ?_)
    refine v_ret0 (hi_X8_finishText_21 hT) ?_
    show vP D T N 170 48 (zset (zset (zset g4 10 1 (0, 0)) 10 9 (0, 0)) 10 10 (0, -1)) [some (2, 0), some (0, (n : Int)), some (0, 1)] [] _
    refine v_load (v := (0, 1)) (hi_X11_orders_48 hT) rfl rfl ?_
    refine v_if (hi_X11_orders_49 hT) (fun hc9 => absurd (show (1 : Int) = 0 from hc9) (by decide)) (fun _ => ?_)
    refine v_load (v := (2, 0)) (hi_X11_orders_59 hT) rfl rfl ?_
    refine v_getf (v := (2, 24)) (r := 0) (hi_X11_orders_60 hT) rfl rfl (fun _ => Eq.trans (Eq.trans (zset_ne (fun c => absurd c.1 (by decide))) (Eq.trans (zset_ne (fun c => absurd c.1 (by decide))) (zset_ne (fun c => absurd c.1 (by decide))))) ((Eq.trans (xf4 0 7 (fun c => by omega)) e7))) ?_
    refine v_getR (c := 34) (r := 24) (hi_X11_orders_63 hT) rfl rfl rfl ?_
    refine v_load (v := (2, 0)) (hi_X11_orders_66 hT) rfl rfl ?_
    refine v_getR (c := 17) (r := 0) (hi_X11_orders_67 hT) rfl rfl rfl ?_
    refine v_getR (c := 18) (r := 17) (hi_X11_orders_70 hT) rfl rfl rfl ?_
    refine v_call (w := 2) [some (2, 34), some (2, 18)] hO (hi_X11_orders_73 hT) rfl rfl ?_
    refine v_load (v := (2, 34)) (hi_X5_becomeLike_0 hT) rfl rfl ?_
    refine v_load (v := (2, 18)) (hi_X5_becomeLike_1 hT) rfl rfl ?_
    refine v_getf (v := (0, ((tN t : Nat) : Int))) (r := 18) (hi_X5_becomeLike_2 hT) rfl rfl (fun _ => Eq.trans (Eq.trans (zset_ne (fun c => absurd c.1 (by decide))) (Eq.trans (zset_ne (fun c => absurd c.1 (by decide))) (zset_ne (fun c => absurd c.1 (by decide))))) (sb4)) ?_
    refine v_putf (r := 34) hO (hi_X5_becomeLike_5 hT) rfl (fun hf10 => ?_)
    refine v_load (v := (2, 34)) (hi_X5_becomeLike_8 hT) rfl rfl ?_
    refine v_load (v := (2, 18)) (hi_X5_becomeLike_9 hT) rfl rfl ?_
    refine v_getf (v := (0, ((tS t : Nat) : Int))) (r := 18) (hi_X5_becomeLike_10 hT) rfl rfl (fun _ => Eq.trans (Eq.trans (zset_ne (fun c => absurd c.1 (by decide))) (Eq.trans (zset_ne (fun c => absurd c.1 (by decide))) (Eq.trans (zset_ne (fun c => absurd c.1 (by decide))) (zset_ne (fun c => absurd c.1 (by decide)))))) (sa4)) ?_
    refine v_putf (r := 34) hO (hi_X5_becomeLike_13 hT) rfl (fun hf11 => ?_)
    refine v_load (v := (2, 18)) (hi_X5_becomeLike_16 hT) rfl rfl ?_
    refine v_getR (c := 19) (r := 18) (hi_X5_becomeLike_17 hT) rfl rfl rfl ?_
    refine v_push (0) (hi_X5_becomeLike_20 hT) rfl ?_
    refine v_load (v := (2, 34)) (hi_X5_becomeLike_21 hT) rfl rfl ?_
    refine v_getR (c := 35) (r := 34) (hi_X5_becomeLike_22 hT) rfl rfl rfl ?_
    refine v_push (0) (hi_X5_becomeLike_25 hT) rfl ?_
    refine v_push (60) (hi_X5_becomeLike_26 hT) rfl ?_
    refine v_copy (r0 := 19) (r1 := 35) (hi_X5_becomeLike_28 hT) rfl rfl rfl rfl (fun hd12 hd13 hd14 hd15 hd16 => ?_)
    refine v_load (v := (2, 18)) (hi_X5_becomeLike_31 hT) rfl rfl ?_
    refine v_getR (c := 20) (r := 18) (hi_X5_becomeLike_32 hT) rfl rfl rfl ?_
    refine v_push (0) (hi_X5_becomeLike_35 hT) rfl ?_
    refine v_load (v := (2, 34)) (hi_X5_becomeLike_36 hT) rfl rfl ?_
    refine v_getR (c := 36) (r := 34) (hi_X5_becomeLike_37 hT) rfl rfl rfl ?_
    refine v_push (0) (hi_X5_becomeLike_40 hT) rfl ?_
    refine v_push (60) (hi_X5_becomeLike_41 hT) rfl ?_
    refine v_copy (r0 := 20) (r1 := 36) (hi_X5_becomeLike_43 hT) rfl rfl rfl rfl (fun hd17 hd18 hd19 hd20 hd21 => ?_)
    refine v_load (v := (2, 18)) (hi_X5_becomeLike_46 hT) rfl rfl ?_
    refine v_getR (c := 21) (r := 18) (hi_X5_becomeLike_47 hT) rfl rfl rfl ?_
    refine v_push (0) (hi_X5_becomeLike_50 hT) rfl ?_
    refine v_load (v := (2, 34)) (hi_X5_becomeLike_51 hT) rfl rfl ?_
    refine v_getR (c := 37) (r := 34) (hi_X5_becomeLike_52 hT) rfl rfl rfl ?_
    refine v_push (0) (hi_X5_becomeLike_55 hT) rfl ?_
    refine v_push (60) (hi_X5_becomeLike_56 hT) rfl ?_
    refine v_copy (r0 := 21) (r1 := 37) (hi_X5_becomeLike_58 hT) rfl rfl rfl rfl (fun hd22 hd23 hd24 hd25 hd26 => ?_)
    refine v_load (v := (2, 18)) (hi_X5_becomeLike_61 hT) rfl rfl ?_
    refine v_getR (c := 22) (r := 18) (hi_X5_becomeLike_62 hT) rfl rfl rfl ?_
    refine v_push (0) (hi_X5_becomeLike_65 hT) rfl ?_
    refine v_load (v := (2, 34)) (hi_X5_becomeLike_66 hT) rfl rfl ?_
    refine v_getR (c := 38) (r := 34) (hi_X5_becomeLike_67 hT) rfl rfl rfl ?_
    refine v_push (0) (hi_X5_becomeLike_70 hT) rfl ?_
    refine v_push (60) (hi_X5_becomeLike_71 hT) rfl ?_
    refine v_copy (r0 := 22) (r1 := 38) (hi_X5_becomeLike_73 hT) rfl rfl rfl rfl (fun hd27 hd28 hd29 hd30 hd31 => ?_)
    refine v_ret0 (hi_X5_becomeLike_76 hT) ?_
    show vP D T N 170 76 (zcopy (zcopy (zcopy (zcopy (zset (zset (zset (zset (zset g4 10 1 (0, 0)) 10 9 (0, 0)) 10 10 (0, -1)) 34 0 (0, ((tN t : Nat) : Int))) 34 1 (0, ((tS t : Nat) : Int))) 19 0 35 0 60) 20 0 36 0 60) 21 0 37 0 60) 22 0 38 0 60) [some (2, 0), some (0, (n : Int)), some (0, 1)] [] _
    refine v_load (v := (2, 0)) (hi_X11_orders_76 hT) rfl rfl ?_
    refine v_load (v := (2, 0)) (hi_X11_orders_77 hT) rfl rfl ?_
    refine v_getf (v := (2, 24)) (r := 0) (hi_X11_orders_78 hT) rfl rfl (fun _ => Eq.trans (Eq.trans (vcopy_ne (fun c => absurd c.1 (by decide))) (Eq.trans (vcopy_ne (fun c => absurd c.1 (by decide))) (Eq.trans (vcopy_ne (fun c => absurd c.1 (by decide))) (Eq.trans (vcopy_ne (fun c => absurd c.1 (by decide))) (Eq.trans (zset_ne (fun c => absurd c.1 (by decide))) (Eq.trans (zset_ne (fun c => absurd c.1 (by decide))) (Eq.trans (zset_ne (fun c => absurd c.1 (by decide))) (Eq.trans (zset_ne (fun c => absurd c.1 (by decide))) (zset_ne (fun c => absurd c.1 (by decide))))))))))) ((Eq.trans (xf4 0 7 (fun c => by omega)) e7))) ?_
    refine v_getR (c := 34) (r := 24) (hi_X11_orders_81 hT) rfl rfl rfl ?_
    refine v_getf (v := (0, ((tS t : Nat) : Int))) (r := 34) (hi_X11_orders_84 hT) rfl rfl (fun _ => Eq.trans (Eq.trans (vcopy_ne (fun c => absurd c.1 (by decide))) (Eq.trans (vcopy_ne (fun c => absurd c.1 (by decide))) (Eq.trans (vcopy_ne (fun c => absurd c.1 (by decide))) (vcopy_ne (fun c => absurd c.1 (by decide)))))) zset_same) ?_
    refine v_call (w := 2) [some (2, 0), some (0, ((tS t : Nat) : Int))] hO (hi_X11_orders_87 hT) rfl rfl ?_
    refine v_load (v := (2, 0)) (hi_X11_answer_0 hT) rfl rfl ?_
    refine v_push (0) (hi_X11_answer_1 hT) rfl ?_
    refine v_putf (r := 0) hO (hi_X11_answer_2 hT) rfl (fun hf32 => ?_)
    refine v_load (v := (0, ((tS t : Nat) : Int))) (hi_X11_answer_5 hT) rfl rfl ?_
    refine v_ret (hi_X11_answer_6 hT) (Or.inl rfl) ?_
    show vP D T N 170 90 (zset (zcopy (zcopy (zcopy (zcopy (zset (zset (zset (zset (zset g4 10 1 (0, 0)) 10 9 (0, 0)) 10 10 (0, -1)) 34 0 (0, ((tN t : Nat) : Int))) 34 1 (0, ((tS t : Nat) : Int))) 19 0 35 0 60) 20 0 36 0 60) 21 0 37 0 60) 22 0 38 0 60) 0 0 (0, 0)) [some (2, 0), some (0, (n : Int)), some (0, 1)] [(0, ((tS t : Nat) : Int))] _
    refine v_ret (hi_X11_orders_90 hT) (Or.inl rfl) ?_
    exact k0 g4 m τ t i xf4 hK4 qs4 qz4 ql4 sa4 sb4 ba4 bb4 da4 db4
  · show vP D T N 170 40 g5 [some (2, 0), some (0, (n : Int)), none] [(0, 0)] _
    refine vP_hv (fun hv5 => ?_)
    refine v_store1 [some (2, 0), some (0, (n : Int)), some (0, 0)] (hi_X11_orders_40 hT) ⟨rfl, Nat.ne_of_beq_eq_false rfl⟩ (Nat.le_of_ble_eq_true rfl) rfl ?_
    refine v_load (v := (2, 0)) (hi_X11_orders_41 hT) rfl rfl ?_
    refine v_getR (c := 10) (r := 0) (hi_X11_orders_42 hT) rfl rfl rfl ?_
    refine v_call (w := 1) [some (2, 10)] hO (hi_X11_orders_45 hT) rfl rfl ?_
    refine v_load (v := (2, 10)) (hi_X8_finishText_0 hT) rfl rfl ?_
    refine v_push (0) (hi_X8_finishText_1 hT) rfl ?_
    refine v_putf (r := 10) hO (hi_X8_finishText_2 hT) rfl (fun hf33 => ?_)
    refine v_load (v := (2, 10)) (hi_X8_finishText_5 hT) rfl rfl ?_
    refine v_load (v := (2, 10)) (hi_X8_finishText_6 hT) rfl rfl ?_
    refine v_getf (v := (0, e5.1)) (r := 10) (hi_X8_finishText_7 hT) rfl rfl (fun _ => Eq.trans (zset_ne (fun c => absurd c.2 (by decide))) (c5.1)) ?_
    refine v_putf (r := 10) hO (hi_X8_finishText_10 hT) rfl (fun hf34 => ?_)
    refine v_load (v := (2, 10)) (hi_X8_finishText_13 hT) rfl rfl ?_
    refine v_load (v := (2, 10)) (hi_X8_finishText_14 hT) rfl rfl ?_
    refine v_getf (v := (0, e5.2)) (r := 10) (hi_X8_finishText_15 hT) rfl rfl (fun _ => Eq.trans (Eq.trans (zset_ne (fun c => absurd c.2 (by decide))) (zset_ne (fun c => absurd c.2 (by decide)))) (c5.2)) ?_
    refine v_putf (r := 10) hO (hi_X8_finishText_18 hT) rfl (fun hf35 => ?_)
    refine v_ret0 (hi_X8_finishText_21 hT) ?_
    show vP D T N 170 48 (zset (zset (zset g5 10 1 (0, 0)) 10 9 (0, e5.1)) 10 10 (0, e5.2)) [some (2, 0), some (0, (n : Int)), some (0, 0)] [] _
    refine v_load (v := (0, 0)) (hi_X11_orders_48 hT) rfl rfl ?_
    refine v_if (hi_X11_orders_49 hT) (fun _ => ?_) (fun hc36 => absurd (show (0 : Int) = 0 from (by decide)) hc36)
    refine v_load (v := (2, 0)) (hi_X11_orders_52 hT) rfl rfl ?_
    refine v_push (10) (hi_X11_orders_53 hT) rfl ?_
    refine v_call (w := 2) [some (2, 0), some (0, 10)] hO (hi_X11_orders_55 hT) rfl rfl ?_
    refine v_load (v := (2, 0)) (hi_X11_refused_0 hT) rfl rfl ?_
    refine v_load (v := (0, 10)) (hi_X11_refused_1 hT) rfl rfl ?_
    refine v_putf (r := 0) hO (hi_X11_refused_2 hT) rfl (fun hf37 => ?_)
    refine v_push (-1) (hi_X11_refused_5 hT) rfl ?_
    refine v_ret (hi_X11_refused_6 hT) (Or.inl rfl) ?_
    show vP D T N 170 58 (zset (zset (zset (zset g5 10 1 (0, 0)) 10 9 (0, e5.1)) 10 10 (0, e5.2)) 0 0 (0, 10)) [some (2, 0), some (0, (n : Int)), some (0, 0)] [(0, -1)] _
    refine v_ret (hi_X11_orders_58 hT) (Or.inl rfl) ?_
    exact k1 g5 m τ e5 xf5 hK5 c5
theorem co7_ord_24 {D : zD} {T : zT} (hT : hTab T) (hO : vOK T) {N : Nat} {h : zH} {B : Nat → Int} {n : Nat} {P : PT} (hB : TXc B n h) (hP : cP 24 P h) (hb : lB P) (e7 : h 0 7 = (2, 24)) (hn : (n : Int) ≤ (h 10 1).2) (hn3 : (n : Int) ≤ 300) : vP D T N 170 0 h [some (2, 0), some (0, (n : Int)), none] [] (cOd7 24 B n P h) := by
  refine vP_hv (fun hv => qc_ord7_24 hT hO hv hB hP hb e7 hn hn3 ?_ ?_)
  · intro g m τ t i xf hK qs q0 ql s1 s0 b3 b6 d7 d8
    refine ⟨m, τ, hK, Or.inr ⟨t, i, qs, q0, rfl, b3, b6, ?_, ?_, ?_⟩⟩
    · dsimp only
      exact (zset_ne (by decide)).trans ((vcopy_ne (by decide)).trans ((vcopy_ne (by decide)).trans ((vcopy_ne (by decide)).trans ((vcopy_ne (by decide)).trans ((zset_ne (by decide)).trans zset_same)))))
    · dsimp only
      exact (zset_ne (by decide)).trans ((vcopy_ne (by decide)).trans ((vcopy_ne (by decide)).trans ((vcopy_ne (by decide)).trans ((vcopy_ne (by decide)).trans zset_same))))
    · dsimp only
      refine ql.tr (fun j k h1 h2 h3 => ?_) (by omega)
      have hj : j = 11 ∨ j = 12 ∨ j = 13 ∨ j = 14 := by omega
      have z5 : ∀ a, 19 ≤ a → a ≤ 22 → zset (zset (zset (zset (zset g 10 1 (0, 0)) 10 9 (0, 0)) 10 10 (0, -1)) 34 0 (0, ((tN t : Nat) : Int))) 34 1 (0, ((tS t : Nat) : Int)) a k = g a k := fun a ha1 ha2 => by
        rw [zset_ne (fun c => by omega), zset_ne (fun c => by omega), zset_ne (fun c => by omega), zset_ne (fun c => by omega), zset_ne (fun c => by omega)]
      rcases hj with rfl | rfl | rfl | rfl
      · exact (zset_ne (fun c => by omega)).trans ((vcopy_ne (fun c => by omega)).trans ((vcopy_ne (fun c => by omega)).trans ((vcopy_ne (fun c => by omega)).trans ((vcopy_at0 h3).trans (z5 19 (by decide) (by decide))))))
      · exact (zset_ne (fun c => by omega)).trans ((vcopy_ne (fun c => by omega)).trans ((vcopy_ne (fun c => by omega)).trans ((vcopy_at0 h3).trans ((vcopy_ne (fun c => by omega)).trans (z5 20 (by decide) (by decide))))))
      · exact (zset_ne (fun c => by omega)).trans ((vcopy_ne (fun c => by omega)).trans ((vcopy_at0 h3).trans ((vcopy_ne (fun c => by omega)).trans ((vcopy_ne (fun c => by omega)).trans (z5 21 (by decide) (by decide))))))
      · exact (zset_ne (fun c => by omega)).trans ((vcopy_at0 h3).trans ((vcopy_ne (fun c => by omega)).trans ((vcopy_ne (fun c => by omega)).trans ((vcopy_ne (fun c => by omega)).trans (z5 22 (by decide) (by decide))))))
  · intro g m τ e xf hK c
    refine ⟨m, τ, hK, Or.inl ⟨rfl, fun a j ha1 ha2 => ?_⟩⟩
    show zset (zset (zset (zset g 10 1 (0, 0)) 10 9 (0, e.1)) 10 10 (0, e.2)) 0 0 (0, 10) a j = h a j
    rw [zset_ne (fun c => by omega), zset_ne (fun c => by omega), zset_ne (fun c => by omega), zset_ne (fun c => by omega)]
    exact xf a j (fun c => by omega)
theorem co7_turn_39 {D : zD} {T : zT} (hT : hTab T) (hO : vOK T) {N : Nat} {h : zH} {Q : zR → Prop} {B : Nat → Int} {n m i s d : Nat} {τ P : PT} (w x z : Int) (o : Option zV) (hX : cX B n m τ i h) (hK : Tks B n m τ) (hP : cP 39 P h) (hb : (0 ≤ P 0 0 ∧ P 0 0 ≤ 8) ∧ (0 ≤ P 0 1 ∧ P 0 1 ≤ 6) ∧ (0 ≤ P 0 2 ∧ P 0 2 ≤ 3) ∧ (0 ≤ P 0 3 ∧ P 0 3 ≤ 6)) (hl : h 17 2 = (2, 39)) (hs : h 18 1 = (0, (s : Int))) (hd : h 17 4 = (0, (d : Int))) (hz : h 18 0 = (0, z)) (bs : s ≤ 30) (bd : d ≤ 3) (bz : 0 ≤ z) (bzd : z + d ≤ 2 * s) (ho : ∀ e : Nat, e < d → 0 ≤ (h 23 e).2 ∧ (h 23 e).2 < z) (hx : 0 ≤ x ∧ x < 900) (h0 : τ 0 i ≠ 0) (hZ : cZs τ P h s d i z) (ih : ∀ g s' d' i' a b z' o', pStep τ P s d i = .inr (s', d', i') → cX B n m τ i' g → cP 39 P g → g 17 2 = (2, 39) → g 18 1 = (0, a) → a = (s' : Int) → g 17 4 = (0, b) → b = (d' : Int) → g 18 0 = (0, z') → s' ≤ 30 ∧ d' ≤ 3 ∧ 0 ≤ z' ∧ z' + d' ≤ 2 * s' → (∀ e : Nat, e < d' → 0 ≤ (g 23 e).2 ∧ (g 23 e).2 < z') → oFr h g → cZs τ P g s' d' i' z' → vP D T N 88 27 g [some (2, 17), some (2, 39), some (0, w), some (0, (x + 1)), o'] [] Q) (er : ∀ g e, pStep τ P s d i = .inl e → cB e g → oFr h g → Q (g, some (0, 0))) : vP D T (N + 1) 88 27 h [some (2, 17), some (2, 39), some (0, w), some (0, x), o] [] Q := by
  refine vP_hv (fun hv => ?_)
  have tb := bKp_bd hK hX.im.1
  by_cases hE : bW τ 20 i ≠ 0
  · exact co7_20_39 hT hO w x z o hv hX hK hP hb hl hs hd hz bs bd bz bzd ho hx h0 hE (fun g s' d' i' a b z' o' f q x1 x2 x3 x4 x5 x6 x7 x8 x9 x10 x11 e7 p w_ r => ih g s' d' i' a b z' o' q x1 x2 x3 x4 x5 x6 x7 x8 x9 x10 x11 (cZs_en hZ hE q p w_ e7 r)) er
  · have hE : bW τ 20 i = 0 := Classical.byContradiction hE
    by_cases hsw : swd τ i < 0
    · refine co_x_39 hT hO w x z o hv hX hK hP hb hl hs hd hz bs bd bz bzd ho hx h0 hE hsw ?_ (fun g s' d' i' a b z' o' q => absurd q ?_) er
      · have := swd_lt.mp hsw
        unfold bHw
        by_cases c : τ 0 i = 1
        · rw [if_pos c]; omega
        · rw [if_neg c]; omega
      · unfold pStep
        rw [if_neg (fun c => c hE), if_pos hsw]
        intro c
        cases c
    · have hge := swd_ge.mp (show 0 ≤ swd τ i by omega)
      obtain ⟨h1, h3⟩ := hge
      have hk : τ 3 i = 8 ∨ τ 3 i = 9 ∨ τ 3 i = 10 ∨ τ 3 i = 11 ∨ τ 3 i = 12 ∨ τ 3 i = 13 ∨ τ 3 i = 14 ∨ τ 3 i = 15 ∨ τ 3 i = 19 ∨ τ 3 i = 21 := by omega
      rcases hk with h3 | h3 | h3 | h3 | h3 | h3 | h3 | h3 | h3 | h3
      · exact co7_8_39 hT hO w x z o hv hX hK hP hb hl hs hd hz bs bd bz bzd ho hx h0 h1 h3 (fun g s' d' i' a b z' o' K u v j q x1 x2 x3 x4 x5 x6 x7 x8 x9 x10 x11 e7 p w_ r => ih g s' d' i' a b z' o' q x1 x2 x3 x4 x5 x6 x7 x8 x9 x10 x11 (cZs_st hb hZ hE q p w_ e7 r (by rw [h3]; rfl))) er
      · exact co7_9_39 hT hO w x z o hv hX hK hP hb hl hs hd hz bs bd bz bzd ho hx h0 h1 h3 (fun g s' d' i' a b z' o' K u v j q x1 x2 x3 x4 x5 x6 x7 x8 x9 x10 x11 e7 p w_ r => ih g s' d' i' a b z' o' q x1 x2 x3 x4 x5 x6 x7 x8 x9 x10 x11 (cZs_st hb hZ hE q p w_ e7 r (by rw [h3]; rfl))) er
      · exact co7_10_39 hT hO w x z o hv hX hK hP hb hl hs hd hz bs bd bz bzd ho hx h0 h1 h3 (fun g s' d' i' a b z' o' K u v j q x1 x2 x3 x4 x5 x6 x7 x8 x9 x10 x11 e7 p w_ r => ih g s' d' i' a b z' o' q x1 x2 x3 x4 x5 x6 x7 x8 x9 x10 x11 (cZs_st hb hZ hE q p w_ e7 r (by rw [h3]; rfl))) er
      · exact co7_11_39 hT hO w x z o hv hX hK hP hb hl hs hd hz bs bd bz bzd ho hx h0 h1 h3 (fun g s' d' i' a b z' o' K u v j q x1 x2 x3 x4 x5 x6 x7 x8 x9 x10 x11 e7 p w_ r => ih g s' d' i' a b z' o' q x1 x2 x3 x4 x5 x6 x7 x8 x9 x10 x11 (cZs_st hb hZ hE q p w_ e7 r (by rw [h3]; rfl))) er
      · exact co7_12_39 hT hO w x z o hv hX hK hP hb hl hs hd hz bs bd bz bzd ho hx h0 h1 h3 (fun g s' d' i' a b z' o' K u v j q x1 x2 x3 x4 x5 x6 x7 x8 x9 x10 x11 e7 p w_ r => ih g s' d' i' a b z' o' q x1 x2 x3 x4 x5 x6 x7 x8 x9 x10 x11 (cZs_st hb hZ hE q p w_ e7 r (by rw [h3]; rfl))) er
      · exact co7_13_39 hT hO w x z o hv hX hK hP hb hl hs hd hz bs bd bz bzd ho hx h0 h1 h3 (fun g s' d' i' a b z' o' K u v j q x1 x2 x3 x4 x5 x6 x7 x8 x9 x10 x11 e7 p w_ r => ih g s' d' i' a b z' o' q x1 x2 x3 x4 x5 x6 x7 x8 x9 x10 x11 (cZs_st hb hZ hE q p w_ e7 r (by rw [h3]; rfl))) er
      · exact co7_14_39 hT hO w x z o hv hX hK hP hb hl hs hd hz bs bd bz bzd ho hx h0 h1 h3 (fun g s' d' i' a b z' o' K u v j q x1 x2 x3 x4 x5 x6 x7 x8 x9 x10 x11 e7 p w_ r => ih g s' d' i' a b z' o' q x1 x2 x3 x4 x5 x6 x7 x8 x9 x10 x11 (cZs_st hb hZ hE q p w_ e7 r (by rw [h3]; rfl))) er
      · by_cases htw : twd τ (i + 1) < 0
        · refine co_15x_39 hT hO w x z o hv hX hK hP hb hl hs hd hz bs bd bz bzd ho hx h0 h1 h3 htw ?_ (fun g s' d' i' a b z' o' q => absurd ((pStep_V q hE).2.1 h3) (by omega)) er
          have := twd_lt.mp htw
          unfold bHw
          by_cases c : τ 0 (i + 1) = 1
          · rw [if_pos c]; omega
          · rw [if_neg c]; omega
        · have hte := twd_ge.mp (show 0 ≤ twd τ (i + 1) by omega)
          obtain ⟨h1b, h3b⟩ := hte
          have hk : τ 3 (i + 1) = 16 ∨ τ 3 (i + 1) = 17 ∨ τ 3 (i + 1) = 18 := by omega
          rcases hk with h3b | h3b | h3b
          · exact co7_15_16_39 hT hO w x z o hv hX hK hP hb hl hs hd hz bs bd bz bzd ho hx h0 h1 h3 h1b h3b (fun g s' d' i' a b z' o' K u v j q x1 x2 x3 x4 x5 x6 x7 x8 x9 x10 x11 e7 p w_ r => ih g s' d' i' a b z' o' q x1 x2 x3 x4 x5 x6 x7 x8 x9 x10 x11 (cZs_op hb hZ hE q p w_ e7 r (by rw [h3]; rfl))) er
          · exact co7_15_17_39 hT hO w x z o hv hX hK hP hb hl hs hd hz bs bd bz bzd ho hx h0 h1 h3 h1b h3b (fun g s' d' i' a b z' o' K u v j q x1 x2 x3 x4 x5 x6 x7 x8 x9 x10 x11 e7 p w_ r => ih g s' d' i' a b z' o' q x1 x2 x3 x4 x5 x6 x7 x8 x9 x10 x11 (cZs_op hb hZ hE q p w_ e7 r (by rw [h3]; rfl))) er
          · exact co7_15_18_39 hT hO w x z o hv hX hK hP hb hl hs hd hz bs bd bz bzd ho hx h0 h1 h3 h1b h3b (fun g s' d' i' a b z' o' K u v j q x1 x2 x3 x4 x5 x6 x7 x8 x9 x10 x11 e7 p w_ r => ih g s' d' i' a b z' o' q x1 x2 x3 x4 x5 x6 x7 x8 x9 x10 x11 (cZs_op hb hZ hE q p w_ e7 r (by rw [h3]; rfl))) er
      · exact co7_19_39 hT hO w x z o hv hX hK hP hb hl hs hd hz bs bd bz bzd ho hx h0 h1 h3 (fun g s' d' i' a b z' o' K u v j q x1 x2 x3 x4 x5 x6 x7 x8 x9 x10 x11 e7 p w_ r => ih g s' d' i' a b z' o' q x1 x2 x3 x4 x5 x6 x7 x8 x9 x10 x11 (cZs_op hb hZ hE q p w_ e7 r (by rw [h3]; rfl))) er
      · exact co7_21_39 hT hO w x z o hv hX hK hP hb hl hs hd hz bs bd bz bzd ho hx h0 h1 h3 (fun g s' d' i' a b z' o' K u v j q x1 x2 x3 x4 x5 x6 x7 x8 x9 x10 x11 e7 p w_ r => ih g s' d' i' a b z' o' q x1 x2 x3 x4 x5 x6 x7 x8 x9 x10 x11 (cZs_st hb hZ hE q p w_ e7 r (by rw [h3]; rfl))) er
theorem co7_text_39 {D : zD} {T : zT} (hT : hTab T) (hO : vOK T) {N : Nat} {h : zH} {B : Nat → Int} {n : Nat} {P : PT} (hB : TXc B n h) (hn : (n : Int) ≤ (h 10 1).2) (hP : cP 39 P h) (hb : lB P) : vP D T N 88 0 h [some (2, 17), some (2, 39), some (0, (n : Int)), none, none] [] (cOx7 B n P h) := by
  refine vP_hv (fun hv => co_text0_39 hT hO hv hB hn ?_)
  intro g m τ f hK hX
  have hP1 : cP 39 P g := hP.eq (fun a b h1 h2 => (f a b (fun c => by omega)).trans ((zset_ne (fun c => by omega)).trans ((zset_ne (fun c => by omega)).trans ((zset_ne (fun c => by omega)).trans (zset_ne (fun c => by omega))))))
  have f0 : ∀ g', oFr g g' → oXr h g' := fun g' f' a b hn => by
    rw [f' a b (fun c => hn (by omega)), f a b (fun c => hn (by omega)), zset_ne (fun c => hn (by omega)), zset_ne (fun c => hn (by omega)), zset_ne (fun c => hn (by omega)), zset_ne (fun c => hn (by omega))]
  refine vP_loop (fun h' l => ∃ (x : Nat) (s d i : Nat) (z : Int) (o : Option zV), l = [some (2, 17), some (2, 39), some (0, (n : Int)), some (0, (x : Int)), o] ∧ 2 * x ≤ i ∧ cX B n m τ i h' ∧ cP 39 P h' ∧ h' 17 2 = (2, 39) ∧ h' 18 1 = (0, (s : Int)) ∧ h' 17 4 = (0, (d : Int)) ∧ h' 18 0 = (0, z) ∧ (s ≤ 30 ∧ d ≤ 3 ∧ 0 ≤ z ∧ z + d ≤ 2 * s) ∧ (∀ e : Nat, e < d → 0 ≤ (h' 23 e).2 ∧ (h' 23 e).2 < z) ∧ oFr g h' ∧ cZs τ P h' s d i z) ?_ N _ _ ⟨0, 0, 0, 0, 0, none, rfl, by decide, hX, hP1, ?_, ?_, ?_, ?_, ⟨by decide, by decide, by decide, by decide⟩, fun e he => absurd he (by omega), oFr.rfl, cZs_0⟩
  · rintro N h' l ⟨x, s, d, i, z, o, rfl, hxi, hX', hP', hl, hs, hd, hz, ⟨b1, b2, b3, b4⟩, ho, hF, hZ⟩ ih
    have him := hX'.im
    by_cases h0 : τ 0 i = 0
    · refine vP_hv (fun hv => co_exit_39 hT hO n x o d hv hX' hd (bEn_y.mpr h0) (by omega) ?_ ?_)
      · intro c
        obtain ⟨Z, t, ib, z1, z2, z3, z4, z5, z6, z7⟩ := hZ
        cases Z with
        | cons y Z =>
          have l : (y :: Z).length = Z.length + 1 := rfl
          omega
        | nil =>
          have z1 : ib = 0 := z1
          have e1 : zN [] = 0 := rfl
          have e2 : zSs [] = 0 := rfl
          subst z1
          rw [e1] at z4 z5
          rw [e2] at z6
          refine ⟨m, τ, hK, Or.inr ⟨t, i, z2, h0, rfl, z4, ?_, ?_, by omega, by omega, hX'.fl, hX'.pl⟩, f0 _ hF⟩
          · rw [show ((tS t : Nat) : Int) = (s : Int) from by omega]; exact hs
          · rw [show ((tN t : Nat) : Int) = z from by omega]; exact hz
      · intro c g3 f3 c3
        exact ⟨m, τ, hK, Or.inl ⟨_, rfl, c3⟩, f0 _ (hF.t f3)⟩
    · refine co7_turn_39 hT hO n x z o hX' hK hP' hb hl hs hd hz b1 b2 b3 b4 ho ⟨by omega, by omega⟩ h0 hZ ?_ ?_
      · intro g3 s' d' i' a b z' o' q hX3 hP3 hl3 hs3 ha hd3 hb3 hz3 hbd ho3 f3 hZ3
        subst ha hb3
        have hi := pStep_i q
        exact ih _ _ ⟨x + 1, s', d', i', z', o', rfl, by omega, hX3, hP3, hl3, hs3, hd3, hz3, hbd, ho3, hF.trans f3, hZ3⟩
      · intro g3 e q c3 f3
        exact ⟨m, τ, hK, Or.inl ⟨e, rfl, c3⟩, f0 _ (hF.trans f3)⟩
  · exact (f 17 2 (fun c => by omega)).trans ((zset_ne (by decide)).trans ((zset_ne (by decide)).trans ((zset_ne (by decide)).trans zset_same)))
  · exact (f 18 1 (fun c => by omega)).trans ((zset_ne (by decide)).trans zset_same)
  · exact (f 17 4 (fun c => by omega)).trans zset_same
  · exact (f 18 0 (fun c => by omega)).trans ((zset_ne (by decide)).trans ((zset_ne (by decide)).trans zset_same))
theorem qc_ord7_39 {D : zD} {T : zT} (hT : hTab T) (hO : vOK T) {N : Nat} {h : zH} {Q : zR → Prop} {B : Nat → Int} {n : Nat} {P : PT} (hv0 : zHv h) (hB : TXc B n h) (hP : cP 39 P h) (hb : lB P) (e7 : h 0 7 = (2, 39)) (hn : (n : Int) ≤ (h 10 1).2) (hn3 : (n : Int) ≤ 300)
    (k0 : ∀ (g4 : zH) (m : Nat) (τ : PT) (t : OT) (i : Nat), (oXr h g4) → (Tks B n m τ) → (oSp τ P t 0 i) → (τ 0 i = 0) → (cLay 8 g4 t 0) → (g4 18 1 = (0, ((tS t : Nat) : Int))) → (g4 18 0 = (0, ((tN t : Nat) : Int))) → (tS t ≤ 30) → (tN t ≤ 60) → (g4 10 7 = (0, 0)) → (g4 10 8 = (0, -1)) → Q (zset (zcopy (zcopy (zcopy (zcopy (zset (zset (zset (zset (zset g4 10 1 (0, 0)) 10 9 (0, 0)) 10 10 (0, -1)) 49 0 (0, ((tN t : Nat) : Int))) 49 1 (0, ((tS t : Nat) : Int))) 19 0 50 0 60) 20 0 51 0 60) 21 0 52 0 60) 22 0 53 0 60) 0 0 (0, 0), some (0, ((tS t : Nat) : Int))))
    (k1 : ∀ (g5 : zH) (m : Nat) (τ : PT) (e5 : Er), (oXr h g5) → (Tks B n m τ) → (cB e5 g5) → Q (zset (zset (zset (zset g5 10 1 (0, 0)) 10 9 (0, e5.1)) 10 10 (0, e5.2)) 0 0 (0, 10), some (0, -1))) :
    vP D T N 170 0 h [some (2, 0), some (0, (n : Int)), none] [] Q := by
  refine v_load (v := (0, (n : Int))) (hi_X11_orders_0 hT) rfl rfl ?_
  refine v_if (hi_X11_orders_1 hT) (fun hc1 => absurd (show (n : Int) < 0 from hc1) (by omega)) (fun _ => ?_)
  refine v_load (v := (0, (n : Int))) (hi_X11_orders_4 hT) rfl rfl ?_
  refine v_load (v := (2, 0)) (hi_X11_orders_5 hT) rfl rfl ?_
  refine v_getR (c := 10) (r := 0) (hi_X11_orders_6 hT) rfl rfl rfl ?_
  refine v_getI (t := 0) (r := 10) (hi_X11_orders_9 hT) rfl rfl rfl ?_
  refine v_ic (hi_X11_orders_12 hT) (fun hc2 => absurd (show (h 10 1).2 < (n : Int) from hc2) (by omega)) (fun _ => ?_)
  refine v_load (v := (0, (n : Int))) (hi_X11_orders_15 hT) rfl rfl ?_
  refine v_push (300) (hi_X11_orders_16 hT) rfl ?_
  refine v_ic (hi_X11_orders_19 hT) (fun hc3 => absurd (show 300 < (n : Int) from hc3) (by omega)) (fun _ => ?_)
  refine v_load (v := (2, 0)) (hi_X11_orders_28 hT) rfl rfl ?_
  refine v_getR (c := 17) (r := 0) (hi_X11_orders_29 hT) rfl rfl rfl ?_
  refine v_load (v := (2, 0)) (hi_X11_orders_32 hT) rfl rfl ?_
  refine v_getf (v := (2, 39)) (r := 0) (hi_X11_orders_33 hT) rfl rfl (fun _ => e7) ?_
  refine v_load (v := (0, (n : Int))) (hi_X11_orders_36 hT) rfl rfl ?_
  refine v_call (w := 5) [some (2, 17), some (2, 39), some (0, (n : Int)), none, none] hO (hi_X11_orders_37 hT) rfl rfl (cOx7_k (co7_text_39 hT hO hB (by omega) hP hb) (fun g4 m τ t i xf4 hK4 qs4 qz4 ql4 sa4 sb4 ba4 bb4 da4 db4 => ?_) (fun g5 m τ e5 xf5 hK5 c5 => ?_))
  · show vP D T N 170 40 g4 [some (2, 0), some (0, (n : Int)), none] [(0, 1)] _
    refine vP_hv (fun hv4 => ?_)
    refine v_store1 [some (2, 0), some (0, (n : Int)), some (0, 1)] (hi_X11_orders_40 hT) ⟨rfl, Nat.ne_of_beq_eq_false rfl⟩ (Nat.le_of_ble_eq_true rfl) rfl ?_
    refine v_load (v := (2, 0)) (hi_X11_orders_41 hT) rfl rfl ?_
    refine v_getR (c := 10) (r := 0) (hi_X11_orders_42 hT) rfl rfl rfl ?_
    refine v_call (w := 1) [some (2, 10)] hO (hi_X11_orders_45 hT) rfl rfl ?_
    refine v_load (v := (2, 10)) (hi_X8_finishText_0 hT) rfl rfl ?_
    refine v_push (0) (hi_X8_finishText_1 hT) rfl ?_
    refine v_putf (r := 10) hO (hi_X8_finishText_2 hT) rfl (fun hf6 => ?_)
    refine v_load (v := (2, 10)) (hi_X8_finishText_5 hT) rfl rfl ?_
    refine v_load (v := (2, 10)) (hi_X8_finishText_6 hT) rfl rfl ?_
    refine v_getf (v := (0, 0)) (r := 10) (hi_X8_finishText_7 hT) rfl rfl (fun _ => Eq.trans (zset_ne (fun c => absurd c.2 (by decide))) (da4)) ?_
    refine v_putf (r := 10) hO (hi_X8_finishText_10 hT) rfl (fun hf7 => ?_)
    refine v_load (v := (2, 10)) (hi_X8_finishText_13 hT) rfl rfl ?_
    refine v_load (v := (2, 10)) (hi_X8_finishText_14 hT) rfl rfl ?_
    refine v_getf (v := (0, -1)) (r := 10) (hi_X8_finishText_15 hT) rfl rfl (fun _ => Eq.trans (Eq.trans (zset_ne (fun c => absurd c.2 (by decide))) (zset_ne (fun c => absurd c.2 (by decide)))) (db4)) ?_
    refine v_putf (r := 10) hO (hi_X8_finishText_18 hT) rfl (fun hf8 => ?_)
    refine v_ret0 (hi_X8_finishText_21 hT) ?_
    show vP D T N 170 48 (zset (zset (zset g4 10 1 (0, 0)) 10 9 (0, 0)) 10 10 (0, -1)) [some (2, 0), some (0, (n : Int)), some (0, 1)] [] _
    refine v_load (v := (0, 1)) (hi_X11_orders_48 hT) rfl rfl ?_
    refine v_if (hi_X11_orders_49 hT) (fun hc9 => absurd (show (1 : Int) = 0 from hc9) (by decide)) (fun _ => ?_)
    refine v_load (v := (2, 0)) (hi_X11_orders_59 hT) rfl rfl ?_
    refine v_getf (v := (2, 39)) (r := 0) (hi_X11_orders_60 hT) rfl rfl (fun _ => Eq.trans (Eq.trans (zset_ne (fun c => absurd c.1 (by decide))) (Eq.trans (zset_ne (fun c => absurd c.1 (by decide))) (zset_ne (fun c => absurd c.1 (by decide))))) ((Eq.trans (xf4 0 7 (fun c => by omega)) e7))) ?_
    refine v_getR (c := 49) (r := 39) (hi_X11_orders_63 hT) rfl rfl rfl ?_
    refine v_load (v := (2, 0)) (hi_X11_orders_66 hT) rfl rfl ?_
    refine v_getR (c := 17) (r := 0) (hi_X11_orders_67 hT) rfl rfl rfl ?_
    refine v_getR (c := 18) (r := 17) (hi_X11_orders_70 hT) rfl rfl rfl ?_
    refine v_call (w := 2) [some (2, 49), some (2, 18)] hO (hi_X11_orders_73 hT) rfl rfl ?_
    refine v_load (v := (2, 49)) (hi_X5_becomeLike_0 hT) rfl rfl ?_
    refine v_load (v := (2, 18)) (hi_X5_becomeLike_1 hT) rfl rfl ?_
    refine v_getf (v := (0, ((tN t : Nat) : Int))) (r := 18) (hi_X5_becomeLike_2 hT) rfl rfl (fun _ => Eq.trans (Eq.trans (zset_ne (fun c => absurd c.1 (by decide))) (Eq.trans (zset_ne (fun c => absurd c.1 (by decide))) (zset_ne (fun c => absurd c.1 (by decide))))) (sb4)) ?_
    refine v_putf (r := 49) hO (hi_X5_becomeLike_5 hT) rfl (fun hf10 => ?_)
    refine v_load (v := (2, 49)) (hi_X5_becomeLike_8 hT) rfl rfl ?_
    refine v_load (v := (2, 18)) (hi_X5_becomeLike_9 hT) rfl rfl ?_
    refine v_getf (v := (0, ((tS t : Nat) : Int))) (r := 18) (hi_X5_becomeLike_10 hT) rfl rfl (fun _ => Eq.trans (Eq.trans (zset_ne (fun c => absurd c.1 (by decide))) (Eq.trans (zset_ne (fun c => absurd c.1 (by decide))) (Eq.trans (zset_ne (fun c => absurd c.1 (by decide))) (zset_ne (fun c => absurd c.1 (by decide)))))) (sa4)) ?_
    refine v_putf (r := 49) hO (hi_X5_becomeLike_13 hT) rfl (fun hf11 => ?_)
    refine v_load (v := (2, 18)) (hi_X5_becomeLike_16 hT) rfl rfl ?_
    refine v_getR (c := 19) (r := 18) (hi_X5_becomeLike_17 hT) rfl rfl rfl ?_
    refine v_push (0) (hi_X5_becomeLike_20 hT) rfl ?_
    refine v_load (v := (2, 49)) (hi_X5_becomeLike_21 hT) rfl rfl ?_
    refine v_getR (c := 50) (r := 49) (hi_X5_becomeLike_22 hT) rfl rfl rfl ?_
    refine v_push (0) (hi_X5_becomeLike_25 hT) rfl ?_
    refine v_push (60) (hi_X5_becomeLike_26 hT) rfl ?_
    refine v_copy (r0 := 19) (r1 := 50) (hi_X5_becomeLike_28 hT) rfl rfl rfl rfl (fun hd12 hd13 hd14 hd15 hd16 => ?_)
    refine v_load (v := (2, 18)) (hi_X5_becomeLike_31 hT) rfl rfl ?_
    refine v_getR (c := 20) (r := 18) (hi_X5_becomeLike_32 hT) rfl rfl rfl ?_
    refine v_push (0) (hi_X5_becomeLike_35 hT) rfl ?_
    refine v_load (v := (2, 49)) (hi_X5_becomeLike_36 hT) rfl rfl ?_
    refine v_getR (c := 51) (r := 49) (hi_X5_becomeLike_37 hT) rfl rfl rfl ?_
    refine v_push (0) (hi_X5_becomeLike_40 hT) rfl ?_
    refine v_push (60) (hi_X5_becomeLike_41 hT) rfl ?_
    refine v_copy (r0 := 20) (r1 := 51) (hi_X5_becomeLike_43 hT) rfl rfl rfl rfl (fun hd17 hd18 hd19 hd20 hd21 => ?_)
    refine v_load (v := (2, 18)) (hi_X5_becomeLike_46 hT) rfl rfl ?_
    refine v_getR (c := 21) (r := 18) (hi_X5_becomeLike_47 hT) rfl rfl rfl ?_
    refine v_push (0) (hi_X5_becomeLike_50 hT) rfl ?_
    refine v_load (v := (2, 49)) (hi_X5_becomeLike_51 hT) rfl rfl ?_
    refine v_getR (c := 52) (r := 49) (hi_X5_becomeLike_52 hT) rfl rfl rfl ?_
    refine v_push (0) (hi_X5_becomeLike_55 hT) rfl ?_
    refine v_push (60) (hi_X5_becomeLike_56 hT) rfl ?_
    refine v_copy (r0 := 21) (r1 := 52) (hi_X5_becomeLike_58 hT) rfl rfl rfl rfl (fun hd22 hd23 hd24 hd25 hd26 => ?_)
    refine v_load (v := (2, 18)) (hi_X5_becomeLike_61 hT) rfl rfl ?_
    refine v_getR (c := 22) (r := 18) (hi_X5_becomeLike_62 hT) rfl rfl rfl ?_
    refine v_push (0) (hi_X5_becomeLike_65 hT) rfl ?_
    refine v_load (v := (2, 49)) (hi_X5_becomeLike_66 hT) rfl rfl ?_
    refine v_getR (c := 53) (r := 49) (hi_X5_becomeLike_67 hT) rfl rfl rfl ?_
    refine v_push (0) (hi_X5_becomeLike_70 hT) rfl ?_
    refine v_push (60) (hi_X5_becomeLike_71 hT) rfl ?_
    refine v_copy (r0 := 22) (r1 := 53) (hi_X5_becomeLike_73 hT) rfl rfl rfl rfl (fun hd27 hd28 hd29 hd30 hd31 => ?_)
    refine v_ret0 (hi_X5_becomeLike_76 hT) ?_
    show vP D T N 170 76 (zcopy (zcopy (zcopy (zcopy (zset (zset (zset (zset (zset g4 10 1 (0, 0)) 10 9 (0, 0)) 10 10 (0, -1)) 49 0 (0, ((tN t : Nat) : Int))) 49 1 (0, ((tS t : Nat) : Int))) 19 0 50 0 60) 20 0 51 0 60) 21 0 52 0 60) 22 0 53 0 60) [some (2, 0), some (0, (n : Int)), some (0, 1)] [] _
    refine v_load (v := (2, 0)) (hi_X11_orders_76 hT) rfl rfl ?_
    refine v_load (v := (2, 0)) (hi_X11_orders_77 hT) rfl rfl ?_
    refine v_getf (v := (2, 39)) (r := 0) (hi_X11_orders_78 hT) rfl rfl (fun _ => Eq.trans (Eq.trans (vcopy_ne (fun c => absurd c.1 (by decide))) (Eq.trans (vcopy_ne (fun c => absurd c.1 (by decide))) (Eq.trans (vcopy_ne (fun c => absurd c.1 (by decide))) (Eq.trans (vcopy_ne (fun c => absurd c.1 (by decide))) (Eq.trans (zset_ne (fun c => absurd c.1 (by decide))) (Eq.trans (zset_ne (fun c => absurd c.1 (by decide))) (Eq.trans (zset_ne (fun c => absurd c.1 (by decide))) (Eq.trans (zset_ne (fun c => absurd c.1 (by decide))) (zset_ne (fun c => absurd c.1 (by decide))))))))))) ((Eq.trans (xf4 0 7 (fun c => by omega)) e7))) ?_
    refine v_getR (c := 49) (r := 39) (hi_X11_orders_81 hT) rfl rfl rfl ?_
    refine v_getf (v := (0, ((tS t : Nat) : Int))) (r := 49) (hi_X11_orders_84 hT) rfl rfl (fun _ => Eq.trans (Eq.trans (vcopy_ne (fun c => absurd c.1 (by decide))) (Eq.trans (vcopy_ne (fun c => absurd c.1 (by decide))) (Eq.trans (vcopy_ne (fun c => absurd c.1 (by decide))) (vcopy_ne (fun c => absurd c.1 (by decide)))))) zset_same) ?_
    refine v_call (w := 2) [some (2, 0), some (0, ((tS t : Nat) : Int))] hO (hi_X11_orders_87 hT) rfl rfl ?_
    refine v_load (v := (2, 0)) (hi_X11_answer_0 hT) rfl rfl ?_
    refine v_push (0) (hi_X11_answer_1 hT) rfl ?_
    refine v_putf (r := 0) hO (hi_X11_answer_2 hT) rfl (fun hf32 => ?_)
    refine v_load (v := (0, ((tS t : Nat) : Int))) (hi_X11_answer_5 hT) rfl rfl ?_
    refine v_ret (hi_X11_answer_6 hT) (Or.inl rfl) ?_
    show vP D T N 170 90 (zset (zcopy (zcopy (zcopy (zcopy (zset (zset (zset (zset (zset g4 10 1 (0, 0)) 10 9 (0, 0)) 10 10 (0, -1)) 49 0 (0, ((tN t : Nat) : Int))) 49 1 (0, ((tS t : Nat) : Int))) 19 0 50 0 60) 20 0 51 0 60) 21 0 52 0 60) 22 0 53 0 60) 0 0 (0, 0)) [some (2, 0), some (0, (n : Int)), some (0, 1)] [(0, ((tS t : Nat) : Int))] _
    refine v_ret (hi_X11_orders_90 hT) (Or.inl rfl) ?_
    exact k0 g4 m τ t i xf4 hK4 qs4 qz4 ql4 sa4 sb4 ba4 bb4 da4 db4
  · show vP D T N 170 40 g5 [some (2, 0), some (0, (n : Int)), none] [(0, 0)] _
    refine vP_hv (fun hv5 => ?_)
    refine v_store1 [some (2, 0), some (0, (n : Int)), some (0, 0)] (hi_X11_orders_40 hT) ⟨rfl, Nat.ne_of_beq_eq_false rfl⟩ (Nat.le_of_ble_eq_true rfl) rfl ?_
    refine v_load (v := (2, 0)) (hi_X11_orders_41 hT) rfl rfl ?_
    refine v_getR (c := 10) (r := 0) (hi_X11_orders_42 hT) rfl rfl rfl ?_
    refine v_call (w := 1) [some (2, 10)] hO (hi_X11_orders_45 hT) rfl rfl ?_
    refine v_load (v := (2, 10)) (hi_X8_finishText_0 hT) rfl rfl ?_
    refine v_push (0) (hi_X8_finishText_1 hT) rfl ?_
    refine v_putf (r := 10) hO (hi_X8_finishText_2 hT) rfl (fun hf33 => ?_)
    refine v_load (v := (2, 10)) (hi_X8_finishText_5 hT) rfl rfl ?_
    refine v_load (v := (2, 10)) (hi_X8_finishText_6 hT) rfl rfl ?_
    refine v_getf (v := (0, e5.1)) (r := 10) (hi_X8_finishText_7 hT) rfl rfl (fun _ => Eq.trans (zset_ne (fun c => absurd c.2 (by decide))) (c5.1)) ?_
    refine v_putf (r := 10) hO (hi_X8_finishText_10 hT) rfl (fun hf34 => ?_)
    refine v_load (v := (2, 10)) (hi_X8_finishText_13 hT) rfl rfl ?_
    refine v_load (v := (2, 10)) (hi_X8_finishText_14 hT) rfl rfl ?_
    refine v_getf (v := (0, e5.2)) (r := 10) (hi_X8_finishText_15 hT) rfl rfl (fun _ => Eq.trans (Eq.trans (zset_ne (fun c => absurd c.2 (by decide))) (zset_ne (fun c => absurd c.2 (by decide)))) (c5.2)) ?_
    refine v_putf (r := 10) hO (hi_X8_finishText_18 hT) rfl (fun hf35 => ?_)
    refine v_ret0 (hi_X8_finishText_21 hT) ?_
    show vP D T N 170 48 (zset (zset (zset g5 10 1 (0, 0)) 10 9 (0, e5.1)) 10 10 (0, e5.2)) [some (2, 0), some (0, (n : Int)), some (0, 0)] [] _
    refine v_load (v := (0, 0)) (hi_X11_orders_48 hT) rfl rfl ?_
    refine v_if (hi_X11_orders_49 hT) (fun _ => ?_) (fun hc36 => absurd (show (0 : Int) = 0 from (by decide)) hc36)
    refine v_load (v := (2, 0)) (hi_X11_orders_52 hT) rfl rfl ?_
    refine v_push (10) (hi_X11_orders_53 hT) rfl ?_
    refine v_call (w := 2) [some (2, 0), some (0, 10)] hO (hi_X11_orders_55 hT) rfl rfl ?_
    refine v_load (v := (2, 0)) (hi_X11_refused_0 hT) rfl rfl ?_
    refine v_load (v := (0, 10)) (hi_X11_refused_1 hT) rfl rfl ?_
    refine v_putf (r := 0) hO (hi_X11_refused_2 hT) rfl (fun hf37 => ?_)
    refine v_push (-1) (hi_X11_refused_5 hT) rfl ?_
    refine v_ret (hi_X11_refused_6 hT) (Or.inl rfl) ?_
    show vP D T N 170 58 (zset (zset (zset (zset g5 10 1 (0, 0)) 10 9 (0, e5.1)) 10 10 (0, e5.2)) 0 0 (0, 10)) [some (2, 0), some (0, (n : Int)), some (0, 0)] [(0, -1)] _
    refine v_ret (hi_X11_orders_58 hT) (Or.inl rfl) ?_
    exact k1 g5 m τ e5 xf5 hK5 c5
theorem co7_ord_39 {D : zD} {T : zT} (hT : hTab T) (hO : vOK T) {N : Nat} {h : zH} {B : Nat → Int} {n : Nat} {P : PT} (hB : TXc B n h) (hP : cP 39 P h) (hb : lB P) (e7 : h 0 7 = (2, 39)) (hn : (n : Int) ≤ (h 10 1).2) (hn3 : (n : Int) ≤ 300) : vP D T N 170 0 h [some (2, 0), some (0, (n : Int)), none] [] (cOd7 39 B n P h) := by
  refine vP_hv (fun hv => qc_ord7_39 hT hO hv hB hP hb e7 hn hn3 ?_ ?_)
  · intro g m τ t i xf hK qs q0 ql s1 s0 b3 b6 d7 d8
    refine ⟨m, τ, hK, Or.inr ⟨t, i, qs, q0, rfl, b3, b6, ?_, ?_, ?_⟩⟩
    · dsimp only
      exact (zset_ne (by decide)).trans ((vcopy_ne (by decide)).trans ((vcopy_ne (by decide)).trans ((vcopy_ne (by decide)).trans ((vcopy_ne (by decide)).trans ((zset_ne (by decide)).trans zset_same)))))
    · dsimp only
      exact (zset_ne (by decide)).trans ((vcopy_ne (by decide)).trans ((vcopy_ne (by decide)).trans ((vcopy_ne (by decide)).trans ((vcopy_ne (by decide)).trans zset_same))))
    · dsimp only
      refine ql.tr (fun j k h1 h2 h3 => ?_) (by omega)
      have hj : j = 11 ∨ j = 12 ∨ j = 13 ∨ j = 14 := by omega
      have z5 : ∀ a, 19 ≤ a → a ≤ 22 → zset (zset (zset (zset (zset g 10 1 (0, 0)) 10 9 (0, 0)) 10 10 (0, -1)) 49 0 (0, ((tN t : Nat) : Int))) 49 1 (0, ((tS t : Nat) : Int)) a k = g a k := fun a ha1 ha2 => by
        rw [zset_ne (fun c => by omega), zset_ne (fun c => by omega), zset_ne (fun c => by omega), zset_ne (fun c => by omega), zset_ne (fun c => by omega)]
      rcases hj with rfl | rfl | rfl | rfl
      · exact (zset_ne (fun c => by omega)).trans ((vcopy_ne (fun c => by omega)).trans ((vcopy_ne (fun c => by omega)).trans ((vcopy_ne (fun c => by omega)).trans ((vcopy_at0 h3).trans (z5 19 (by decide) (by decide))))))
      · exact (zset_ne (fun c => by omega)).trans ((vcopy_ne (fun c => by omega)).trans ((vcopy_ne (fun c => by omega)).trans ((vcopy_at0 h3).trans ((vcopy_ne (fun c => by omega)).trans (z5 20 (by decide) (by decide))))))
      · exact (zset_ne (fun c => by omega)).trans ((vcopy_ne (fun c => by omega)).trans ((vcopy_at0 h3).trans ((vcopy_ne (fun c => by omega)).trans ((vcopy_ne (fun c => by omega)).trans (z5 21 (by decide) (by decide))))))
      · exact (zset_ne (fun c => by omega)).trans ((vcopy_at0 h3).trans ((vcopy_ne (fun c => by omega)).trans ((vcopy_ne (fun c => by omega)).trans ((vcopy_ne (fun c => by omega)).trans (z5 22 (by decide) (by decide))))))
  · intro g m τ e xf hK c
    refine ⟨m, τ, hK, Or.inl ⟨rfl, fun a j ha1 ha2 => ?_⟩⟩
    show zset (zset (zset (zset g 10 1 (0, 0)) 10 9 (0, e.1)) 10 10 (0, e.2)) 0 0 (0, 10) a j = h a j
    rw [zset_ne (fun c => by omega), zset_ne (fun c => by omega), zset_ne (fun c => by omega), zset_ne (fun c => by omega)]
    exact xf a j (fun c => by omega)
end
section
theorem rIt_mk {P : PT} (lb : lB P) {g : zH} {s k a b : Nat} (h : rI7 (P 0 0) g s (k : Int) (a : Int) (b : Int)) : rIt 2200 (P 0 0).toNat g k a b s := by
  obtain ⟨h1, h2, h3, h4, h5, h6⟩ := h
  refine ⟨h1, fun c => h2 ⟨by omega, by omega, by omega⟩, fun c => ?_, fun c => h4 (by omega), fun c => h5 (by omega), fun c => h6 (by omega)⟩
  have e := h3 (by omega)
  have j := gJ_i lb.1.1 b
  have q : P 0 0 * ((b : Int) / 8) + (b : Int) % 8 = ((gJ P b : Nat) : Int) := by
    rw [j, show ((b / 8 : Nat) : Int) = (b : Int) / 8 from by omega, show ((b % 8 : Nat) : Int) = (b : Int) % 8 from by omega]
  rw [q] at e
  exact e
theorem rIt.mv {w : Nat} {h : zH} {k a b s : Nat} (g : rIt 2200 w h k a b s) (f : ∀ j, 9 * s ≤ j → j < 9 * s + 9 → h 126 (277 + j) = h 126 (2477 + j)) : rIt 0 w h k a b s := by
  have e : ∀ x, x ≤ 8 → h 126 (0 + (277 + x) + 9 * s) = h 126 (2200 + (277 + x) + 9 * s) := fun x hx => by
    have := f (9 * s + x) (by omega) (by omega)
    rw [show 0 + (277 + x) + 9 * s = 277 + (9 * s + x) from by omega, show 2200 + (277 + x) + 9 * s = 2477 + (9 * s + x) from by omega]
    exact this
  obtain ⟨g1, g2, g3, g4, g5, g6⟩ := g
  exact ⟨(e 0 (by omega)).trans g1, fun c => (e 1 (by omega)).trans (g2 c), fun c => (e 2 (by omega)).trans (g3 c), fun c => (e 2 (by omega)).trans (g4 c), fun c => (e 6 (by omega)).trans (g5 c), fun c => (e 7 (by omega)).trans (g6 c)⟩
theorem rLay.mv {w : Nat} {h : zH} : ∀ (t : OT) {s : Nat}, rLay 2200 w h t s → (∀ j, 9 * s ≤ j → j < 9 * (s + tS t) → h 126 (277 + j) = h 126 (2477 + j)) → rLay 0 w h t s
  | .leaf _, _, _, _ => trivial
  | .branch d y r, s, g, f => by
    have e8 : 1 ≤ tS (.branch d y r) → h 126 (0 + 285 + 9 * s) = h 126 (2200 + 285 + 9 * s) := fun c => by
      have := f (9 * s + 8) (by omega) (by omega)
      rw [show 0 + 285 + 9 * s = 277 + (9 * s + 8) from by omega, show 2200 + 285 + 9 * s = 2477 + (9 * s + 8) from by omega]
      exact this
    by_cases hB : oB d
    · rw [tS_b hB] at f e8
      rw [rLay_b hB ⟨rfl, rfl, rfl⟩] at g ⊢
      obtain ⟨g1, g2, g3, g4⟩ := g
      exact ⟨g1.mv (fun e h1 h2 => f e (by omega) (by omega)), (e8 (by omega)).trans g2, rLay.mv y g3 (fun e h1 h2 => f e (by omega) (by omega)), rLay.mv r g4 (fun e h1 h2 => f e (by omega) (by omega))⟩
    · rw [tS_a hB] at f e8
      rw [rLay_a hB ⟨rfl, rfl, rfl⟩] at g ⊢
      obtain ⟨g1, g2, g3⟩ := g
      exact ⟨g1.mv (fun e h1 h2 => f e (by omega) (by omega)), (e8 (by omega)).trans g2, rLay.mv r g3 (fun e h1 h2 => f e (by omega) (by omega))⟩
def rSt7 (B : Nat → Int) (n m : Nat) (τ P : PT) (s i : Nat) (h0 : zH) (x : zR) : Prop := x.2 = none ∧ roF h0 x.1 ∧ ((∃ e, rE e x.1) ∨ (∃ (s' i' dc : Nat) (y : OT), oRI B n m τ P s' i' x.1 ∧ s' = s + tS (.branch dc y oNil) ∧ oSp τ P (.branch dc y oNil) i i' ∧ rLay 2200 (P 0 0).toNat x.1 (.branch dc y oNil) s ∧ ∀ e, e < 2477 + 9 * s → x.1 126 e = h0 126 e))
theorem rS7_st {B : Nat → Int} {n m : Nat} {τ P : PT} {h g : zH} {s d i s' d' i' : Nat} {a K u v : Int} {j : Nat} (lb : lB P) (o : oRI B n m τ P s i h) (hE : bW τ 20 i = 0) (hop : opW (τ 3 i) = false) (q : pStep τ P s d i = .inr (s', d', i')) (hX : rX B n m τ i' g) (hs : g 121 25 = (0, a)) (ha : a = (s' : Int)) (b : s' ≤ 30) (f : roF h g) (p : pItV τ P i = .inr (K, u, v, j)) (fr : ∀ e, ¬ (2477 + 9 * s ≤ e ∧ e < 2486 + 9 * s) → g 126 e = h 126 e) (w : rI7 (P 0 0) g s K u v) (e8 : g 126 (2485 + 9 * s) = (0, (s : Int) + 1)) : rSt7 B n m τ P s i h (g, none) := by
  obtain ⟨k, a', b', rfl, rfl, rfl, e4, e5, e6⟩ := oTk_mk lb q hE p
  subst ha
  obtain ⟨p1, p2, p3, p4⟩ := pStep_d q hE
  have hB : ¬ oB (oE k a' b') := fun c => by
    rw [← e6, hop] at c
    cases c
  refine ⟨rfl, f, Or.inr ⟨s', i', oE k a' b', oNil, o.go f hX hs b, ?_, ?_, ?_, fun e he => fr e (by omega)⟩⟩
  · rw [tS_a hB]
    show s' = s + (0 + 1)
    omega
  · rw [oSp_a hB]
    exact ⟨i', e5, rfl, rfl⟩
  · rw [rLay_a hB e4]
    exact ⟨rIt_mk lb w, e8.trans (congrArg (Prod.mk 0) (by omega)), trivial⟩
theorem rx_rs7 {D : zD} {T : zT} (hT : hTab T) (hO : vOK T) {B : Nat → Int} {n m : Nat} {τ P : PT} (hb : lB P) : ∀ N : Nat, (∀ (h : zH) (s d i : Nat), d ≤ 3 → oRI B n m τ P s i h → vP D T N 304 0 h [some (2, 121), some (0, (d : Int)), none, none, none] [] (rSt7 B n m τ P s i h)) ∧ (∀ (h0 h : zH) (s d i s1 i1 ib dc : Nat) (y : OT) (k : Int), d + 1 ≤ 3 → s ≤ 29 → oTk τ P i dc ib → oB dc → oSp τ P y ib i1 → rLay 2200 (P 0 0).toNat h y (s + 1) → s1 = s + 1 + tS y → rIt 2200 (P 0 0).toNat h (dc % 32) (dc / 32 % 128) (dc / 4096) s → (∀ e, e < 2477 + 9 * s → h 126 e = h0 126 e) → oRI B n m τ P s1 i1 h → roF h0 h → vP D T N 304 142 h [some (2, 121), some (0, (d : Int)), some (0, k), some (0, 1), some (0, 2477 + 9 * (s : Int))] [] (rSt7 B n m τ P s i h0)) := by
  intro N
  induction N with
  | zero => exact ⟨fun _ _ _ _ _ _ _ n r hn => absurd hn (Nat.not_lt_zero _), fun _ _ _ _ _ _ _ _ _ _ _ _ _ _ _ _ _ _ _ _ _ _ _ n r hn => absurd hn (Nat.not_lt_zero _)⟩
  | succ N IH =>
    obtain ⟨IH1, IH2⟩ := IH
    refine ⟨fun h s d i hd o => ?_, fun h0 h s d i s1 i1 ib dc y k hd hs0 tk hB sp ly e1 it fr o hF => ?_⟩
    · obtain ⟨hX, ⟨e0, e1, e2, e3⟩, hN, hs, bs⟩ := o
      have o : oRI B n m τ P s i h := ⟨hX, ⟨e0, e1, e2, e3⟩, hN, hs, bs⟩
      refine vP_hv (fun hv => ?_)
      by_cases hsw : swd τ i < 0
      · exact ro_x hT hO hv hX e0 e1 e2 e3 hN hb hs bs hd hsw (fun g e f => ⟨rfl, f, Or.inl ⟨_, e⟩⟩)
      · obtain ⟨h1, h3⟩ := swd_ge.mp (show 0 ≤ swd τ i by omega)
        have hE : bW τ 20 i = 0 := bW_0.mpr (fun c => by omega)
        have er : ∀ g e, pStep τ P s d i = .inl e → rE e g → roF h g → rSt7 B n m τ P s i h (g, none) := fun g e q c f => ⟨rfl, f, Or.inl ⟨e, c⟩⟩
        have ih : opW (τ 3 i) = false → ∀ g s' d' i' a K u v j, pStep τ P s d i = .inr (s', d', i') → rX B n m τ i' g → g 121 25 = (0, a) → a = (s' : Int) → s' ≤ 30 → roF h g → pItV τ P i = .inr (K, u, v, j) → (∀ e, ¬ (2477 + 9 * s ≤ e ∧ e < 2486 + 9 * s) → g 126 e = h 126 e) → rI7 (P 0 0) g s K u v → g 126 (2485 + 9 * s) = (0, (s : Int) + 1) → rSt7 B n m τ P s i h (g, none) := fun hop g s' d' i' a K u v j q hX' hs' ha b f p fr w e8 => rS7_st hb o hE hop q hX' hs' ha b f p fr w e8
        have ihb : opW (τ 3 i) = true → ∀ k : Int, ∀ g s' d' i' a K u v j, pStep τ P s d i = .inr (s', d', i') → rX B n m τ i' g → g 121 25 = (0, a) → a = (s' : Int) → s' ≤ 30 → roF h g → pItV τ P i = .inr (K, u, v, j) → (∀ e, ¬ (2477 + 9 * s ≤ e ∧ e < 2486 + 9 * s) → g 126 e = h 126 e) → rI7 (P 0 0) g s K u v → vP D T N 304 142 g [some (2, 121), some (0, (d : Int)), some (0, k), some (0, 1), some (0, 2477 + 9 * (s : Int))] [] (rSt7 B n m τ P s i h) := fun hop k g s' d' i' a K u v j q hX' hs' ha b f p fr w => by
          obtain ⟨kk, a', b', rfl, rfl, rfl, e4, e5, e6⟩ := oTk_mk hb q hE p
          subst ha
          obtain ⟨p1, p2, p3, p4⟩ := pStep_d q hE
          obtain ⟨p5, p6⟩ := p3 hop
          obtain ⟨d1, d2, d3⟩ := e4
          refine IH2 h g s d i s' i' i' (oE kk a' b') oNil k (by omega) (by omega) e5 (e6.mp hop) rfl trivial p1 ?_ (fun e he => fr e (by omega)) (o.go f hX' hs' b) f
          rw [d1, d2, d3]
          exact rIt_mk hb w
        have hk : τ 3 i = 8 ∨ τ 3 i = 9 ∨ τ 3 i = 10 ∨ τ 3 i = 11 ∨ τ 3 i = 12 ∨ τ 3 i = 13 ∨ τ 3 i = 14 ∨ τ 3 i = 15 ∨ τ 3 i = 19 ∨ τ 3 i = 21 := by omega
        rcases hk with h3 | h3 | h3 | h3 | h3 | h3 | h3 | h3 | h3 | h3
        · exact ro7_8 hT hO hv hX e0 e1 e2 e3 hN hb hs bs hd h1 h3 (ih (by rw [h3]; rfl)) er
        · exact ro7_9 hT hO hv hX e0 e1 e2 e3 hN hb hs bs hd h1 h3 (ih (by rw [h3]; rfl)) er
        · exact ro7_10 hT hO hv hX e0 e1 e2 e3 hN hb hs bs hd h1 h3 (ih (by rw [h3]; rfl)) er
        · exact ro7_11 hT hO hv hX e0 e1 e2 e3 hN hb hs bs hd h1 h3 (ih (by rw [h3]; rfl)) er
        · exact ro7_12 hT hO hv hX e0 e1 e2 e3 hN hb hs bs hd h1 h3 (ih (by rw [h3]; rfl)) er
        · exact ro7_13 hT hO hv hX e0 e1 e2 e3 hN hb hs bs hd h1 h3 (ih (by rw [h3]; rfl)) er
        · exact ro7_14 hT hO hv hX e0 e1 e2 e3 hN hb hs bs hd h1 h3 (ih (by rw [h3]; rfl)) er
        · by_cases htw : twd τ (i + 1) < 0
          · exact ro_15x hT hO hv hX e0 e1 e2 e3 hN hb hs bs hd h1 h3 htw er
          · obtain ⟨h1b, h3b⟩ := twd_ge.mp (show 0 ≤ twd τ (i + 1) by omega)
            have hk : τ 3 (i + 1) = 16 ∨ τ 3 (i + 1) = 17 ∨ τ 3 (i + 1) = 18 := by omega
            rcases hk with h3b | h3b | h3b
            · exact ro7_15_16 hT hO hv hX e0 e1 e2 e3 hN hb hs bs hd h1 h3 h1b h3b (ihb (by rw [h3]; rfl) 7) er
            · exact ro7_15_17 hT hO hv hX e0 e1 e2 e3 hN hb hs bs hd h1 h3 h1b h3b (ihb (by rw [h3]; rfl) 7) er
            · exact ro7_15_18 hT hO hv hX e0 e1 e2 e3 hN hb hs bs hd h1 h3 h1b h3b (ihb (by rw [h3]; rfl) 7) er
        · exact ro7_19 hT hO hv hX e0 e1 e2 e3 hN hb hs bs hd h1 h3 (ihb (by rw [h3]; rfl) 8) er
        · exact ro7_21 hT hO hv hX e0 e1 e2 e3 hN hb hs bs hd h1 h3 (ih (by rw [h3]; rfl)) er
    · obtain ⟨hX, ⟨e0, e1', e2, e3⟩, hN, hs, bs⟩ := o
      have o : oRI B n m τ P s1 i1 h := ⟨hX, ⟨e0, e1', e2, e3⟩, hN, hs, bs⟩
      refine vP_hv (fun hv => ro_loop (n := n) (m := m) (B := B) hT hO k hv hX e0 e1' e2 e3 hN hb hs bs (show d ≤ 3 by omega) hs0 ?_ ?_ ?_ ?_)
      · intro c
        have R := IH1 h s1 (d + 1) i1 hd o
        rw [show ((d + 1 : Nat) : Int) = (d : Int) + 1 from by omega] at R
        refine vP_Q (fun r hr => ?_) R
        obtain ⟨g, v⟩ := r
        obtain ⟨h1, f1, h2⟩ := hr
        have h1 : v = none := h1
        subst h1
        refine vP_hv (fun hv => ro_167 hT hO (d : Int) k 1 (2477 + 9 * (s : Int)) hv ?_)
        rcases h2 with ⟨e, a3⟩ | ⟨s2, i2, dc2, y2, a1, a2, a3, a4, a5⟩
        · have hs2 : g 121 25 = (0, (g 121 25).2) := hv.at rfl
          refine ro_loopB hT hO k _ hv a3 hs2 hs0 ?_
          intro _ _ _ _
          exact ⟨rfl, (hF.trans f1).z (by omega), Or.inl ⟨e, a3.z (by decide)⟩⟩
        · have a5 : ∀ e, e < 2477 + 9 * s1 → g 126 e = h 126 e := a5
          refine IH2 h0 g s d i s2 i2 ib dc (tA y (.branch dc2 y2 oNil)) k hd hs0 tk hB (oSp_A y _ sp a3) (rLay_A y _ (rLay.fr y ly (fun e h1 h2 => a5 e (by omega))) ?_) ?_ (it.fr (fun e h1 h2 => a5 e (by omega))) (fun e he => (a5 e (by omega)).trans (fr e he)) a1 (hF.trans f1)
          · rw [← e1]; exact a4
          · rw [tS_A]; omega
      · intro c g6 f6 _ hX6 g9 f9 c9 hX9 _ _
        have f : roF h (zset g9 126 (2477 + 9 * (s : Int) + 8).toNat (0, (s1 : Int))) := ((roF.rfl.t f6).t f9).z (by omega)
        have ne : ∀ e, e ≠ 2485 + 9 * s → zset g9 126 (2477 + 9 * (s : Int) + 8).toNat (0, (s1 : Int)) 126 e = h 126 e := fun e he => (zset_ne (fun c => he (by omega))).trans ((f9 126 e (fun c => by omega)).trans (f6 126 e (fun c => by omega)))
        have e25 : zset g9 126 (2477 + 9 * (s : Int) + 8).toNat (0, (s1 : Int)) 121 25 = (0, (s1 : Int)) := (zset_ne (fun c => absurd c.1 (by decide))).trans ((f9 121 25 (fun c => by omega)).trans ((f6 121 25 (fun c => by omega)).trans hs))
        refine ⟨rfl, hF.trans f, Or.inr ⟨s1, i1 + 1 + 1, dc, y, o.go f (hX9.z (by decide)) e25 bs, ?_, ?_, ?_, fun e he => (ne e (by omega)).trans (fr e he)⟩⟩
        · rw [tS_b hB]
          show s1 = s + (tS y + 0 + 1)
          omega
        · rw [oSp_b hB]
          exact ⟨ib, tk, i1, i1 + 1 + 1, sp, c, pSg_y c9, rfl⟩
        · rw [rLay_b hB ⟨rfl, rfl, rfl⟩]
          refine ⟨it.fr8 (fun e h1 h2 => ne e (by omega)), (zset_e (by omega)).trans (congrArg (Prod.mk 0) (by omega)), rLay.fr y ly (fun e h1 h2 => ne e (by omega)), trivial⟩
      · intro c g6 f6 _ hX6 g10 f10 c10 e10 _ _
        exact ⟨rfl, ((hF.trans ((roF.rfl.t f6).t f10)).z (by omega)), Or.inl ⟨_, e10.z (by decide)⟩⟩
      · intro c g7 f7 c7
        exact absurd c7 c
theorem vc126 {k : Nat} (hk : k < 2750) : vCode 126 k = some 0 := by
  show (if k < 2750 then some 0 else none) = some 0
  exact if_pos hk
def rOd7 (τ P : PT) (h0 : zH) (x : zR) : Prop := rOG h0 x.1 ∧ ((x.2 = some (0, -1) ∧ ∀ j, j < 550 → x.1 126 j = h0 126 j) ∨ (∃ (t : OT) (i : Nat), oSp τ P t 0 i ∧ τ 0 i = 0 ∧ x.2 = some (0, ((tS t : Nat) : Int)) ∧ x.1 126 275 = (0, 1) ∧ x.1 126 276 = (0, ((tS t : Nat) : Int)) ∧ rLay 0 (P 0 0).toNat x.1 t 0))
theorem rx_orders7 {D : zD} {T : zT} (hT : hTab T) (hO : vOK T) {N : Nat} {h : zH} {B : Nat → Int} {n m : Nat} {τ P : PT} (hb : lB P) (e0 : h 126 0 = (0, P 0 0)) (e1 : h 126 1 = (0, P 0 1)) (e2 : h 126 2 = (0, P 0 2)) (e3 : h 126 3 = (0, P 0 3)) (hN : rNm P h) (hK : Tks B n m τ) (hBB : BB B n) (hby : ∀ q, q < n → h 125 q = (0, B q)) (ht : (n : Int) ≤ (h 121 8).2) (hn3 : (n : Int) ≤ 300) : vP D T N 289 0 h [some (2, 121), some (0, (n : Int)), none] [] (rOd7 τ P h) := by
  refine vP_hv (fun hv => qr_ord0 hT hO hv hK hBB hby ht hn3 ?_)
  intro g f hX
  have f0 : rOG h (zset g 121 25 (0, 0)) := fun a b hn => by
    rw [zset_ne (fun c => hn (by omega)), f a b (fun c => hn (by omega)), zset_ne (fun c => hn (by omega)), zset_ne (fun c => hn (by omega)), zset_ne (fun c => hn (by omega)), zset_ne (fun c => hn (by omega)), zset_ne (fun c => hn (by omega)), zset_ne (fun c => hn (by omega))]
  have c0 : ∀ j, j < 550 → zset g 121 25 (0, 0) 126 j = h 126 j := fun j hj => by
    rw [zset_ne (by omega), f 126 j (fun c => by omega), zset_ne (by omega), zset_ne (by omega), zset_ne (by omega), zset_ne (by omega), zset_ne (by omega), zset_ne (by omega)]
  have n0 : ∀ k, zset g 121 25 (0, 0) 128 k = h 128 k := fun k => by
    rw [zset_ne (by omega), f 128 k (fun c => by omega), zset_ne (by omega), zset_ne (by omega), zset_ne (by omega), zset_ne (by omega), zset_ne (by omega), zset_ne (by omega)]
  have o : oRI B n m τ P 0 0 (zset g 121 25 (0, 0)) := ⟨hX.zf (by decide), ⟨(c0 0 (by decide)).trans e0, (c0 1 (by decide)).trans e1, (c0 2 (by decide)).trans e2, (c0 3 (by decide)).trans e3⟩, fun k hk => (n0 k).trans (hN k hk), zset_same, by decide⟩
  refine vP_loop (fun h' l => ∃ (o' : Option zV) (t : OT) (s i : Nat), l = [some (2, 121), some (0, (n : Int)), o'] ∧ oSp τ P t 0 i ∧ s = tS t ∧ rLay 2200 (P 0 0).toNat h' t 0 ∧ oRI B n m τ P s i h' ∧ roF (zset g 121 25 (0, 0)) h') ?_ N _ _ ⟨none, oNil, 0, 0, rfl, rfl, rfl, trivial, o, roF.rfl⟩
  rintro N h' l ⟨o', t, s, i, rfl, sp, es, ly, o, hF⟩ ih
  have o'' := o
  obtain ⟨hX', ⟨e0, e1, e2, e3⟩, hN', hs, bs⟩ := o''
  have cc0 : ∀ g', roF (zset g 121 25 (0, 0)) g' → ∀ j, j < 550 → g' 126 j = h 126 j := fun g' f' j hj => (f' 126 j (fun c => by omega)).trans (c0 j hj)
  refine vP_hv (fun hv => qr_ord28 hT hO n s o' hv hX' hs ⟨by omega, by omega⟩ ?_ ?_)
  · intro h0
    have hs4 : zset (zset (zset (zset h' 121 10 (0, 0)) 121 11 (0, -1)) 126 275 (0, 1)) 126 276 (0, (s : Int)) 121 25 = (0, (s : Int)) := by
      rw [zset_ne (by decide), zset_ne (by decide), zset_ne (by decide), zset_ne (by decide)]
      exact hs
    refine vP_loop (fun h'' l => ∃ x : Nat, l = [some (2, 121), some (0, (n : Int)), some (0, (x : Int))] ∧ x ≤ 9 * s ∧ (∀ a b, ¬ (a = 126 ∧ 277 ≤ b ∧ b < 547) → h'' a b = zset (zset (zset (zset h' 121 10 (0, 0)) 121 11 (0, -1)) 126 275 (0, 1)) 126 276 (0, (s : Int)) a b) ∧ ∀ j, j < x → h'' 126 (277 + j) = h'' 126 (2477 + j)) ?_ N _ _ ⟨0, rfl, by omega, fun _ _ _ => rfl, fun j hj => absurd hj (Nat.not_lt_zero _)⟩
    rintro N h'' l ⟨x, rfl, hx, hc, hcp⟩ ih2
    have hs5 : h'' 121 25 = (0, (s : Int)) := (hc 121 25 (fun c => by omega)).trans hs4
    refine vP_hv (fun hv2 => qr_ord82 hT hO n s x hv2 hs5 ⟨by omega, by omega⟩ ⟨by omega, by omega⟩ ?_ ?_)
    · intro c _ _ _ _
      refine ih2 _ _ ⟨x + 1, rfl, by omega, fun a b hn => ?_, fun j hj => ?_⟩
      · rw [zset_ne (fun c => hn (by omega))]
        exact hc a b hn
      · rw [zset_ne (r' := 126) (k' := 2477 + j) (fun c => by omega)]
        by_cases e : j = x
        · rw [zset_e (by omega), show (2477 + (x : Int)).toNat = 2477 + j from by omega]
          exact (hv2.eta (vc126 (by omega))).symm
        · rw [zset_ne (fun c => by omega)]
          exact hcp j (by omega)
    · intro c
      have hxe : x = 9 * s := by omega
      refine ⟨fun a b hn => ?_, Or.inr ⟨t, i, sp, h0, ?_, ?_, ?_, ?_⟩⟩
      · show h'' a b = h a b
        rw [hc a b (fun c => hn (by omega)), zset_ne (fun c => hn (by omega)), zset_ne (fun c => hn (by omega)), zset_ne (fun c => hn (by omega)), zset_ne (fun c => hn (by omega))]
        exact (f0.f hF) a b hn
      · rw [es]
      · exact (hc 126 275 (fun c => by omega)).trans ((zset_ne (by decide)).trans zset_same)
      · rw [← es]; exact (hc 126 276 (fun c => by omega)).trans zset_same
      · have q : ∀ e, 2477 ≤ e → h'' 126 e = h' 126 e := fun e he => by
          rw [hc 126 e (fun c => by omega), zset_ne (fun c => by omega), zset_ne (fun c => by omega), zset_ne (fun c => by omega), zset_ne (fun c => by omega)]
        have ly2 : rLay 2200 (P 0 0).toNat h'' t 0 := rLay.fr t ly (fun e h1 h2 => q e (by omega))
        exact rLay.mv t ly2 (fun e h1 h2 => hcp e (by omega))
  · intro h0
    have R := (rx_rs7 (D := D) hT hO (B := B) (n := n) (m := m) (τ := τ) hb N).1 h' s 0 i (by decide) o
    refine vP_Q (fun r hr => ?_) R
    obtain ⟨g2, v⟩ := r
    obtain ⟨h1, f2, h2⟩ := hr
    have h1 : v = none := h1
    subst h1
    refine vP_hv (fun hv => qr_ord47 hT hO n o' hv ?_)
    rcases h2 with ⟨e, a3⟩ | ⟨s2, i2, dc, y, a1, a2, a3, a4, a5⟩
    · refine vP_hv (fun hv => qr_ord28B hT hO n o' hv a3 ⟨fun a b hn => ?_, Or.inl ⟨rfl, fun j hj => ?_⟩⟩)
      · show zset (zset (zset g2 121 10 (0, e.1)) 121 11 (0, e.2)) 121 0 (0, 10) a b = h a b
        rw [zset_ne (fun c => hn (by omega)), zset_ne (fun c => hn (by omega)), zset_ne (fun c => hn (by omega))]
        exact (f0.f (hF.trans f2)) a b hn
      · show zset (zset (zset g2 121 10 (0, e.1)) 121 11 (0, e.2)) 121 0 (0, 10) 126 j = h 126 j
        rw [zset_ne (by omega), zset_ne (by omega), zset_ne (by omega)]
        exact cc0 _ (hF.trans f2) j hj
    · have a5 : ∀ e, e < 2477 + 9 * s → g2 126 e = h' 126 e := a5
      refine ih _ _ ⟨o', tA t (.branch dc y oNil), s2, i2, rfl, oSp_A t _ sp a3, ?_, rLay_A t _ (rLay.fr t ly (fun e h1 h2 => a5 e (by omega))) ?_, a1, hF.trans f2⟩
      · rw [tS_A]; omega
      · rw [Nat.zero_add, ← es]; exact a4
end
section
/-! orders(n) on both sides, with what they say -/
theorem orders_both7 {D : zD} {h h1 h2 : zH} {n v1 v2 : Int} {c : Nat} {P : PT} (hc : c = 24 ∨ c = 39) (e7 : h 0 7 = (2, (c : Int))) (hP : cP c P h) (hr : rP 0 P h) (hb : lB P) (hZ : lZ D h) (hZ1 : lZ D h1) (hR : lT h) (z1 : zRun D TLw 614 170 0 (h, zargs 0 [(2, 0), (0, n)], []) (h1, some (0, v1))) (f1 : aFr lM_170 h h1) (z2 : zRun D TLw 614 289 0 (h1, zargs 0 [(2, 121), (0, n)], []) (h2, some (0, v2))) (hn0 : 0 ≤ n) (hl : n ≤ (h 10 1).2) (h3 : n ≤ 300) (hv : v1 = v2) : rOG h1 h2 ∧ ((v1 = -1 ∧ (∀ a j, c + 10 ≤ a → a ≤ c + 14 → h1 a j = h a j) ∧ ∀ j, j < 550 → h2 126 j = h1 126 j) ∨ ∃ t : OT, oOk P t ∧ tS t ≤ 30 ∧ tN t ≤ 60 ∧ h1 (c + 10) 0 = (0, ((tN t : Nat) : Int)) ∧ h1 (c + 10) 1 = (0, ((tS t : Nat) : Int)) ∧ cLay c h1 t 0 ∧ h2 126 275 = (0, 1) ∧ h2 126 276 = (0, ((tS t : Nat) : Int)) ∧ rLay 0 (P 0 0).toNat h2 t 0) := by
  have b10 := hZ.b10
  have k1 : h1 121 8 = h 121 8 := f1.keep (S := tpR) (by decide +kernel) tpR_in
  have kr : tK (tR h1) (tR h) := tK_r f1 (by decide +kernel)
  have hR1 : (h 10 1).2 = (h 121 8).2 := hR.1
  obtain ⟨m', rfl⟩ : ∃ m' : Nat, n = (m' : Int) := ⟨n.toNat, by omega⟩
  have hn9 : m' ≤ 900 := by omega
  have bk : bK 0 0 h h1 := bK_fr f1 (by decide +kernel) (by decide)
  have hr1 := hr.tr hb bk
  have a1 : cOd7 c (lB2 h) m' P h (h1, some (0, v1)) := by
    rcases hc with rfl | rfl
    · exact hZ.run 3 z1 (Q := cOd7 24 (lB2 h) m' P h) (fun N => co7_ord_24 TLw_T vOK_T (hZ.tx hn9) hP hb e7 (by omega) (by omega))
    · exact hZ.run 3 z1 (Q := cOd7 39 (lB2 h) m' P h) (fun N => co7_ord_39 TLw_T vOK_T (hZ.tx hn9) hP hb e7 (by omega) (by omega))
  obtain ⟨m, τ, hK, hh⟩ := a1
  have a2 := hZ1.run 3 z2 (Q := rOd7 τ P h1) (fun N => rx_orders7 TLw_T vOK_T hb hr1.1.1 hr1.1.2.1 hr1.1.2.2.1 hr1.1.2.2.2 (fun k hk => by
    have w := (hr1.2.2 k hk).1
    rw [show 6 * 0 + k = k by omega] at w
    exact w) hK (hZ.tx hn9).1 (fun q hq => by
      rw [hZ1.bt q (by omega)]
      refine congrArg (Prod.mk (0 : Nat)) ?_
      have w := kr.2 q (by omega)
      exact w.trans (hR.2 q (by omega) (by show (q : Int) < (h 10 1).2; omega)).symm) (by rw [k1, ← hR1]; omega) (by omega))
  obtain ⟨fg, a2⟩ := a2
  refine ⟨fg, ?_⟩
  rcases hh with ⟨q1, q2⟩ | ⟨t, i, q1, q2, q3, q4, q5, q6, q7, q8⟩
  · have q1 : v1 = -1 := by cases (q1 : some ((0, v1) : zV) = some (0, -1)); rfl
    rcases a2 with ⟨p1, p2⟩ | ⟨t', i', p1, p2, p3, _⟩
    · exact Or.inl ⟨q1, q2, p2⟩
    · have p3 : v2 = ((tS t' : Nat) : Int) := by cases (p3 : some ((0, v2) : zV) = some (0, ((tS t' : Nat) : Int))); rfl
      omega
  · have q3 : v1 = ((tS t : Nat) : Int) := by cases (q3 : some ((0, v1) : zV) = some (0, ((tS t : Nat) : Int))); rfl
    rcases a2 with ⟨p1, _⟩ | ⟨t', i', p1, p2, p3, p4, p5, p6⟩
    · have p1 : v2 = -1 := by cases (p1 : some ((0, v2) : zV) = some (0, -1)); rfl
      omega
    · obtain ⟨rfl, _⟩ := oSp_u t t' q1 p1 (Or.inl q2) (Or.inl p2)
      exact Or.inr ⟨t, oSp_ok hb t q1, q4, q5, q6, q7, q8, p4, p5, p6⟩
theorem orders_out {D : zD} {h h1 h2 : zH} {n v1 v2 : Int} (hZ : lZ D h) (hZ1 : lZ D h1) (hR : lT h) (z1 : zRun D TLw 614 170 0 (h, zargs 0 [(2, 0), (0, n)], []) (h1, some (0, v1))) (f1 : aFr lM_170 h h1) (z2 : zRun D TLw 614 289 0 (h1, zargs 0 [(2, 121), (0, n)], []) (h2, some (0, v2))) (ho : ¬ (0 ≤ n ∧ n ≤ (h 10 1).2 ∧ n ≤ 300)) : h1 = zset h 0 0 (0, 5) ∧ (∀ a b, ¬ (a = 121 ∧ b ≤ 1) → h2 a b = h1 a b) := by
  have k1 : h1 121 8 = h 121 8 := f1.keep (S := tpR) (by decide +kernel) tpR_in
  have hR1 : (h 10 1).2 = (h 121 8).2 := hR.1
  have key : h1 = zset h 0 0 (0, 5) → (h2, some ((0, v2) : zV)) = (zset (zset (zset h1 121 1 (0, 0)) 121 0 (0, 0)) 121 0 (0, 5), some (0, -1)) → (h1 = zset h 0 0 (0, 5) ∧ (∀ a b, ¬ (a = 121 ∧ b ≤ 1) → h2 a b = h1 a b)) := fun q1 a2 => by
    have a2' : h2 = zset (zset (zset h1 121 1 (0, 0)) 121 0 (0, 0)) 121 0 (0, 5) := congrArg Prod.fst a2
    refine ⟨q1, fun a b hab => ?_⟩
    rw [a2', zset_ne (fun c => hab (by omega)), zset_ne (fun c => hab (by omega)), zset_ne (fun c => hab (by omega))]
  have kc : (h1, some ((0, v1) : zV)) = (zset h 0 0 (0, 5), some (0, -1)) → h1 = zset h 0 0 (0, 5) := fun a1 => congrArg Prod.fst a1
  by_cases hn : n < 0
  · exact key (kc (hZ.run 3 z1 (Q := fun x => x = (zset h 0 0 (0, 5), some (0, -1))) (fun N => vP_hv (fun hv => qc_ordx TLw_T vOK_T n hv hn rfl)))) (hZ1.run 3 z2 (Q := fun x => x = (zset (zset (zset h1 121 1 (0, 0)) 121 0 (0, 0)) 121 0 (0, 5), some (0, -1))) (fun N => vP_hv (fun hv => qr_ordx TLw_T vOK_T n hv hn rfl)))
  by_cases hl : (h 10 1).2 < n
  · exact key (kc (hZ.run 3 z1 (Q := fun x => x = (zset h 0 0 (0, 5), some (0, -1))) (fun N => vP_hv (fun hv => qc_ordy TLw_T vOK_T n hv (by omega) hl rfl)))) (hZ1.run 3 z2 (Q := fun x => x = (zset (zset (zset h1 121 1 (0, 0)) 121 0 (0, 0)) 121 0 (0, 5), some (0, -1))) (fun N => vP_hv (fun hv => qr_ordy TLw_T vOK_T n hv (by omega) (by rw [k1, ← hR1]; exact hl) rfl)))
  · exact key (kc (hZ.run 3 z1 (Q := fun x => x = (zset h 0 0 (0, 5), some (0, -1))) (fun N => vP_hv (fun hv => qc_ordz TLw_T vOK_T n hv (by omega) (by omega) (by omega) rfl)))) (hZ1.run 3 z2 (Q := fun x => x = (zset (zset (zset h1 121 1 (0, 0)) 121 0 (0, 0)) 121 0 (0, 5), some (0, -1))) (fun N => vP_hv (fun hv => qr_ordz TLw_T vOK_T n hv (by omega) (by rw [k1, ← hR1]; omega) (by omega) rfl)))
theorem rBk.tr5 {P : PT} {h h' : zH} (g : rBk 0 P h) (lb : lB P) (f : ∀ j, j < 275 → h' 126 j = h 126 j) : rBk 0 P h' := by
  obtain ⟨⟨a0, a1, a2, a3, a4⟩, b1, b2, b3⟩ := g
  refine ⟨⟨(f 0 (by decide)).trans a0, (f 1 (by decide)).trans a1, (f 2 (by decide)).trans a2, (f 3 (by decide)).trans a3, (f 4 (by decide)).trans a4⟩, fun q i => ?_, fun k q hk i => ?_, fun k hk => ?_⟩
  · have := gJ_lt lb i
    exact ⟨(f _ (by omega)).trans (b1 q i).1, (f _ (by omega)).trans (b1 q i).2⟩
  · have := gJ_lt lb i
    exact (f _ (by omega)).trans (b2 k _ hk i)
  · have := lb.2.2.2.2
    obtain ⟨c1, c2, c3, c4, c5⟩ := b3 k hk
    exact ⟨(f _ (by omega)).trans c1, (f _ (by omega)).trans c2, (f _ (by omega)).trans c3, (f _ (by omega)).trans c4, (f _ (by omega)).trans c5⟩
theorem cP.sh {c : Nat} {P P' : PT} {h : zH} (g : cP c P h) (g' : cP c P' h) : pSh P' P := by
  obtain ⟨⟨a0, a1, a2, a3, _⟩, _⟩ := g
  obtain ⟨⟨b0, b1, b2, b3, _⟩, _⟩ := g'
  exact ⟨congrArg Prod.snd (a0.symm.trans b0), congrArg Prod.snd (a1.symm.trans b1), congrArg Prod.snd (a2.symm.trans b2), congrArg Prod.snd (a3.symm.trans b3)⟩
theorem fRk_orders {D : zD} (hD : ∀ i, -2147483648 ≤ D.2 i ∧ D.2 i ≤ 2147483647) {h h1 h2 : zH} {n v1 v2 : Int} (hZ : lZ D h) (hZ1 : lZ D h1) (hR : fR h) (z1 : zRun D TLw 614 170 0 (h, zargs 0 [(2, 0), (0, n)], []) (h1, some (0, v1))) (f1 : aFr lM_170 h h1) (z2 : zRun D TLw 614 289 0 (h1, zargs 0 [(2, 121), (0, n)], []) (h2, some (0, v2))) (f2 : aFr lM_289 h1 h2) : fR h2 ∧ v1 = v2 := by
  have hR' := hR
  obtain ⟨hL0, hM, r, c, s1, s2, s3, hL⟩ := hR'
  have R0 := lRk_orders hD hZ hZ1 hL0 z1 f1 z2 f2
  refine ⟨⟨R0.1, ?_⟩, R0.2⟩
  have c2 := s1.c2
  have off : h1 = zset h 0 0 (0, 5) → (∀ a b, ¬ (a = 121 ∧ b ≤ 1) → h2 a b = h1 a b) → fX h2 := fun a3 a4 => by
    refine (hR.off (M := [(0, 0, 0), (121, 0, 1)]) (by decide +kernel) (fun a b hn => ?_)).2
    rw [a4 a b (fun e => hn ⟨(121, 0, 1), by decide, e.1.symm, Nat.zero_le _, e.2⟩), a3]
    exact zset_ne (fun e => hn ⟨(0, 0, 0), by decide, e.1.symm, Nat.zero_le _, Nat.le_of_eq e.2⟩)
  by_cases hn : 0 ≤ n ∧ n ≤ (h 10 1).2 ∧ n ≤ 300
  rotate_left
  · obtain ⟨a3, a4⟩ := orders_out hZ hZ1 hL0.1 z1 f1 z2 hn
    exact off a3 a4
  obtain ⟨n0, n1, n3⟩ := hn
  have hS : sLd c 0 h := by
    obtain ⟨_, _, _, rr', cc', t1, t2, t3, u⟩ := hL0
    have ec : cc' = c := by
      rw [s2] at t2
      have := congrArg Prod.snd t2
      have : (c : Int) = (cc' : Int) := this
      omega
    rw [← ec]
    exact u
  obtain ⟨P', u1, u2, u3, _⟩ := hS.full hZ.hv s1.ob
  have hc : ∀ c, cOb c → cKf c c h1 h2 := fun c hc => cKf_S (fun a k hi => f2.keep (by decide +kernel) hi) hc
  have hb : ∀ b, b < 4 → bKf (550 * b) (550 * b) h h1 := fun b hb => bKf_S (fun a k hi => f1.keep (by decide +kernel) hi) hb
  have k1 : ∀ a k, aIn [(0, 7, 8), (0, 10, 10)] a k → h1 a k = h a k := fun a k hi => f1.keep (S := [(0, 7, 8), (0, 10, 10)]) (by decide +kernel) hi
  have k2 : ∀ a k, aIn [(0, 7, 8), (0, 10, 10)] a k → h2 a k = h1 a k := fun a k hi => f2.keep (S := [(0, 7, 8), (0, 10, 10)]) (by decide +kernel) hi
  have e7 : h2 0 7 = h 0 7 := (k2 0 7 ⟨(0, 7, 8), by decide, rfl, by decide, by decide⟩).trans (k1 0 7 ⟨(0, 7, 8), by decide, rfl, by decide, by decide⟩)
  have e8 : h2 0 8 = h 0 8 := (k2 0 8 ⟨(0, 7, 8), by decide, rfl, by decide, by decide⟩).trans (k1 0 8 ⟨(0, 7, 8), by decide, rfl, by decide, by decide⟩)
  have e10 : h2 0 10 = h 0 10 := (k2 0 10 ⟨(0, 10, 10), by decide, rfl, by decide, by decide⟩).trans (k1 0 10 ⟨(0, 10, 10), by decide, rfl, by decide, by decide⟩)
  have j14 : ∀ {j k : Nat}, cJ j k → j ≤ 14 := fun hj => by
    unfold cJ at hj
    omega
  rcases orders_both c2 s2 u1 u2 u3 hZ hZ1 hL0.1 z1 f1 z2 with ⟨a1, a2, a3, a4⟩ | ⟨lf, _, _⟩
  · exact off a3 a4
  · obtain ⟨lg, hh7⟩ := orders_both7 c2 s2 u1 u2 u3 hZ hZ1 hL0.1 z1 f1 z2 n0 n1 n3 R0.2
    have lm : ∀ m, m < 3 → cKf (55 + 15 * m) (55 + 15 * m) h h2 := fun m hm => by
      refine cKf.trans (fun j k hj => lf _ _ ?_) (hc _ (mOb hm))
      have := j14 hj
      rcases c2 with rfl | rfl <;> omega
    have bm : ∀ m, m < 3 → bKf (550 * (m + 1)) (550 * (m + 1)) h h2 := fun m hm => (hb _ (by omega)).trans (fun j hj => lg _ _ (fun c => by omega))
    have mk : fMk h2 := fun m hm hq => by
      rw [e10] at hq
      exact (hM m hm hq).tr (lm m hm) (bm m hm)
    have ho := hc c s1.ob
    have lo : ∀ a b, c ≤ a → a ≤ c + 9 → h1 a b = h a b := fun a b h1 h2 => lf _ _ (by rcases c2 with rfl | rfl <;> omega)
    rcases hh7 with ⟨b1, b2, b3⟩ | ⟨t, b1, b2, b3, b4, b5, b6, b7, b8, b9⟩
    · refine ⟨mk, r, c, s1, e7.trans s2, e8.trans s3, hL.tr (cKf.trans (fun j k hj => ?_) ho) ((hb 0 (by decide)).trans (fun j hj => ?_))⟩
      · by_cases q : 10 ≤ j
        · exact b2 _ _ (by omega) (by have := j14 hj; omega)
        · exact lo _ _ (by omega) (by omega)
      · rw [show 550 * 0 + j = j from by omega]
        exact b3 j (by omega)
    · obtain ⟨P, g1, g2, g3, g4, g5⟩ := hL
      have sh := cP.sh g1 u1
      refine ⟨mk, r, c, s1, e7.trans s2, e8.trans s3, P, (g1.eq lo).tr g3.1.2.2.2.2 ho, ?_, g3, g4, Or.inr ⟨t, sh.ok b1, b2, b3, (ho 10 0 (by unfold cJ; omega)).trans b4, (ho 10 1 (by unfold cJ; omega)).trans b5, b6.tr (fun j k h1 h2 h3 => ho j k (by unfold cJ; omega)) (by omega), b7, b8, ?_⟩⟩
      · refine g2.tr5 g3.1 (fun j hj => (lg 126 j (fun c => by omega)).trans ?_)
        have := hb 0 (by decide) j (by omega)
        rw [show 550 * 0 + j = j from by omega] at this
        exact this
      · rw [sh.1]
        exact b9
/-! feed: the tape alone -/
abbrev fxS : aM := fz0 ++ (cAf ++ bAf)
theorem fX_K {h h' : zH} (he : ∀ a k, aIn fxS a k → h' a k = h a k) (g : fX h) : fX h' := by
  obtain ⟨hM, r, c, s1, s2, s3, hL⟩ := g
  have hc : ∀ a k, aIn cAf a k → h' a k = h a k := fun a k hi => he a k (aIn_r (aIn_l hi))
  have hb : ∀ a k, aIn bAf a k → h' a k = h a k := fun a k hi => he a k (aIn_r (aIn_r hi))
  have h0 : ∀ a k, aIn fz0 a k → h' a k = h a k := fun a k hi => he a k (aIn_l hi)
  refine ⟨fun m hm hq => ?_, r, c, s1, (h0 _ _ ⟨(0, 7, 8), by decide, rfl, by decide, by decide⟩).trans s2, (h0 _ _ ⟨(0, 7, 8), by decide, rfl, by decide, by decide⟩).trans s3, hL.tr (cKf_S hc s1.ob) (bKf_S hb (b := 0) (by decide))⟩
  rw [h0 0 10 ⟨(0, 10, 10), by decide, rfl, by decide, by decide⟩] at hq
  exact (hM m hm hq).tr (cKf_S hc (mOb hm)) (bKf_S hb (by omega))
theorem fRk_feed {D : zD} (hD : ∀ i, -2147483648 ≤ D.2 i ∧ D.2 i ≤ 2147483647) {h h1 h2 : zH} {a b c d e v1 v2 : Int} (hZ : lZ D h) (hZ1 : lZ D h1) (hR : fR h) (z1 : zRun D TLw 614 155 0 (h, zargs 0 [(2, 0), (0, a), (0, b), (0, c), (0, d), (0, e)], []) (h1, some (0, v1))) (f1 : aFr lM_155 h h1) (z2 : zRun D TLw 614 227 0 (h1, zargs 0 [(2, 121), (0, a), (0, b), (0, c), (0, d), (0, e)], []) (h2, some (0, v2))) (f2 : aFr lM_227 h1 h2) : fR h2 ∧ v1 = v2 := by
  have R0 := lRk_feed hD hZ hZ1 hR.1 z1 f1 z2 f2
  exact ⟨⟨R0.1, fX_K (fun a k hi => (f2.keep (by decide +kernel) hi).trans (f1.keep (by decide +kernel) hi)) hR.2⟩, R0.2⟩
end
section
/-! ANSWERS OF THE CALLS THAT CHANGE NOTHING, PURE -/
noncomputable def bsV (P : PT) (x : Int) : Int := if okM P x then yCost P (gCg P) (P 6 x.toNat).toNat (P 7 x.toNat).toNat else -1
/-- the CRUMBS left -/
def mF (P : PT) (j q : Nat) : Nat := if P 3 (48 * j + q) = 1 then 0 else (gCr P q).toNat
theorem qt_best0_24 {D : zD} {T : zT} (hT : hTab T) (hO : vOK T) {N : Nat} {h : zH} {Q : zR → Prop} {P : PT} (x : Int) (hv0 : zHv h) (e7 : h 0 7 = (2, 24)) (p0 : h 24 0 = (0, P 0 0)) (p1 : h 24 1 = (0, P 0 1)) (p2 : h 24 2 = (0, P 0 2)) (p3 : h 24 3 = (0, P 0 3)) (lb : (0 ≤ P 0 0 ∧ P 0 0 ≤ 8) ∧ (0 ≤ P 0 1 ∧ P 0 1 ≤ 6) ∧ (0 ≤ P 0 2 ∧ P 0 2 ≤ 3) ∧ (0 ≤ P 0 3 ∧ P 0 3 ≤ 6))
    (k0 : (x < 0) → Q (zset h 0 0 (0, 2), some (0, -1)))
    (k1 : (0 ≤ x) → (x < (P 0 3)) → vP D T N 145 17 h [some (2, 0), some (0, x), none] [] Q)
    (k2 : (0 ≤ x) → ((P 0 3) ≤ x) → Q (zset h 0 0 (0, 2), some (0, -1))) :
    vP D T N 145 0 h [some (2, 0), some (0, x), none] [] Q := by
  refine v_load (v := (2, 0)) (hz_X11_best hT _ _ rfl) rfl rfl ?_
  refine v_getf (v := (2, 24)) (r := 0) (hz_X11_best hT _ _ rfl) rfl rfl (fun _ => e7) ?_
  refine v_load (v := (0, x)) (hz_X11_best hT _ _ rfl) rfl rfl ?_
  refine v_call (w := 2) [some (2, 24), some (0, x)] hO (hz_X11_best hT _ _ rfl) rfl rfl ?_
  refine v_load (v := (0, x)) (hi_X2_hasCompany_0 hT) rfl rfl ?_
  refine v_if (hi_X2_hasCompany_1 hT) (fun hc1 => ?_) (fun hc1 => ?_)
  · have hc1 : x < 0 := hc1
    refine v_push (0) (hi_X2_hasCompany_16 hT) rfl ?_
    refine v_ret (hi_X2_hasCompany_17 hT) (Or.inl rfl) ?_
    show vP D T N 145 8 h [some (2, 0), some (0, x), none] [(0, 0)] _
    refine v_if (hi_X11_best_8 hT) (fun _ => ?_) (fun hc2 => absurd (show (0 : Int) = 0 from (by decide)) hc2)
    refine v_load (v := (2, 0)) (hi_X11_best_11 hT) rfl rfl ?_
    refine v_push (2) (hi_X11_best_12 hT) rfl ?_
    refine v_call (w := 2) [some (2, 0), some (0, 2)] hO (hi_X11_best_13 hT) rfl rfl ?_
    refine v_load (v := (2, 0)) (hi_X11_refused_0 hT) rfl rfl ?_
    refine v_load (v := (0, 2)) (hi_X11_refused_1 hT) rfl rfl ?_
    refine v_putf (r := 0) hO (hi_X11_refused_2 hT) rfl (fun hf3 => ?_)
    refine v_push (-1) (hi_X11_refused_5 hT) rfl ?_
    refine v_ret (hi_X11_refused_6 hT) (Or.inl rfl) ?_
    show vP D T N 145 16 (zset h 0 0 (0, 2)) [some (2, 0), some (0, x), none] [(0, -1)] _
    refine v_ret (hi_X11_best_16 hT) (Or.inl rfl) ?_
    exact k0 hc1
  · have hc1 : 0 ≤ x := Int.not_lt.mp hc1
    refine v_load (v := (0, x)) (hi_X2_hasCompany_4 hT) rfl rfl ?_
    refine v_load (v := (2, 24)) (hi_X2_hasCompany_5 hT) rfl rfl ?_
    refine v_getf (v := (0, (P 0 3))) (r := 24) (hi_X2_hasCompany_6 hT) rfl rfl (fun _ => p3) ?_
    refine v_ic (hi_X2_hasCompany_9 hT) (fun hc4 => ?_) (fun hc4 => ?_)
    · have hc4 : x < (P 0 3) := hc4
      refine v_push (1) (hi_X2_hasCompany_12 hT) rfl ?_
      refine v_goto (hi_X2_hasCompany_13 hT) ?_
      refine v_ret (hi_X2_hasCompany_17 hT) (Or.inl rfl) ?_
      show vP D T N 145 8 h [some (2, 0), some (0, x), none] [(0, 1)] _
      refine v_if (hi_X11_best_8 hT) (fun hc5 => absurd (show (1 : Int) = 0 from hc5) (by decide)) (fun _ => ?_)
      exact k1 hc1 hc4
    · have hc4 : (P 0 3) ≤ x := Int.not_lt.mp hc4
      refine v_push (0) (hi_X2_hasCompany_16 hT) rfl ?_
      refine v_ret (hi_X2_hasCompany_17 hT) (Or.inl rfl) ?_
      show vP D T N 145 8 h [some (2, 0), some (0, x), none] [(0, 0)] _
      refine v_if (hi_X11_best_8 hT) (fun _ => ?_) (fun hc6 => absurd (show (0 : Int) = 0 from (by decide)) hc6)
      refine v_load (v := (2, 0)) (hi_X11_best_11 hT) rfl rfl ?_
      refine v_push (2) (hi_X11_best_12 hT) rfl ?_
      refine v_call (w := 2) [some (2, 0), some (0, 2)] hO (hi_X11_best_13 hT) rfl rfl ?_
      refine v_load (v := (2, 0)) (hi_X11_refused_0 hT) rfl rfl ?_
      refine v_load (v := (0, 2)) (hi_X11_refused_1 hT) rfl rfl ?_
      refine v_putf (r := 0) hO (hi_X11_refused_2 hT) rfl (fun hf7 => ?_)
      refine v_push (-1) (hi_X11_refused_5 hT) rfl ?_
      refine v_ret (hi_X11_refused_6 hT) (Or.inl rfl) ?_
      show vP D T N 145 16 (zset h 0 0 (0, 2)) [some (2, 0), some (0, x), none] [(0, -1)] _
      refine v_ret (hi_X11_best_16 hT) (Or.inl rfl) ?_
      exact k2 hc1 hc4
theorem qt_best57 {D : zD} {T : zT} (hT : hTab T) (hO : vOK T) {N : Nat} {h : zH} {Q : zR → Prop} {a : Nat} (w : Int) (hv0 : zHv h)
    (k0 : (w = -1) → Q (zset h 0 0 (0, 9), some (0, -1)))
    (k1 : (w ≠ -1) → Q (zset h 0 0 (0, 0), some (0, w))) :
    vP D T N 145 57 h [some (2, 0), some (0, (a : Int)), none] [(0, w)] Q := by
  refine v_store1 [some (2, 0), some (0, (a : Int)), some (0, w)] (hz_X11_best hT _ _ rfl) ⟨rfl, Nat.ne_of_beq_eq_false rfl⟩ (Nat.le_of_ble_eq_true rfl) rfl ?_
  refine v_load (v := (0, w)) (hz_X11_best hT _ _ rfl) rfl rfl ?_
  refine v_push (-1) (hz_X11_best hT _ _ rfl) rfl ?_
  refine v_ic (hz_X11_best hT _ _ rfl) (fun hc1 => ?_) (fun hc1 => ?_)
  · have hc1 : w = -1 := hc1
    refine v_load (v := (2, 0)) (hz_X11_best hT _ _ rfl) rfl rfl ?_
    refine v_push (9) (hz_X11_best hT _ _ rfl) rfl ?_
    refine v_call (w := 2) [some (2, 0), some (0, 9)] hO (hz_X11_best hT _ _ rfl) rfl rfl ?_
    refine v_load (v := (2, 0)) (hi_X11_refused_0 hT) rfl rfl ?_
    refine v_load (v := (0, 9)) (hi_X11_refused_1 hT) rfl rfl ?_
    refine v_putf (r := 0) hO (hi_X11_refused_2 hT) rfl (fun hf2 => ?_)
    refine v_push (-1) (hi_X11_refused_5 hT) rfl ?_
    refine v_ret (hi_X11_refused_6 hT) (Or.inl rfl) ?_
    show vP D T N 145 69 (zset h 0 0 (0, 9)) [some (2, 0), some (0, (a : Int)), some (0, w)] [(0, -1)] _
    refine v_goto (hz_X11_best hT _ _ rfl) ?_
    refine v_ret (hz_X11_best hT _ _ rfl) (Or.inl rfl) ?_
    exact k0 hc1
  · have hc1 : w ≠ -1 := hc1
    refine v_load (v := (2, 0)) (hz_X11_best hT _ _ rfl) rfl rfl ?_
    refine v_load (v := (0, w)) (hz_X11_best hT _ _ rfl) rfl rfl ?_
    refine v_call (w := 2) [some (2, 0), some (0, w)] hO (hz_X11_best hT _ _ rfl) rfl rfl ?_
    refine v_load (v := (2, 0)) (hi_X11_answer_0 hT) rfl rfl ?_
    refine v_push (0) (hi_X11_answer_1 hT) rfl ?_
    refine v_putf (r := 0) hO (hi_X11_answer_2 hT) rfl (fun hf3 => ?_)
    refine v_load (v := (0, w)) (hi_X11_answer_5 hT) rfl rfl ?_
    refine v_ret (hi_X11_answer_6 hT) (Or.inl rfl) ?_
    show vP D T N 145 77 (zset h 0 0 (0, 0)) [some (2, 0), some (0, (a : Int)), some (0, w)] [(0, w)] _
    refine v_ret (hz_X11_best hT _ _ rfl) (Or.inl rfl) ?_
    exact k1 hc1
theorem qt_best17_24 {D : zD} {T : zT} (hT : hTab T) (hO : vOK T) {N : Nat} {h : zH} {Q : zR → Prop} {a : Nat} (hv0 : zHv h) (e7 : h 0 7 = (2, 24))
    (k0 : vP D T N 135 0 h [some (2, 100), some (2, 24), none] [] (fun r1 => vP D T N 145 28 r1.1 [some (2, 0), some (0, (a : Int)), none] (zpush r1.2 []) Q)) :
    vP D T N 145 17 h [some (2, 0), some (0, (a : Int)), none] [] Q := by
  refine v_load (v := (2, 0)) (hz_X11_best hT _ _ rfl) rfl rfl ?_
  refine v_getR (c := 100) (r := 0) (hz_X11_best hT _ _ rfl) rfl rfl rfl ?_
  refine v_load (v := (2, 0)) (hz_X11_best hT _ _ rfl) rfl rfl ?_
  refine v_getf (v := (2, 24)) (r := 0) (hz_X11_best hT _ _ rfl) rfl rfl (fun _ => e7) ?_
  refine v_call (w := 3) [some (2, 100), some (2, 24), none] hO (hz_X11_best hT _ _ rfl) rfl rfl ?_
  exact k0 
theorem qt_best28_24 {D : zD} {T : zT} (hT : hTab T) (hO : vOK T) {N : Nat} {h : zH} {Q : zR → Prop} {P : PT} {a : Nat} (hv0 : zHv h) (e7 : h 0 7 = (2, 24)) (ha : a < 6) (s6 : h 30 a = (0, P 6 a)) (s7 : h 31 a = (0, P 7 a))
    (k0 : (0 ≤ (a : Int)) → ((a : Int) < 6) → vP D T N 136 0 h [some (2, 100), some (2, 24), some (0, (P 6 a)), some (0, (P 7 a)), none, none, none, none, none] [] (fun r1 => vP D T N 145 57 r1.1 [some (2, 0), some (0, (a : Int)), none] (zpush r1.2 []) Q)) :
    vP D T N 145 28 h [some (2, 0), some (0, (a : Int)), none] [] Q := by
  refine v_load (v := (2, 0)) (hz_X11_best hT _ _ rfl) rfl rfl ?_
  refine v_getR (c := 100) (r := 0) (hz_X11_best hT _ _ rfl) rfl rfl rfl ?_
  refine v_load (v := (2, 0)) (hz_X11_best hT _ _ rfl) rfl rfl ?_
  refine v_getf (v := (2, 24)) (r := 0) (hz_X11_best hT _ _ rfl) rfl rfl (fun _ => e7) ?_
  refine v_load (v := (2, 0)) (hz_X11_best hT _ _ rfl) rfl rfl ?_
  refine v_getf (v := (2, 24)) (r := 0) (hz_X11_best hT _ _ rfl) rfl rfl (fun _ => e7) ?_
  refine v_getR (c := 30) (r := 24) (hz_X11_best hT _ _ rfl) rfl rfl rfl ?_
  refine v_load (v := (0, (a : Int))) (hz_X11_best hT _ _ rfl) rfl rfl ?_
  refine v_aldB (t := 0) (r := 30) (w := (P 6 a)) (hz_X11_best hT _ _ rfl) rfl rfl rfl (fun _ _ => (congrArg Prod.snd s6)) (fun ha1 hb2 => ?_)
  refine v_load (v := (2, 0)) (hz_X11_best hT _ _ rfl) rfl rfl ?_
  refine v_getf (v := (2, 24)) (r := 0) (hz_X11_best hT _ _ rfl) rfl rfl (fun _ => e7) ?_
  refine v_getR (c := 31) (r := 24) (hz_X11_best hT _ _ rfl) rfl rfl rfl ?_
  refine v_load (v := (0, (a : Int))) (hz_X11_best hT _ _ rfl) rfl rfl ?_
  refine v_aldB (t := 0) (r := 31) (w := (P 7 a)) (hz_X11_best hT _ _ rfl) rfl rfl rfl (fun _ _ => (congrArg Prod.snd s7)) (fun ha3 hb4 => ?_)
  refine v_call (w := 9) [some (2, 100), some (2, 24), some (0, (P 6 a)), some (0, (P 7 a)), none, none, none, none, none] hO (hz_X11_best hT _ _ rfl) rfl rfl ?_
  exact k0 ha1 hb2
section CA_24
variable {D : zD} {T : zT} {N : Nat} {h : zH} {P : PT}
theorem cq_best_24 (hT : hTab T) (hO : vOK T) (hP : cP 24 P h) (hb : fB P) (e7 : h 0 7 = (2, 24)) (x : Int) : vP D T N 145 0 h [some (2, 0), some (0, x), none] [] (fun r => r.2 = some (0, bsV P x)) := by
  have lb := hb.1
  have l6 := lb.2.2.2.2
  have no : ¬ okM P x → (some ((0, -1) : zV)) = some (0, bsV P x) := fun c => by
    unfold bsV
    rw [if_neg c]
  refine vP_hv (fun hv => qt_best0_24 (P := P) hT hO x hv e7 hP.1.1 hP.1.2.1 hP.1.2.2.1 hP.1.2.2.2.1 lb ?k0 ?k1 ?k2)
  case k1 =>
    intro c1 c2
    obtain ⟨a, rfl⟩ : ∃ a : Nat, x = (a : Int) := ⟨x.toNat, by omega⟩
    have e2 : bsV P (a : Int) = yCost P (gCg P) (P 6 a).toNat (P 7 a).toNat := if_pos ⟨c1, c2⟩
    rw [e2]
    obtain ⟨_, ⟨b6, g6⟩, ⟨b7, g7⟩, _⟩ := hb.2.2.2 a c2
    refine vP_hv (fun hv => qt_best17_24 hT hO hv e7 ?_)
    refine cx_lg_24 hT hO hP hb (fun g u1 u2 => ?_)
    show vP D T N 145 28 g [some (2, 0), some (0, (a : Int)), none] [] _
    have hP1 : cP 24 P g := hP.eq (fun i k h1 h2 => u2 i k (by omega))
    refine vP_hv (fun hv => qt_best28_24 hT hO hv ((u2 0 7 (by omega)).trans e7) (by omega) (hP1.a6 a c2) (hP1.a7 a c2) (fun _ _ => ?_))
    refine cx_me_24 hT hO _ _ (P 6 a).toNat (P 7 a).toNat (by omega) (by omega) lb hP1.1.1 hP1.1.2.1 u1 (fun i hi => gCg_b hb hi) g6 g7 (dW_ok (P := P) (co := gCg P) (to := (P 7 a).toNat)) ?_
    intro g2 f v1 v2 v3 v4 v5
    show vP D T N 145 57 g2 [some (2, 0), some (0, (a : Int)), none] [(0, yCost P (gCg P) (P 6 a).toNat (P 7 a).toNat)] _
    exact vP_hv (fun hv => qt_best57 hT hO _ hv (fun e => by rw [e]) (fun _ => rfl))
  all_goals
    intros
    exact no (by rintro ⟨o1, o2⟩; omega)
end CA_24
end
