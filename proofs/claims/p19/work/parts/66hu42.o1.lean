/-! ORDERS WITH WHAT THEY SAY: an item's numbers, what tokens spell, and how it comes to lie in rows -/
theorem pCell_bd {τ : PT} {w r : Int} {i : Nat} {a : Int × Int × Nat} (h : pCell τ w r i = .inr a) : (0 ≤ a.1 ∧ a.1 ≤ w - 1) ∧ 0 ≤ a.2.1 ∧ a.2.1 ≤ r - 1 := by
  obtain ⟨b, h1, h⟩ := eb_i h
  obtain ⟨c, h2, h⟩ := eb_i h
  cases h
  exact ⟨pNum_bd (x := b.1) (j := b.2) h1, pNum_bd (x := c.1) (j := c.2) h2⟩
theorem oArV_ok {τ P : PT} (lb : lB P) {w : Int} {i : Nat} {v : Int × Int × Nat} (h : oArV τ P w i = .inr v) : 0 ≤ v.1 ∧ v.1 < 128 ∧ 0 ≤ v.2.1 ∧ oIt P w.toNat v.1.toNat v.2.1.toNat := by
  obtain ⟨⟨w0, w8⟩, ⟨r0, r6⟩, ⟨c0, c3⟩, m0, m6⟩ := lb
  unfold oArV at h
  unfold oIt
  by_cases c1 : w = 8 ∨ w = 10 ∨ w = 16
  · rw [if_pos c1] at h
    obtain ⟨a, h1, h⟩ := eb_i h
    obtain ⟨b, h2, h⟩ := eb_i h
    obtain ⟨c, h3, h⟩ := eb_i h
    cases h
    have e1 := pNum_bd (x := a.1) (j := a.2) h1
    have e3 := pCell_bd h3
    refine ⟨by dsimp only; omega, by dsimp only; omega, by dsimp only; omega, fun _ => ⟨by dsimp only; omega, ?_⟩, fun c => by omega, fun c => by omega, fun c => by omega, fun c => by omega, fun c => by omega, fun c => by omega⟩
    unfold gIn
    dsimp only
    omega
  rw [if_neg c1] at h
  by_cases c2 : w = 9
  · rw [if_pos c2] at h
    obtain ⟨a, h1, h⟩ := eb_i h
    cases h
    have e1 := pNum_bd (x := a.1) (j := a.2) h1
    exact ⟨by dsimp only; omega, by dsimp only; omega, by dsimp only; omega, fun c => by omega, fun _ => by dsimp only; omega, fun c => by omega, fun c => by omega, fun c => by omega, fun c => by omega, fun c => by omega⟩
  rw [if_neg c2] at h
  by_cases c3 : w = 11
  · rw [if_pos c3] at h
    obtain ⟨a, h1, h⟩ := eb_i h
    obtain ⟨b, h2, h⟩ := eb_i h
    obtain ⟨c, h3, h⟩ := eb_i h
    cases h
    have e1 := pNum_bd (x := a.1) (j := a.2) h1
    have e3 := pNum_bd (x := c.1) (j := c.2) h3
    exact ⟨by dsimp only; omega, by dsimp only; omega, by dsimp only; omega, fun c => by omega, fun _ => by omega, fun c => by dsimp only; omega, fun c => by omega, fun c => by omega, fun c => by omega, fun c => by omega⟩
  rw [if_neg c3] at h
  by_cases c4 : w = 12
  · rw [if_pos c4] at h
    obtain ⟨a, h1, h⟩ := eb_i h
    obtain ⟨b, h2, h⟩ := eb_i h
    obtain ⟨c, h3, h⟩ := eb_i h
    cases h
    have e1 := pNum_bd (x := a.1) (j := a.2) h1
    have e3 := pNum_bd (x := c.1) (j := c.2) h3
    exact ⟨by dsimp only; omega, by dsimp only; omega, by dsimp only; omega, fun c => by omega, fun _ => by omega, fun c => by omega, fun c => by dsimp only; omega, fun c => by omega, fun c => by omega, fun c => by omega⟩
  rw [if_neg c4] at h
  by_cases c5 : w = 13 ∨ w = 17
  · rw [if_pos c5] at h
    obtain ⟨a, h1, h⟩ := eb_i h
    cases h
    unfold pNm at h1
    by_cases d1 : bN τ i ≠ 0
    · rw [if_pos d1] at h1
      by_cases d2 : pIx (P 4) (τ 4 i) (P 0 3).toNat 0 ≠ -1
      · rw [if_pos d2] at h1
        cases h1
        have e1 := pIx_bq d2
        exact ⟨by dsimp only; omega, by dsimp only; omega, by dsimp only; omega, fun c => by omega, fun _ => by omega, fun c => by omega, fun c => by omega, fun c => by dsimp only; omega, fun c => by omega, fun c => by omega⟩
      · rw [if_neg d2] at h1; cases h1
    · rw [if_neg d1] at h1; cases h1
  rw [if_neg c5] at h
  by_cases c6 : w = 19
  · rw [if_pos c6] at h
    obtain ⟨a, h1, h⟩ := eb_i h
    cases h
    have e1 := pNum_bd (x := a.1) (j := a.2) h1
    exact ⟨by dsimp only; omega, by dsimp only; omega, by dsimp only; omega, fun c => by omega, fun c => by omega, fun c => by omega, fun c => by omega, fun c => by omega, fun _ => by dsimp only; omega, fun c => by omega⟩
  rw [if_neg c6] at h
  by_cases c7 : w = 18
  · rw [if_pos c7] at h
    obtain ⟨a, h1, h⟩ := eb_i h
    obtain ⟨b, h2, h⟩ := eb_i h
    cases h
    have e2 := pNum_bd (x := b.1) (j := b.2) h2
    unfold pCm at h1
    by_cases d1 : τ 0 i = 3 ∧ iC (τ 3 i) ≠ 0
    · rw [if_pos d1] at h1
      cases h1
      have e1 := iC_b d1.2
      exact ⟨by dsimp only; omega, by dsimp only; omega, by dsimp only; omega, fun c => by omega, fun c => by omega, fun c => by omega, fun c => by omega, fun c => by omega, fun c => by omega, fun _ => by dsimp only; omega⟩
    · rw [if_neg d1] at h1; cases h1
  rw [if_neg c7] at h
  cases h
  exact ⟨by dsimp only; omega, by dsimp only; omega, by dsimp only; omega, fun c => by omega, fun c => by omega, fun c => by omega, fun c => by omega, fun c => by omega, fun c => by omega, fun c => by omega⟩
theorem pStep_V {τ P : PT} {s d i s' d' i' : Nat} (h : pStep τ P s d i = .inr (s', d', i')) (hE : bW τ 20 i = 0) : 0 ≤ swd τ i ∧ (τ 3 i = 15 → 0 ≤ twd τ (i + 1)) ∧ ∃ K u v j, pItV τ P i = .inr (K, u, v, j) ∧ pSg τ 59 j = .inr i' := by
  unfold pStep at h
  rw [if_neg (fun c => c hE)] at h
  by_cases c2 : swd τ i < 0
  · rw [if_pos c2] at h; cases h
  · rw [if_neg c2] at h
    by_cases c3 : 30 ≤ s
    · rw [if_pos c3] at h; cases h
    · rw [if_neg c3] at h
      by_cases c4 : opW (τ 3 i) = true ∧ 3 ≤ d
      · rw [if_pos c4] at h; cases h
      · rw [if_neg c4] at h
        obtain ⟨a, h1, h⟩ := eb_i h
        obtain ⟨b, h2, h⟩ := eb_i h
        cases h
        refine ⟨by omega, fun c5 => ?_, ?_⟩
        · rw [if_pos c5] at h1
          by_cases c6 : twd τ (i + 1) < 0
          · rw [if_pos c6] at h1; cases h1
          · omega
        · unfold pItV
          by_cases c5 : τ 3 i = 15
          · rw [if_pos c5] at h1 ⊢
            by_cases c6 : twd τ (i + 1) < 0
            · rw [if_pos c6] at h1; cases h1
            · rw [if_neg c6, oArg_V] at h1
              obtain ⟨v, e1, e2⟩ := eb_i h1
              cases e2
              exact ⟨_, v.1, v.2.1, v.2.2, by rw [e1, eb_r], h2⟩
          · rw [if_neg c5] at h1 ⊢
            rw [oArg_V] at h1
            obtain ⟨v, e1, e2⟩ := eb_i h1
            cases e2
            exact ⟨_, v.1, v.2.1, v.2.2, by rw [e1, eb_r], h2⟩
/-- the tokens from i to i1 are an item, its ';' with it -/
def oTk (τ P : PT) (i d i1 : Nat) : Prop := 0 ≤ swd τ i ∧ (τ 3 i = 15 → 0 ≤ twd τ (i + 1)) ∧ ∃ K u v j, pItV τ P i = .inr (K, u, v, j) ∧ pSg τ 59 j = .inr i1 ∧ d = oE K.toNat u.toNat v.toNat
theorem oTk_u {τ P : PT} {i d d' i1 i2 : Nat} (h : oTk τ P i d i1) (h' : oTk τ P i d' i2) : d = d' ∧ i1 = i2 := by
  obtain ⟨_, _, K, u, v, j, q1, q2, rfl⟩ := h
  obtain ⟨_, _, K', u', v', j', p1, p2, rfl⟩ := h'
  rw [q1] at p1
  cases p1
  rw [q2] at p2
  cases p2
  exact ⟨rfl, rfl⟩
def oT (τ : PT) (j : Nat) : Prop := τ 0 j = 0 ∨ bW τ 20 j ≠ 0
theorem oTk_T {τ P : PT} {i d i1 : Nat} (h : oTk τ P i d i1) (e : oT τ i) : False := by
  obtain ⟨a, b⟩ := swd_ge.mp h.1
  rcases e with e | e
  · omega
  · have := (bW_y.mp e).2
    omega
/-- what is known of an item's numbers -/
theorem oTk_k {τ P : PT} (lb : lB P) {i d i1 : Nat} {K u v : Int} {j : Nat} (h : 0 ≤ swd τ i) (h' : τ 3 i = 15 → 0 ≤ twd τ (i + 1)) (q : pItV τ P i = .inr (K, u, v, j)) : ∃ k a b : Nat, K = (k : Int) ∧ u = (a : Int) ∧ v = (b : Int) ∧ oD (oE k a b) k a b ∧ ((8 ≤ k ∧ k ≤ 14) ∨ (16 ≤ k ∧ k ≤ 19) ∨ k = 21) ∧ (opW (τ 3 i) = true ↔ 16 ≤ k ∧ k ≤ 19) ∧ oIt P k a b := by
  obtain ⟨s1, s2⟩ := swd_ge.mp h
  unfold pItV at q
  have op : opW (τ 3 i) = true ↔ (τ 3 i = 15 ∨ τ 3 i = 19) := by
    unfold opW
    exact decide_eq_true_iff
  by_cases c5 : τ 3 i = 15
  · rw [if_pos c5] at q
    obtain ⟨w, e1, e2⟩ := eb_i q
    have t := twd_ge.mp (h' c5)
    have g := oArV_ok lb e1
    cases e2
    refine ⟨(τ 3 (i + 1)).toNat, u.toNat, v.toNat, by omega, by dsimp only at g; omega, by dsimp only at g; omega, oD_E (by omega) (by dsimp only at g; omega), by omega, ?_, g.2.2.2⟩
    rw [op]
    omega
  · rw [if_neg c5] at q
    obtain ⟨w, e1, e2⟩ := eb_i q
    have g := oArV_ok lb e1
    cases e2
    refine ⟨(τ 3 i).toNat, u.toNat, v.toNat, by omega, by dsimp only at g; omega, by dsimp only at g; omega, oD_E (by omega) (by dsimp only at g; omega), by omega, ?_, g.2.2.2⟩
    rw [op]
    omega
theorem oTk_mk {τ P : PT} (lb : lB P) {s d i s' d' i' : Nat} {K u v : Int} {j : Nat} (q : pStep τ P s d i = .inr (s', d', i')) (hE : bW τ 20 i = 0) (p : pItV τ P i = .inr (K, u, v, j)) : ∃ k a b : Nat, K = (k : Int) ∧ u = (a : Int) ∧ v = (b : Int) ∧ oD (oE k a b) k a b ∧ oTk τ P i (oE k a b) i' ∧ (opW (τ 3 i) = true ↔ oB (oE k a b)) := by
  obtain ⟨h1, h2, K', u', v', j', q1, q2⟩ := pStep_V q hE
  rw [p] at q1
  cases q1
  obtain ⟨k, a, b, rfl, rfl, rfl, e4, e5, e6, e7⟩ := oTk_k (d := 0) (i1 := 0) lb h1 h2 p
  refine ⟨k, a, b, rfl, rfl, rfl, e4, ⟨h1, h2, _, _, _, _, p, q2, rfl⟩, ?_⟩
  exact e6.trans (by unfold oB; rw [e4.1])
/-- the tokens from i to j spell orders -/
def oSp (τ P : PT) : OT → Nat → Nat → Prop
  | .leaf _, i, j => i = j
  | .branch d y r, i, j => ∃ i1, oTk τ P i d i1 ∧ (if oB d then ∃ i2 i3, oSp τ P y i1 i2 ∧ bW τ 20 i2 ≠ 0 ∧ pSg τ 59 (i2 + 1) = .inr i3 ∧ oSp τ P r i3 j else y = oNil ∧ oSp τ P r i1 j)
theorem oSp_b {τ P : PT} {d i j : Nat} {y r : OT} (hB : oB d) : oSp τ P (.branch d y r) i j = (∃ i1, oTk τ P i d i1 ∧ ∃ i2 i3, oSp τ P y i1 i2 ∧ bW τ 20 i2 ≠ 0 ∧ pSg τ 59 (i2 + 1) = .inr i3 ∧ oSp τ P r i3 j) := by
  simp only [oSp, if_pos hB]
theorem oSp_a {τ P : PT} {d i j : Nat} {y r : OT} (hB : ¬ oB d) : oSp τ P (.branch d y r) i j = (∃ i1, oTk τ P i d i1 ∧ y = oNil ∧ oSp τ P r i1 j) := by
  simp only [oSp, if_neg hB]
theorem oSp_u {τ P : PT} : ∀ (t t' : OT) {i j j' : Nat}, oSp τ P t i j → oSp τ P t' i j' → oT τ j → oT τ j' → t = t' ∧ j = j'
  | .leaf _, .leaf _, i, j, j', h, h', _, _ => by
    have h : i = j := h
    have h' : i = j' := h'
    exact ⟨rfl, h.symm.trans h'⟩
  | .leaf _, .branch d y r, i, j, j', h, h', e, e' => by
    obtain ⟨i1, k, _⟩ := h'
    have h : i = j := h
    subst h
    exact (oTk_T k e).elim
  | .branch d y r, .leaf _, i, j, j', h, h', e, e' => by
    obtain ⟨i1, k, _⟩ := h
    have h' : i = j' := h'
    subst h'
    exact (oTk_T k e').elim
  | .branch d y r, .branch d' y' r', i, j, j', h, h', e, e' => by
    obtain ⟨i1, k, h⟩ := h
    obtain ⟨i1', k', h'⟩ := h'
    obtain ⟨rfl, rfl⟩ := oTk_u k k'
    by_cases hB : oB d
    · rw [if_pos hB] at h h'
      obtain ⟨i2, i3, g1, g2, g3, g4⟩ := h
      obtain ⟨i2', i3', g1', g2', g3', g4'⟩ := h'
      obtain ⟨rfl, rfl⟩ := oSp_u y y' g1 g1' (Or.inr g2) (Or.inr g2')
      rw [g3] at g3'
      cases g3'
      obtain ⟨rfl, rfl⟩ := oSp_u r r' g4 g4' e e'
      exact ⟨rfl, rfl⟩
    · rw [if_neg hB] at h h'
      obtain ⟨rfl, h⟩ := h
      obtain ⟨rfl, h'⟩ := h'
      obtain ⟨rfl, rfl⟩ := oSp_u r r' h h' e e'
      exact ⟨rfl, rfl⟩
theorem oSp_ok {τ P : PT} (lb : lB P) : ∀ (t : OT) {i j : Nat}, oSp τ P t i j → oOk P t
  | .leaf _, _, _, _ => trivial
  | .branch d y r, i, j, h => by
    obtain ⟨i1, k, h⟩ := h
    obtain ⟨k1, k2, K, u, v, j0, q1, q2, ed⟩ := k
    obtain ⟨k, a, b, rfl, rfl, rfl, e4, e5, e6, e7⟩ := oTk_k (d := 0) (i1 := 0) lb k1 k2 q1
    have ed : d = oE k a b := ed
    subst ed
    by_cases hB : oB (oE k a b)
    · rw [if_pos hB] at h
      obtain ⟨i2, i3, g1, g2, g3, g4⟩ := h
      rw [oOk_b hB e4]
      exact ⟨e7, oSp_ok lb y g1, oSp_ok lb r g4⟩
    · rw [if_neg hB] at h
      rw [oOk_a hB e4]
      refine ⟨?_, e7, oSp_ok lb r h.2⟩
      have n : ¬ (16 ≤ k ∧ k ≤ 19) := fun c => hB (by unfold oB; rw [e4.1]; exact c)
      omega
/-! one behind the other -/
theorem tN_A : ∀ (t u : OT), tN (tA t u) = tN t + tN u
  | .leaf _, u => (Nat.zero_add _).symm
  | .branch d y r, u => by
    show tN (.branch d y (tA r u)) = _
    by_cases hB : oB d
    · rw [tN_b hB, tN_b hB, tN_A r u]; omega
    · rw [tN_a hB, tN_a hB, tN_A r u]; omega
theorem tS_A : ∀ (t u : OT), tS (tA t u) = tS t + tS u
  | .leaf _, u => (Nat.zero_add _).symm
  | .branch d y r, u => by
    show tS (.branch d y (tA r u)) = _
    by_cases hB : oB d
    · rw [tS_b hB, tS_b hB, tS_A r u]; omega
    · rw [tS_a hB, tS_a hB, tS_A r u]; omega
theorem cLay_A {c : Nat} {h : zH} : ∀ (t u : OT) {p : Nat}, cLay c h t p → cLay c h u (p + tN t) → cLay c h (tA t u) p
  | .leaf _, u, p, _, g => g
  | .branch d y r, u, p, f, g => by
    show cLay c h (.branch d y (tA r u)) p
    by_cases hB : oB d
    · rw [cLay_b hB ⟨rfl, rfl, rfl⟩] at f ⊢
      rw [tN_b hB, show p + (tN y + tN r + 2) = p + tN y + 2 + tN r from by omega] at g
      exact ⟨f.1, f.2.1, f.2.2.1, cLay_A r u f.2.2.2 g⟩
    · rw [cLay_a hB ⟨rfl, rfl, rfl⟩] at f ⊢
      rw [tN_a hB, show p + (tN r + 1) = p + 1 + tN r from by omega] at g
      exact ⟨f.1, cLay_A r u f.2 g⟩
theorem rLay_A {o w : Nat} {h : zH} : ∀ (t u : OT) {s : Nat}, rLay o w h t s → rLay o w h u (s + tS t) → rLay o w h (tA t u) s
  | .leaf _, u, s, _, g => g
  | .branch d y r, u, s, f, g => by
    show rLay o w h (.branch d y (tA r u)) s
    by_cases hB : oB d
    · rw [rLay_b hB ⟨rfl, rfl, rfl⟩] at f ⊢
      rw [tS_b hB, show s + (tS y + tS r + 1) = s + 1 + tS y + tS r from by omega] at g
      exact ⟨f.1, f.2.1, f.2.2.1, rLay_A r u f.2.2.2 g⟩
    · rw [rLay_a hB ⟨rfl, rfl, rfl⟩] at f ⊢
      rw [tS_a hB, show s + (tS r + 1) = s + 1 + tS r from by omega] at g
      exact ⟨f.1, f.2.1, rLay_A r u f.2.2 g⟩
theorem oSp_A {τ P : PT} : ∀ (t u : OT) {i j l : Nat}, oSp τ P t i j → oSp τ P u j l → oSp τ P (tA t u) i l
  | .leaf _, u, i, j, l, f, g => by
    have f : i = j := f
    subst f
    exact g
  | .branch d y r, u, i, j, l, f, g => by
    show oSp τ P (.branch d y (tA r u)) i l
    by_cases hB : oB d
    · rw [oSp_b hB] at f ⊢
      obtain ⟨i1, k, i2, i3, g1, g2, g3, g4⟩ := f
      exact ⟨i1, k, i2, i3, g1, g2, g3, oSp_A r u g4 g⟩
    · rw [oSp_a hB] at f ⊢
      obtain ⟨i1, k, e, g1⟩ := f
      exact ⟨i1, k, e, oSp_A r u g1 g⟩
theorem cLay.fr {c : Nat} {h h' : zH} : ∀ (t : OT) {p : Nat}, cLay c h t p → (∀ j k, 11 ≤ j → j ≤ 14 → p ≤ k → k < p + tN t → h' (c + j) k = h (c + j) k) → cLay c h' t p
  | .leaf _, _, _, _ => trivial
  | .branch d y r, p, g, f => by
    by_cases hB : oB d
    · rw [tN_b hB] at f
      rw [cLay_b hB ⟨rfl, rfl, rfl⟩] at g ⊢
      obtain ⟨⟨g1, g2, g3⟩, ⟨g4, g5, g6⟩, g7, g8⟩ := g
      exact ⟨⟨(f 11 p (by omega) (by omega) (by omega) (by omega)).trans g1, (f 12 p (by omega) (by omega) (by omega) (by omega)).trans g2, (f 13 p (by omega) (by omega) (by omega) (by omega)).trans g3⟩, ⟨(f 14 p (by omega) (by omega) (by omega) (by omega)).trans g4, (f 11 _ (by omega) (by omega) (by omega) (by omega)).trans g5, (f 14 _ (by omega) (by omega) (by omega) (by omega)).trans g6⟩, cLay.fr y g7 (fun j k h1 h2 h3 h4 => f j k h1 h2 (by omega) (by omega)), cLay.fr r g8 (fun j k h1 h2 h3 h4 => f j k h1 h2 (by omega) (by omega))⟩
    · rw [tN_a hB] at f
      rw [cLay_a hB ⟨rfl, rfl, rfl⟩] at g ⊢
      obtain ⟨⟨g1, g2, g3⟩, g4⟩ := g
      exact ⟨⟨(f 11 p (by omega) (by omega) (by omega) (by omega)).trans g1, (f 12 p (by omega) (by omega) (by omega) (by omega)).trans g2, (f 13 p (by omega) (by omega) (by omega) (by omega)).trans g3⟩, cLay.fr r g4 (fun j k h1 h2 h3 h4 => f j k h1 h2 (by omega) (by omega))⟩
theorem rIt.fr {o w : Nat} {h h' : zH} {k a b s : Nat} (g : rIt o w h k a b s) (e : ∀ j, o + 277 + 9 * s ≤ j → j < o + 286 + 9 * s → h' 126 j = h 126 j) : rIt o w h' k a b s := by
  obtain ⟨g1, g2, g3, g4, g5, g6⟩ := g
  exact ⟨(e _ (by omega) (by omega)).trans g1, fun c => (e _ (by omega) (by omega)).trans (g2 c), fun c => (e _ (by omega) (by omega)).trans (g3 c), fun c => (e _ (by omega) (by omega)).trans (g4 c), fun c => (e _ (by omega) (by omega)).trans (g5 c), fun c => (e _ (by omega) (by omega)).trans (g6 c)⟩
theorem rIt.fr8 {o w : Nat} {h h' : zH} {k a b s : Nat} (g : rIt o w h k a b s) (e : ∀ j, o + 277 + 9 * s ≤ j → j < o + 285 + 9 * s → h' 126 j = h 126 j) : rIt o w h' k a b s := by
  obtain ⟨g1, g2, g3, g4, g5, g6⟩ := g
  exact ⟨(e _ (by omega) (by omega)).trans g1, fun c => (e _ (by omega) (by omega)).trans (g2 c), fun c => (e _ (by omega) (by omega)).trans (g3 c), fun c => (e _ (by omega) (by omega)).trans (g4 c), fun c => (e _ (by omega) (by omega)).trans (g5 c), fun c => (e _ (by omega) (by omega)).trans (g6 c)⟩
theorem rLay.fr {o w : Nat} {h h' : zH} : ∀ (t : OT) {s : Nat}, rLay o w h t s → (∀ e, o + 277 + 9 * s ≤ e → e < o + 277 + 9 * (s + tS t) → h' 126 e = h 126 e) → rLay o w h' t s
  | .leaf _, _, _, _ => trivial
  | .branch d y r, s, g, f => by
    by_cases hB : oB d
    · rw [tS_b hB] at f
      rw [rLay_b hB ⟨rfl, rfl, rfl⟩] at g ⊢
      obtain ⟨g1, g2, g3, g4⟩ := g
      exact ⟨g1.fr (fun e h1 h2 => f e (by omega) (by omega)), (f _ (by omega) (by omega)).trans g2, rLay.fr y g3 (fun e h1 h2 => f e (by omega) (by omega)), rLay.fr r g4 (fun e h1 h2 => f e (by omega) (by omega))⟩
    · rw [tS_a hB] at f
      rw [rLay_a hB ⟨rfl, rfl, rfl⟩] at g ⊢
      obtain ⟨g1, g2, g3⟩ := g
      exact ⟨g1.fr (fun e h1 h2 => f e (by omega) (by omega)), (f _ (by omega) (by omega)).trans g2, rLay.fr r g3 (fun e h1 h2 => f e (by omega) (by omega))⟩
/-! the class's rows: what is open, innermost first -/
theorem j4 {j : Nat} (h1 : 11 ≤ j) (h2 : j ≤ 14) : 8 + j = 19 ∨ 8 + j = 20 ∨ 8 + j = 21 ∨ 8 + j = 22 := by omega
theorem oW4.ne {h g : zH} {z K u v : Int} (w : oW4 h g z K u v) {j k : Nat} (hj : j = 19 ∨ j = 20 ∨ j = 21 ∨ j = 22) (hk : k ≠ z.toNat) : g j k = h j k := by
  obtain ⟨w1, w2, w3, w4⟩ := w
  rcases hj with rfl | rfl | rfl | rfl
  · exact (w1 k).trans (zset_ne (fun c => hk c.2))
  · exact (w2 k).trans (zset_ne (fun c => hk c.2))
  · exact (w3 k).trans (zset_ne (fun c => hk c.2))
  · exact (w4 k).trans (zset_ne (fun c => hk c.2))
theorem oE4.ne {h g : zH} {z f : Int} (w : oE4 h g z f) {j k : Nat} (hj : j = 19 ∨ j = 20 ∨ j = 21 ∨ j = 22) (hk : k ≠ z.toNat) (hf : j = 22 → k ≠ f.toNat) : g j k = h j k := by
  obtain ⟨w1, w2, w3, w4⟩ := w
  rcases hj with rfl | rfl | rfl | rfl
  · exact (w1 k).trans (zset_ne (fun c => hk c.2))
  · exact (w2 k).trans (zset_ne (fun c => hk c.2))
  · exact (w3 k).trans (zset_ne (fun c => hk c.2))
  · exact (w4 k).trans ((zset_ne (fun c => hf rfl c.2)).trans ((zset_ne (fun c => hk c.2)).trans (zset_ne (fun c => hk c.2))))
abbrev oZ := List (OT × Nat)
def zN : oZ → Nat
  | [] => 0
  | z :: Z => zN Z + tN z.1 + 1
def zSs : oZ → Nat
  | [] => 0
  | z :: Z => zSs Z + tS z.1 + 1
def zSp (τ P : PT) : oZ → Nat → Prop
  | [], i => i = 0
  | z :: Z, i => ∃ i0 i1, zSp τ P Z i0 ∧ oSp τ P z.1 i0 i1 ∧ oTk τ P i1 z.2 i ∧ oB z.2
def zLay (h : zH) : oZ → Prop
  | [] => True
  | z :: Z => cLay 8 h z.1 (zN Z) ∧ cWd 8 h (z.2 % 32) (z.2 / 32 % 128) (z.2 / 4096) (zN Z + tN z.1) ∧ (h 23 Z.length).2 = ((zN Z + tN z.1 : Nat) : Int) ∧ zLay h Z
theorem zLay.fr {h h' : zH} : ∀ (Z : oZ), zLay h Z → (∀ j k, 11 ≤ j → j ≤ 14 → k < zN Z → h' (8 + j) k = h (8 + j) k) → (∀ e, e < Z.length → h' 23 e = h 23 e) → zLay h' Z
  | [], _, _, _ => trivial
  | z :: Z, g, f, f3 => by
    obtain ⟨g1, ⟨g2, g3, g4⟩, g5, g6⟩ := g
    have e : zN (z :: Z) = zN Z + tN z.1 + 1 := rfl
    have l : (z :: Z).length = Z.length + 1 := rfl
    rw [e] at f
    rw [l] at f3
    exact ⟨cLay.fr z.1 g1 (fun j k h1 h2 h3 h4 => f j k h1 h2 (by omega)), ⟨(f 11 _ (by omega) (by omega) (by omega)).trans g2, (f 12 _ (by omega) (by omega) (by omega)).trans g3, (f 13 _ (by omega) (by omega) (by omega)).trans g4⟩, (congrArg Prod.snd (f3 _ (by omega))).trans g5, zLay.fr Z g6 (fun j k h1 h2 h3 => f j k h1 h2 (by omega)) (fun e he => f3 e (by omega))⟩
def cZs (τ P : PT) (h : zH) (s d i : Nat) (z : Int) : Prop := ∃ (Z : oZ) (t : OT) (ib : Nat), zSp τ P Z ib ∧ oSp τ P t ib i ∧ zLay h Z ∧ cLay 8 h t (zN Z) ∧ z = ((zN Z + tN t : Nat) : Int) ∧ s = zSs Z + tS t ∧ d = Z.length
theorem cZs_0 {τ P : PT} {h : zH} : cZs τ P h 0 0 0 0 := ⟨[], oNil, 0, rfl, rfl, trivial, trivial, rfl, rfl, rfl⟩
theorem oW4.wd {h g : zH} {z : Int} {k a b p : Nat} (w : oW4 h g z (k : Int) (a : Int) (b : Int)) (hp : z.toNat = p) : cWd 8 g k a b p := by
  subst hp
  obtain ⟨w1, w2, w3, _⟩ := w
  exact ⟨(w1 _).trans zset_same, (w2 _).trans zset_same, (w3 _).trans zset_same⟩
theorem cZs_st {τ P : PT} {h g : zH} {s d i s' d' i' : Nat} {z z' K u v : Int} {j : Nat} (lb : lB P) (hZ : cZs τ P h s d i z) (hE : bW τ 20 i = 0) (q : pStep τ P s d i = .inr (s', d', i')) (p : pItV τ P i = .inr (K, u, v, j)) (w : oW4 h g z K u v) (hz : z' = z + 1) (r : ∀ e, g 23 e = h 23 e) (hop : opW (τ 3 i) = false) : cZs τ P g s' d' i' z' := by
  obtain ⟨k, a, b, rfl, rfl, rfl, e4, e5, e6⟩ := oTk_mk lb q hE p
  obtain ⟨p1, p2, p3, p4⟩ := pStep_d q hE
  have p4 := p4 hop
  obtain ⟨Z, t, ib, z1, z2, z3, z4, z5, z6, z7⟩ := hZ
  have hB : ¬ oB (oE k a b) := fun c => by
    rw [← e6, hop] at c
    cases c
  subst z5 hz
  have ne : ∀ j k, 11 ≤ j → j ≤ 14 → k < zN Z + tN t → g (8 + j) k = h (8 + j) k := fun j k h1 h2 h3 => w.ne (j4 h1 h2) (by omega)
  refine ⟨Z, tA t (.branch (oE k a b) oNil oNil), ib, z1, oSp_A t _ z2 ?_, zLay.fr Z z3 (fun j k h1 h2 h3 => ne j k h1 h2 (by omega)) (fun e _ => r e), cLay_A t _ (cLay.fr t z4 (fun j k h1 h2 h3 h4 => ne j k h1 h2 (by omega))) ?_, ?_, ?_, by omega⟩
  · rw [oSp_a hB]
    exact ⟨i', e5, rfl, rfl⟩
  · rw [cLay_a hB e4]
    exact ⟨w.wd (by omega), trivial⟩
  · rw [tN_A, tN_a hB]
    show _ = ((zN Z + (tN t + (0 + 1)) : Nat) : Int)
    omega
  · rw [tS_A, tS_a hB]
    show _ = zSs Z + (tS t + (0 + 1))
    omega
theorem cZs_op {τ P : PT} {h g : zH} {s d i s' d' i' : Nat} {z z' K u v : Int} {j : Nat} (lb : lB P) (hZ : cZs τ P h s d i z) (hE : bW τ 20 i = 0) (q : pStep τ P s d i = .inr (s', d', i')) (p : pItV τ P i = .inr (K, u, v, j)) (w : oW4 h g z K u v) (hz : z' = z + 1) (r : ∀ e, g 23 e = zset h 23 ((d : Int)).toNat (0, z) 23 e) (hop : opW (τ 3 i) = true) : cZs τ P g s' d' i' z' := by
  obtain ⟨k, a, b, rfl, rfl, rfl, e4, e5, e6⟩ := oTk_mk lb q hE p
  obtain ⟨p1, p2, p3, p4⟩ := pStep_d q hE
  have p3 := (p3 hop).1
  obtain ⟨Z, t, ib, z1, z2, z3, z4, z5, z6, z7⟩ := hZ
  have hB : oB (oE k a b) := e6.mp hop
  subst z5 hz
  have ne : ∀ j k, 11 ≤ j → j ≤ 14 → k < zN Z + tN t → g (8 + j) k = h (8 + j) k := fun j k h1 h2 h3 => w.ne (j4 h1 h2) (by omega)
  have l : ((t, oE k a b) :: Z).length = Z.length + 1 := rfl
  have n : zN ((t, oE k a b) :: Z) = zN Z + tN t + 1 := rfl
  have sn : zSs ((t, oE k a b) :: Z) = zSs Z + tS t + 1 := rfl
  refine ⟨(t, oE k a b) :: Z, oNil, i', ⟨ib, i, z1, z2, e5, hB⟩, rfl, ⟨cLay.fr t z4 (fun j k h1 h2 h3 h4 => ne j k h1 h2 (by omega)), ?_, ?_, zLay.fr Z z3 (fun j k h1 h2 h3 => ne j k h1 h2 (by omega)) (fun e he => (r e).trans (zset_ne (fun c => by omega)))⟩, trivial, ?_, ?_, ?_⟩
  · obtain ⟨d1, d2, d3⟩ := e4
    show cWd 8 g (oE k a b % 32) (oE k a b / 32 % 128) (oE k a b / 4096) (zN Z + tN t)
    rw [d1, d2, d3]
    exact w.wd (by omega)
  · rw [r, zset_e (by omega)]
  · rw [n]
    show _ = ((zN Z + tN t + 1 + 0 : Nat) : Int)
    omega
  · rw [sn]
    show _ = zSs Z + tS t + 1 + 0
    omega
  · omega
theorem cZs_en {τ P : PT} {h g : zH} {s d i s' d' i' : Nat} {z z' f : Int} (hZ : cZs τ P h s d i z) (hE : bW τ 20 i ≠ 0) (q : pStep τ P s d i = .inr (s', d', i')) (hf : f = (h 23 (((d : Int) - 1)).toNat).2) (w : oE4 h g z f) (hz : z' = z + 1) (r : ∀ e, g 23 e = h 23 e) : cZs τ P g s' d' i' z' := by
  unfold pStep at q
  rw [if_pos hE] at q
  by_cases hd : d = 0
  · rw [if_pos hd] at q; cases q
  rw [if_neg hd] at q
  obtain ⟨j, q1, q2⟩ := eb_i q
  cases q2
  obtain ⟨Z, t, ib, z1, z2, z3, z4, z5, z6, z7⟩ := hZ
  cases Z with
  | nil => exact absurd z7 hd
  | cons y Z =>
    obtain ⟨ty, dy⟩ := y
    obtain ⟨i0, i1, y1, y2, y3, hB⟩ := z1
    obtain ⟨g1, g2, g3, g4⟩ := z3
    have l : ((ty, dy) :: Z).length = Z.length + 1 := rfl
    have n : zN ((ty, dy) :: Z) = zN Z + tN ty + 1 := rfl
    have sn : zSs ((ty, dy) :: Z) = zSs Z + tS ty + 1 := rfl
    rw [l] at z7
    rw [n] at z4 z5
    rw [sn] at z6
    have g1 : cLay 8 h ty (zN Z) := g1
    have g2 : cWd 8 h (dy % 32) (dy / 32 % 128) (dy / 4096) (zN Z + tN ty) := g2
    have g3 : (h 23 Z.length).2 = ((zN Z + tN ty : Nat) : Int) := g3
    rw [show (((d : Int) - 1)).toNat = Z.length from by omega, g3] at hf
    subst z5 hz hf
    have ne : ∀ j k, 11 ≤ j → j ≤ 14 → k < zN Z + tN ty + 1 + tN t → (j = 14 → k ≠ zN Z + tN ty) → g (8 + j) k = h (8 + j) k := fun j k h1 h2 h3 h4 => w.ne (j4 h1 h2) (by omega) (fun c e => h4 (by omega) (by omega))
    refine ⟨Z, tA ty (.branch dy t oNil), i0, y1, oSp_A ty _ y2 ?_, zLay.fr Z g4 (fun j k h1 h2 h3 => ne j k h1 h2 (by omega) (fun _ => by omega)) (fun e _ => r e), cLay_A ty _ (cLay.fr ty g1 (fun j k h1 h2 h3 h4 => ne j k h1 h2 (by omega) (fun _ => by omega))) ?_, ?_, ?_, ?_⟩
    · rw [oSp_b hB]
      exact ⟨ib, y3, i, i', z2, hE, q1, rfl⟩
    · rw [cLay_b hB ⟨rfl, rfl, rfl⟩]
      obtain ⟨a1, a2, a3⟩ := g2
      obtain ⟨w1, w2, w3, w4⟩ := w
      have w0 : oE4 h g ((zN Z + tN ty + 1 + tN t : Nat) : Int) ((zN Z + tN ty : Nat) : Int) := ⟨w1, w2, w3, w4⟩
      refine ⟨⟨(ne 11 _ (by omega) (by omega) (by omega) (fun c => by omega)).trans a1, (ne 12 _ (by omega) (by omega) (by omega) (fun c => by omega)).trans a2, (ne 13 _ (by omega) (by omega) (by omega) (fun c => by omega)).trans a3⟩, ⟨(w4 _).trans ((zset_e (by omega)).trans (congrArg (Prod.mk 0) (by omega))), (w1 _).trans (zset_e (by omega)), (w4 _).trans ((zset_ne (fun c => by omega)).trans (zset_e (by omega)))⟩, cLay.fr t z4 (fun j k h1 h2 h3 h4 => ne j k h1 h2 (by omega) (fun _ => by omega)), trivial⟩
    · rw [tN_A, tN_b hB]
      show _ = ((zN Z + (tN ty + (tN t + 0 + 2)) : Nat) : Int)
      omega
    · rw [tS_A, tS_b hB]
      show _ = zSs Z + (tS ty + (tS t + 0 + 1))
      omega
    · omega
