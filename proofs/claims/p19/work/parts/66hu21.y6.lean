/-! ALL CONTENTS OF THE LANDS OF CLASS AND REFERENCE ALIKE -/
def oLd (c o : Nat) (P : PT) (h : zH) : Prop := (h (c + 10) 0 = (0, -1) ∧ h 126 (o + 275) = (0, 0)) ∨ ∃ t : OT, oOk P t ∧ tS t ≤ 30 ∧ tN t ≤ 60 ∧ h (c + 10) 0 = (0, (tN t : Int)) ∧ h (c + 10) 1 = (0, (tS t : Int)) ∧ cLay c h t 0 ∧ h 126 (o + 275) = (0, 1) ∧ h 126 (o + 276) = (0, (tS t : Int)) ∧ rLay o (P 0 0).toNat h t 0
def fLd (c o : Nat) (h : zH) : Prop := ∃ P, cP c P h ∧ rBk o P h ∧ fB P ∧ (2 ≤ P 0 0 ∧ 1 ≤ P 0 1) ∧ oLd c o P h
/-- the class's places of a LAND -/
def cJ (j k : Nat) : Prop := (j = 0 ∧ k < 5) ∨ ((j = 1 ∨ j = 2) ∧ k < 48) ∨ (j = 3 ∧ k < 144) ∨ ((4 ≤ j ∧ j ≤ 9) ∧ k < 6) ∨ (j = 10 ∧ k < 2) ∨ ((11 ≤ j ∧ j ≤ 14) ∧ k < 60)
def cKf (c c' : Nat) (h h' : zH) : Prop := ∀ j k, cJ j k → h' (c' + j) k = h (c + j) k
def bKf (o o' : Nat) (h h' : zH) : Prop := ∀ j, j < 547 → h' 126 (o' + j) = h 126 (o + j)
theorem cKf.trans {c c' c2 : Nat} {h h' h2 : zH} (f : cKf c c' h h') (f2 : cKf c' c2 h' h2) : cKf c c2 h h2 := fun j k hj => (f2 j k hj).trans (f j k hj)
theorem bKf.trans {o o' o2 : Nat} {h h' h2 : zH} (f : bKf o o' h h') (f2 : bKf o' o2 h' h2) : bKf o o2 h h2 := fun j hj => (f2 j hj).trans (f j hj)
theorem cP.tr {c c' : Nat} {P : PT} {h h' : zH} (g : cP c P h) (l6 : P 0 3 ≤ 6) (f : cKf c c' h h') : cP c' P h' := by
  obtain ⟨⟨a0, a1, a2, a3, a4⟩, b1, b2, b3, b4⟩ := g
  have f0 : ∀ k, k < 5 → h' c' k = h c k := fun k hk => f 0 k (Or.inl ⟨rfl, hk⟩)
  refine ⟨⟨(f0 0 (by decide)).trans a0, (f0 1 (by decide)).trans a1, (f0 2 (by decide)).trans a2, (f0 3 (by decide)).trans a3, (f0 4 (by decide)).trans a4⟩, fun k hk => (f 1 k (by unfold cJ; omega)).trans (b1 k hk), fun k hk => (f 2 k (by unfold cJ; omega)).trans (b2 k hk), fun k hk => (f 3 k (by unfold cJ; omega)).trans (b3 k hk), fun k hk => ?_⟩
  obtain ⟨c4, c5, c6, c7, c8, c9⟩ := b4 k hk
  have k6 : k < 6 := by omega
  exact ⟨(f 4 k (by unfold cJ; omega)).trans c4, (f 5 k (by unfold cJ; omega)).trans c5, (f 6 k (by unfold cJ; omega)).trans c6, (f 7 k (by unfold cJ; omega)).trans c7, (f 8 k (by unfold cJ; omega)).trans c8, (f 9 k (by unfold cJ; omega)).trans c9⟩
theorem rBk.tr {o o' : Nat} {P : PT} {h h' : zH} (g : rBk o P h) (lb : lB P) (f : bKf o o' h h') : rBk o' P h' := by
  obtain ⟨⟨a0, a1, a2, a3, a4⟩, b1, b2, b3⟩ := g
  have e : ∀ j k, j + k < 547 → h' 126 (o' + j + k) = h 126 (o + j + k) := fun j k hj => by
    rw [Nat.add_assoc, Nat.add_assoc]
    exact f (j + k) hj
  refine ⟨⟨(f 0 (by decide)).trans a0, (f 1 (by decide)).trans a1, (f 2 (by decide)).trans a2, (f 3 (by decide)).trans a3, (f 4 (by decide)).trans a4⟩, fun q i => ?_, fun k q hk i => ?_, fun k hk => ?_⟩
  · have := gJ_lt lb i
    exact ⟨(e 5 _ (by omega)).trans (b1 q i).1, (e 53 _ (by omega)).trans (b1 q i).2⟩
  · have := gJ_lt lb i
    have q := e (101 + 48 * k) (gJ P q) (by omega)
    rw [← Nat.add_assoc, ← Nat.add_assoc] at q
    exact q.trans (b2 k _ hk i)
  · have := lb.2.2.2.2
    obtain ⟨c1, c2, c3, c4, c5⟩ := b3 k hk
    exact ⟨(e 245 k (by omega)).trans c1, (e 251 k (by omega)).trans c2, (e 257 k (by omega)).trans c3, (e 263 k (by omega)).trans c4, (e 269 k (by omega)).trans c5⟩
theorem oLd.tr {c c' o o' : Nat} {P P' : PT} {h h' : zH} (g : oLd c o P h) (sh : pSh P P') (f : ∀ j k, 10 ≤ j → cJ j k → h' (c' + j) k = h (c + j) k) (m : ∀ j, 275 ≤ j → j < 547 → h' 126 (o' + j) = h 126 (o + j)) : oLd c' o' P' h' := by
  rcases g with ⟨g1, g2⟩ | ⟨t, g1, g2, g3, g4, g5, g6, g7, g8, g9⟩
  · exact Or.inl ⟨(f 10 0 (by decide) (by unfold cJ; omega)).trans g1, (m 275 (by decide) (by decide)).trans g2⟩
  · refine Or.inr ⟨t, sh.ok g1, g2, g3, (f 10 0 (by decide) (by unfold cJ; omega)).trans g4, (f 10 1 (by decide) (by unfold cJ; omega)).trans g5, g6.tr (fun j k h1 h2 h3 => f j k (by omega) (by unfold cJ; omega)) (by omega), (m 275 (by decide) (by decide)).trans g7, (m 276 (by decide) (by decide)).trans g8, ?_⟩
    rw [sh.1]
    exact g9.tr (fun j h1 h2 => m j (by omega) h2) (by omega)
theorem fLd.tr {c c' o o' : Nat} {h h' : zH} (g : fLd c o h) (f : cKf c c' h h') (m : bKf o o' h h') : fLd c' o' h' := by
  obtain ⟨P, g1, g2, g3, g4, g5⟩ := g
  exact ⟨P, g1.tr g3.1.2.2.2.2 f, g2.tr g3.1 m, g3, g4, g5.tr pSh.rfl (fun j k _ hj => f j k hj) (fun j _ hj => m j hj)⟩
/-- the places, as frames name them -/
abbrev kLf (c : Nat) : aM := [(c, 0, 4), (c + 1, 0, 47), (c + 2, 0, 47), (c + 3, 0, 143), (c + 4, 0, 5), (c + 5, 0, 5), (c + 6, 0, 5), (c + 7, 0, 5), (c + 8, 0, 5), (c + 9, 0, 5), (c + 10, 0, 1), (c + 11, 0, 59), (c + 12, 0, 59), (c + 13, 0, 59), (c + 14, 0, 59)]
abbrev kLb (o : Nat) : aM := [(126, o, o + 546)]
abbrev cAf : aM := kLf 24 ++ (kLf 39 ++ (kLf 55 ++ (kLf 70 ++ kLf 85)))
abbrev bAf : aM := kLb 0 ++ (kLb 550 ++ (kLb 1100 ++ kLb 1650))
abbrev fpS : aM := tpS ++ (cAf ++ bAf)
theorem aIn_of {S : aM} {a lo hi k : Nat} (m : (a, lo, hi) ∈ S) (h1 : lo ≤ k) (h2 : k ≤ hi) : aIn S a k := ⟨_, m, rfl, h1, h2⟩
theorem kLf_in {c j k : Nat} (hj : cJ j k) : aIn (kLf c) (c + j) k := by
  rcases hj with ⟨rfl, hk⟩ | ⟨rfl | rfl, hk⟩ | ⟨rfl, hk⟩ | ⟨⟨h1, h2⟩, hk⟩ | ⟨rfl, hk⟩ | ⟨⟨h1, h2⟩, hk⟩
  · exact aIn_of (lo := 0) (hi := 4) (by simp) (Nat.zero_le _) (by omega)
  · exact aIn_of (lo := 0) (hi := 47) (by simp) (Nat.zero_le _) (by omega)
  · exact aIn_of (lo := 0) (hi := 47) (by simp) (Nat.zero_le _) (by omega)
  · exact aIn_of (lo := 0) (hi := 143) (by simp) (Nat.zero_le _) (by omega)
  · have : j = 4 ∨ j = 5 ∨ j = 6 ∨ j = 7 ∨ j = 8 ∨ j = 9 := by omega
    rcases this with rfl | rfl | rfl | rfl | rfl | rfl <;> exact aIn_of (lo := 0) (hi := 5) (by simp) (Nat.zero_le _) (by omega)
  · exact aIn_of (lo := 0) (hi := 1) (by simp) (Nat.zero_le _) (by omega)
  · have : j = 11 ∨ j = 12 ∨ j = 13 ∨ j = 14 := by omega
    rcases this with rfl | rfl | rfl | rfl <;> exact aIn_of (lo := 0) (hi := 59) (by simp) (Nat.zero_le _) (by omega)
theorem aIn_l {S S' : aM} {a k : Nat} (h : aIn S a k) : aIn (S ++ S') a k := by
  obtain ⟨e, he, x⟩ := h
  exact ⟨e, List.mem_append_left _ he, x⟩
theorem aIn_r {S S' : aM} {a k : Nat} (h : aIn S' a k) : aIn (S ++ S') a k := by
  obtain ⟨e, he, x⟩ := h
  exact ⟨e, List.mem_append_right _ he, x⟩
theorem cAf_in {c j k : Nat} (hc : cOb c) (hj : cJ j k) : aIn cAf (c + j) k := by
  rcases hc with rfl | rfl | rfl | rfl | rfl
  · exact aIn_l (kLf_in hj)
  · exact aIn_r (aIn_l (kLf_in hj))
  · exact aIn_r (aIn_r (aIn_l (kLf_in hj)))
  · exact aIn_r (aIn_r (aIn_r (aIn_l (kLf_in hj))))
  · exact aIn_r (aIn_r (aIn_r (aIn_r (kLf_in hj))))
theorem bAf_in {b j : Nat} (hb : b < 4) (hj : j < 547) : aIn bAf 126 (550 * b + j) := by
  have l : ∀ o, aIn (kLb o) 126 (o + j) := fun o => aIn_of (lo := o) (hi := o + 546) List.mem_cons_self (by omega) (by omega)
  have : b = 0 ∨ b = 1 ∨ b = 2 ∨ b = 3 := by omega
  rcases this with rfl | rfl | rfl | rfl
  · exact aIn_l (l 0)
  · exact aIn_r (aIn_l (l 550))
  · exact aIn_r (aIn_r (aIn_l (l 1100)))
  · exact aIn_r (aIn_r (aIn_r (l 1650)))
theorem cKf_S {h h' : zH} (he : ∀ a k, aIn cAf a k → h' a k = h a k) {c : Nat} (hc : cOb c) : cKf c c h h' := fun _ _ hj => he _ _ (cAf_in hc hj)
theorem bKf_S {h h' : zH} (he : ∀ a k, aIn bAf a k → h' a k = h a k) {b : Nat} (hb : b < 4) : bKf (550 * b) (550 * b) h h' := fun _ hj => he _ _ (bAf_in hb hj)
def fMk (h : zH) : Prop := ∀ m : Nat, m < 3 → (m : Int) < (h 0 10).2 → fLd (55 + 15 * m) (550 * (m + 1)) h
def fX (h : zH) : Prop := fMk h ∧ ∃ r c, lSw r c ∧ h 0 7 = (2, (c : Int)) ∧ h 0 8 = (2, (r : Int)) ∧ fLd c 0 h
def fR (h : zH) : Prop := lR h ∧ fX h
theorem fX_S {h h' : zH} (he : ∀ a k, aIn fpS a k → h' a k = h a k) (g : fX h) : fX h' := by
  obtain ⟨hM, r, c, s1, s2, s3, hL⟩ := g
  have hc : ∀ a k, aIn cAf a k → h' a k = h a k := fun a k hi => he a k (aIn_r (aIn_l hi))
  have hb : ∀ a k, aIn bAf a k → h' a k = h a k := fun a k hi => he a k (aIn_r (aIn_r hi))
  have h0 : ∀ a k, aIn tp0 a k → h' a k = h a k := fun a k hi => he a k (aIn_l (tpS_0 hi))
  refine ⟨fun m hm hq => ?_, r, c, s1, (h0 _ _ ⟨(0, 7, 8), by decide, rfl, by decide, by decide⟩).trans s2, (h0 _ _ ⟨(0, 7, 8), by decide, rfl, by decide, by decide⟩).trans s3, hL.tr (cKf_S hc s1.ob) (bKf_S hb (b := 0) (by decide))⟩
  rw [h0 0 10 ⟨(0, 10, 10), by decide, rfl, by decide, by decide⟩] at hq
  exact (hM m hm hq).tr (cKf_S hc (mOb hm)) (bKf_S hb (by omega))
theorem fR_S : lRs fpS fR := fun h h' he hR => ⟨lR_S h h' (fun a k hi => he a k (aIn_l hi)) hR.1, fX_S he hR.2⟩
theorem fR.off {M : aM} {h h' : zH} (hR : fR h) (hf : lFree fpS M = true) (he : ∀ a b, ¬ aIn M a b → h' a b = h a b) : fR h' := fR_S h h' (fun a b hi => he a b (lFree_ok hf hi)) hR
theorem ini_f : (∀ k, k < 144 → hIni 27 k = (0, 0)) ∧ hIni 24 4 = (0, 0) ∧ (∀ k, k < 240 → hIni 126 (5 + k) = (0, 0)) ∧ hIni 126 4 = (0, 0) := by decide +kernel
theorem ini_fL : fLd 24 0 hIni := by
  have z : ∀ a k, iniP a k = if a = 0 ∧ k = 0 then 2 else if a = 0 ∧ (k = 1 ∨ k = 2) then 1 else 0 := fun _ _ => rfl
  have p1 : ∀ k, iniP 1 k = 0 := fun k => by rw [z, if_neg (by omega), if_neg (by omega)]
  have p2 : ∀ k, iniP 2 k = 0 := fun k => by rw [z, if_neg (by omega), if_neg (by omega)]
  have p3 : ∀ k, iniP 3 k = 0 := fun k => by rw [z, if_neg (by omega), if_neg (by omega)]
  have lb : lB iniP := by unfold lB; decide
  refine ⟨iniP, ⟨⟨ini_c.1.1, ini_c.1.2.1, ini_c.1.2.2.1, ini_c.1.2.2.2, ini_f.2.1⟩, fun k hk => ?_, fun k hk => ?_, fun k hk => ?_, fun k hk => ?_⟩, ⟨⟨ini_b.1.1, ini_b.1.2.1, ini_b.1.2.2.1, ini_b.1.2.2.2, ini_f.2.2.2⟩, fun q g => ?_, fun k q hk g => ?_, fun k hk => ?_⟩, ⟨lb, fun q _ => ?_, fun i _ => ?_, fun k hk => ?_⟩, by decide, Or.inl ⟨ini_c.2.2.2, ini_b.2.2⟩⟩
  · rw [p1]; exact ini_c.2.1 k hk
  · rw [p2]; exact ini_c.2.2.1 k hk
  · rw [p3]; exact ini_f.1 k hk
  · have hk : (k : Int) < 0 := hk
    omega
  · have l := gJ_lt lb g
    rw [p1, p2]
    refine ⟨?_, ?_⟩
    · have := ini_f.2.2.1 (gJ iniP q) (by omega)
      rw [show 0 + 5 + gJ iniP q = 5 + gJ iniP q from by omega]
      exact this
    · have := ini_f.2.2.1 (48 + gJ iniP q) (by omega)
      rw [show 0 + 53 + gJ iniP q = 5 + (48 + gJ iniP q) from by omega]
      exact this
  · have l := gJ_lt lb g
    rw [p3]
    have := ini_f.2.2.1 (96 + 48 * k + gJ iniP q) (by omega)
    rw [show 0 + 101 + 48 * k + gJ iniP q = 5 + (96 + 48 * k + gJ iniP q) from by omega]
    exact this
  · have hk : (k : Int) < 0 := hk
    omega
  · rw [p1, p2]; decide
  · rw [p3]; decide
  · have hk : (k : Int) < 0 := hk
    omega
theorem fR_ini : fR hIni := by
  refine ⟨lR_ini, fun m _ hm => ?_, 39, 24, Or.inr ⟨rfl, rfl⟩, (by decide +kernel : hIni 0 7 = (2, 24)), (by decide +kernel : hIni 0 8 = (2, 39)), ini_fL⟩
  have e : (hIni 0 10).2 = 0 := by decide +kernel
  omega
/-- what is no place of the LAND that is changed -/
def fOut (c a b : Nat) : Prop := (a = 0 ∧ (b = 7 ∨ b = 8 ∨ b = 10)) ∨ (24 ≤ a ∧ a < 100 ∧ ¬ (c ≤ a ∧ a ≤ c + 9)) ∨ (a = 126 ∧ 275 ≤ b ∧ b < 2200)
theorem fX_up {h h2 : zH} {r c : Nat} {P P' : PT} (hM : fMk h) (s1 : lSw r c) (s2 : h 0 7 = (2, (c : Int))) (s3 : h 0 8 = (2, (r : Int))) (o : oLd c 0 P h) (sh : pSh P P') (f : ∀ a b, fOut c a b → h2 a b = h a b) (q1 : cP c P' h2) (q2 : rBk 0 P' h2) (q3 : fB P') (q4 : 2 ≤ P' 0 0 ∧ 1 ≤ P' 0 1) : fX h2 := by
  have c2 : c = 24 ∨ c = 39 := by
    rcases s1 with ⟨_, e⟩ | ⟨_, e⟩
    · exact Or.inr e
    · exact Or.inl e
  refine ⟨fun m hm hq => ?_, r, c, s1, (f 0 7 (Or.inl (by omega))).trans s2, (f 0 8 (Or.inl (by omega))).trans s3, P', q1, q2, q3, q4, o.tr sh (fun j k hj hk => f _ _ (Or.inr (Or.inl ?_))) (fun j h1 h2 => f _ _ (Or.inr (Or.inr (by omega))))⟩
  · rw [f 0 10 (Or.inl (by omega))] at hq
    refine (hM m hm hq).tr (fun j k hj => f _ _ (Or.inr (Or.inl ?_))) (fun j hj => f _ _ (Or.inr (Or.inr (by omega))))
    have : j ≤ 14 := by
      unfold cJ at hj
      omega
    omega
  · have : j ≤ 14 := by
      unfold cJ at hk
      omega
    omega
theorem lSw.c2 {r c : Nat} (s1 : lSw r c) : c = 24 ∨ c = 39 := by
  rcases s1 with ⟨_, e⟩ | ⟨_, e⟩
  · exact Or.inr e
  · exact Or.inl e
