/-! THE LANDS OF CLASS AND REFERENCE ALIKE in what texts and marks alone change (c: the class's object; b: the reference's block) -/
def sCl (c : Nat) (P : PT) (h : zH) : Prop := (h c 0 = (0, P 0 0) ∧ h c 1 = (0, P 0 1) ∧ h c 2 = (0, P 0 2) ∧ h c 3 = (0, P 0 3)) ∧ (∀ k, k < 48 → h (c + 1) k = (0, P 1 k)) ∧ (∀ k, k < 48 → h (c + 2) k = (0, P 2 k)) ∧ (∀ k : Nat, (k : Int) < P 0 3 → h (c + 4) k = (1, P 4 k) ∧ h (c + 5) k = (0, P 5 k) ∧ h (c + 7) k = (0, P 7 k))
theorem cP.s {c : Nat} {P : PT} {h : zH} (g : cP c P h) : sCl c P h := ⟨⟨g.1.1, g.1.2.1, g.1.2.2.1, g.1.2.2.2.1⟩, g.2.1, g.2.2.1, fun k hk => ⟨(g.2.2.2.2 k hk).1, (g.2.2.2.2 k hk).2.1, (g.2.2.2.2 k hk).2.2.2.1⟩⟩
def oFl (c b : Nat) (h : zH) : Prop := ((h (c + 10) 0).2 = -1 ∧ (h 126 (550 * b + 275)).2 = 0) ∨ (0 ≤ (h (c + 10) 0).2 ∧ (h 126 (550 * b + 275)).2 = 1)
def sLd (c b : Nat) (h : zH) : Prop := ∃ P, sCl c P h ∧ rP b P h ∧ lB P ∧ oFl c b h
def sJ (j : Nat) : Prop := j < 4 ∨ (5 ≤ j ∧ j < 101) ∨ (251 ≤ j ∧ j < 263) ∨ j = 275
def cK (c c' : Nat) (h h' : zH) : Prop := (∀ k, k < 4 → h' c' k = h c k) ∧ (∀ k, k < 48 → h' (c' + 1) k = h (c + 1) k) ∧ (∀ k, k < 48 → h' (c' + 2) k = h (c + 2) k) ∧ (∀ k, k < 6 → h' (c' + 4) k = h (c + 4) k ∧ h' (c' + 5) k = h (c + 5) k ∧ h' (c' + 7) k = h (c + 7) k) ∧ h' (c' + 10) 0 = h (c + 10) 0
def bK (b b' : Nat) (h h' : zH) : Prop := (∀ j, sJ j → h' 126 (550 * b' + j) = h 126 (550 * b + j)) ∧ ∀ k, k < 6 → h' 128 (6 * b' + k) = h 128 (6 * b + k)
theorem cK.trans {c c' c'' : Nat} {h h' h'' : zH} (k : cK c c' h h') (m : cK c' c'' h' h'') : cK c c'' h h'' := ⟨fun q hq => (m.1 q hq).trans (k.1 q hq), fun q hq => (m.2.1 q hq).trans (k.2.1 q hq), fun q hq => (m.2.2.1 q hq).trans (k.2.2.1 q hq), fun q hq => ⟨(m.2.2.2.1 q hq).1.trans (k.2.2.2.1 q hq).1, (m.2.2.2.1 q hq).2.1.trans (k.2.2.2.1 q hq).2.1, (m.2.2.2.1 q hq).2.2.trans (k.2.2.2.1 q hq).2.2⟩, m.2.2.2.2.trans k.2.2.2.2⟩
theorem bK.trans {b b' b'' : Nat} {h h' h'' : zH} (k : bK b b' h h') (m : bK b' b'' h' h'') : bK b b'' h h'' := ⟨fun j hj => (m.1 j hj).trans (k.1 j hj), fun q hq => (m.2 q hq).trans (k.2 q hq)⟩
theorem sCl.tr {c c' : Nat} {P : PT} {h h' : zH} (g : sCl c P h) (hm : P 0 3 ≤ 6) (k : cK c c' h h') : sCl c' P h' := by
  obtain ⟨⟨a0, a1, a2, a3⟩, a4, a5, a6⟩ := g
  obtain ⟨k0, k1, k2, k3, k4⟩ := k
  refine ⟨⟨(k0 0 (by decide)).trans a0, (k0 1 (by decide)).trans a1, (k0 2 (by decide)).trans a2, (k0 3 (by decide)).trans a3⟩, fun q hq => (k1 q hq).trans (a4 q hq), fun q hq => (k2 q hq).trans (a5 q hq), fun q hq => ?_⟩
  obtain ⟨x1, x2, x3⟩ := a6 q hq
  obtain ⟨y1, y2, y3⟩ := k3 q (by omega)
  exact ⟨y1.trans x1, y2.trans x2, y3.trans x3⟩
theorem pIxy {w x y : Int} (hw : w ≤ 8) (x1 : 0 ≤ x) (x2 : x < w) (y1 : 0 ≤ y) (y2 : y < 6) : 0 ≤ w * y + x ∧ w * y + x < 48 := by
  have : y = 0 ∨ y = 1 ∨ y = 2 ∨ y = 3 ∨ y = 4 ∨ y = 5 := by omega
  rcases this with rfl | rfl | rfl | rfl | rfl | rfl <;> omega
theorem rP.tr {b b' : Nat} {P : PT} {h h' : zH} (g : rP b P h) (lb : lB P) (m : bK b b' h h') : rP b' P h' := by
  obtain ⟨⟨b0, b1, b2, b3⟩, b4, b5⟩ := g
  obtain ⟨m0, m1⟩ := m
  have hw := lb.1.2
  have hm := lb.2.2.2.2
  refine ⟨⟨(m0 0 (Or.inl (by decide))).trans b0, (m0 1 (Or.inl (by decide))).trans b1, (m0 2 (Or.inl (by decide))).trans b2, (m0 3 (Or.inl (by decide))).trans b3⟩, fun x y x1 x2 y1 y2 => ?_, fun q hq => ?_⟩
  · have i := pIxy hw x1 x2 y1 y2
    obtain ⟨z1, z2⟩ := b4 x y x1 x2 y1 y2
    exact ⟨(m0 _ (Or.inr (Or.inl ⟨by omega, by omega⟩))).trans z1, (m0 _ (Or.inr (Or.inl ⟨by omega, by omega⟩))).trans z2⟩
  · obtain ⟨z1, z2, z3⟩ := b5 q hq
    exact ⟨(m1 q (by omega)).trans z1, (m0 _ (Or.inr (Or.inr (Or.inl ⟨by omega, by omega⟩)))).trans z2, (m0 _ (Or.inr (Or.inr (Or.inl ⟨by omega, by omega⟩)))).trans z3⟩
theorem oFl.tr {c c' b b' : Nat} {h h' : zH} (o : oFl c b h) (k : h' (c' + 10) 0 = h (c + 10) 0) (m : h' 126 (550 * b' + 275) = h 126 (550 * b + 275)) : oFl c' b' h' := by
  unfold oFl at o ⊢
  rw [k, m]
  exact o
theorem sLd.tr {c c' b b' : Nat} {h h' : zH} (g : sLd c b h) (k : cK c c' h h') (m : bK b b' h h') : sLd c' b' h' := by
  obtain ⟨P, a1, a2, lb, o⟩ := g
  exact ⟨P, a1.tr lb.2.2.2.2 k, a2.tr lb m, lb, o.tr k.2.2.2.2 (m.1 275 (Or.inr (Or.inr (Or.inr rfl))))⟩
abbrev cLs (c : Nat) : aM := [(c, 0, 3), (c + 1, 0, 47), (c + 2, 0, 47), (c + 4, 0, 5), (c + 5, 0, 5), (c + 7, 0, 5), (c + 10, 0, 0)]
abbrev bLs (b : Nat) : aM := [(126, 550 * b, 550 * b + 3), (126, 550 * b + 5, 550 * b + 100), (126, 550 * b + 251, 550 * b + 262), (126, 550 * b + 275, 550 * b + 275), (128, 6 * b, 6 * b + 5)]
abbrev cAll : aM := cLs 24 ++ (cLs 39 ++ (cLs 55 ++ (cLs 70 ++ cLs 85)))
abbrev bAll : aM := bLs 0 ++ (bLs 1 ++ (bLs 2 ++ bLs 3))
abbrev tp0 : aM := [(10, 1, 1), (10, 9, 10), (11, 0, 899), (121, 8, 8), (121, 10, 11), (125, 0, 899), (0, 7, 8), (0, 10, 10), (121, 23, 23)]
abbrev tpS : aM := tp0 ++ (cAll ++ bAll)
theorem cK_S {S : aM} {c : Nat} {h h' : zH} (he : ∀ a b, aIn S a b → h' a b = h a b) (hc : ∀ e ∈ cLs c, e ∈ S) : cK c c h h' := by
  have m0 : (c, 0, 3) ∈ S := hc _ List.mem_cons_self
  have m1 : (c + 1, 0, 47) ∈ S := hc _ (List.mem_cons_of_mem _ List.mem_cons_self)
  have m2 : (c + 2, 0, 47) ∈ S := hc _ (List.mem_cons_of_mem _ (List.mem_cons_of_mem _ List.mem_cons_self))
  have m3 : (c + 4, 0, 5) ∈ S := hc _ (List.mem_cons_of_mem _ (List.mem_cons_of_mem _ (List.mem_cons_of_mem _ List.mem_cons_self)))
  have m4 : (c + 5, 0, 5) ∈ S := hc _ (List.mem_cons_of_mem _ (List.mem_cons_of_mem _ (List.mem_cons_of_mem _ (List.mem_cons_of_mem _ List.mem_cons_self))))
  have m5 : (c + 7, 0, 5) ∈ S := hc _ (List.mem_cons_of_mem _ (List.mem_cons_of_mem _ (List.mem_cons_of_mem _ (List.mem_cons_of_mem _ (List.mem_cons_of_mem _ List.mem_cons_self)))))
  have m6 : (c + 10, 0, 0) ∈ S := hc _ (List.mem_cons_of_mem _ (List.mem_cons_of_mem _ (List.mem_cons_of_mem _ (List.mem_cons_of_mem _ (List.mem_cons_of_mem _ (List.mem_cons_of_mem _ List.mem_cons_self))))))
  exact ⟨fun k hk => he _ _ ⟨_, m0, rfl, Nat.zero_le _, Nat.le_of_lt_succ hk⟩, fun k hk => he _ _ ⟨_, m1, rfl, Nat.zero_le _, Nat.le_of_lt_succ hk⟩, fun k hk => he _ _ ⟨_, m2, rfl, Nat.zero_le _, Nat.le_of_lt_succ hk⟩, fun k hk => ⟨he _ _ ⟨_, m3, rfl, Nat.zero_le _, Nat.le_of_lt_succ hk⟩, he _ _ ⟨_, m4, rfl, Nat.zero_le _, Nat.le_of_lt_succ hk⟩, he _ _ ⟨_, m5, rfl, Nat.zero_le _, Nat.le_of_lt_succ hk⟩⟩, he _ _ ⟨_, m6, rfl, Nat.zero_le _, Nat.le_refl _⟩⟩
theorem bK_S {S : aM} {b : Nat} {h h' : zH} (he : ∀ a k, aIn S a k → h' a k = h a k) (hb : ∀ e ∈ bLs b, e ∈ S) : bK b b h h' := by
  have m0 : (126, 550 * b, 550 * b + 3) ∈ S := hb _ List.mem_cons_self
  have m1 : (126, 550 * b + 5, 550 * b + 100) ∈ S := hb _ (List.mem_cons_of_mem _ List.mem_cons_self)
  have m2 : (126, 550 * b + 251, 550 * b + 262) ∈ S := hb _ (List.mem_cons_of_mem _ (List.mem_cons_of_mem _ List.mem_cons_self))
  have m3 : (126, 550 * b + 275, 550 * b + 275) ∈ S := hb _ (List.mem_cons_of_mem _ (List.mem_cons_of_mem _ (List.mem_cons_of_mem _ List.mem_cons_self)))
  have m4 : (128, 6 * b, 6 * b + 5) ∈ S := hb _ (List.mem_cons_of_mem _ (List.mem_cons_of_mem _ (List.mem_cons_of_mem _ (List.mem_cons_of_mem _ List.mem_cons_self))))
  refine ⟨fun j hj => ?_, fun k hk => he _ _ ⟨_, m4, rfl, Nat.le_add_right _ _, Nat.add_le_add_left (Nat.le_of_lt_succ hk) _⟩⟩
  rcases hj with e | e | e | e
  · exact he _ _ ⟨_, m0, rfl, Nat.le_add_right _ _, Nat.add_le_add_left (Nat.le_of_lt_succ e) _⟩
  · exact he _ _ ⟨_, m1, rfl, Nat.add_le_add_left e.1 _, Nat.add_le_add_left (Nat.le_of_lt_succ e.2) _⟩
  · exact he _ _ ⟨_, m2, rfl, Nat.add_le_add_left e.1 _, Nat.add_le_add_left (Nat.le_of_lt_succ e.2) _⟩
  · exact he _ _ ⟨_, m3, rfl, Nat.add_le_add_left (Nat.le_of_eq e.symm) _, Nat.add_le_add_left (Nat.le_of_eq e) _⟩
def cOb (c : Nat) : Prop := c = 24 ∨ c = 39 ∨ c = 55 ∨ c = 70 ∨ c = 85
theorem cAll_in {c : Nat} (hc : cOb c) : ∀ e ∈ cLs c, e ∈ cAll := by
  rcases hc with rfl | rfl | rfl | rfl | rfl <;> decide
theorem bAll_in {b : Nat} (hb : b < 4) : ∀ e ∈ bLs b, e ∈ bAll := by
  have : b = 0 ∨ b = 1 ∨ b = 2 ∨ b = 3 := by omega
  rcases this with rfl | rfl | rfl | rfl <;> decide
theorem cK_fr {M : aM} {h g : zH} (f : aFr M h g) (hf : lFree cAll M = true) {c : Nat} (hc : cOb c) : cK c c h g := cK_S (S := cAll) (fun _ _ hi => f.keep hf hi) (cAll_in hc)
theorem bK_fr {M : aM} {h g : zH} (f : aFr M h g) (hf : lFree bAll M = true) {b : Nat} (hb : b < 4) : bK b b h g := bK_S (S := bAll) (fun _ _ hi => f.keep hf hi) (bAll_in hb)
theorem bK_rG {s b : Nat} {h g : zH} (hs : s ≤ b) (hb : b < 4) (f : rG s h g) : bK b b h g := by
  refine ⟨fun j hj => f _ _ (fun c => ?_), fun k hk => f _ _ (fun c => by omega)⟩
  have : j < 276 := by
    rcases hj with e | e | e | e <;> omega
  omega
def lFa (h : zH) : Prop := (h 10 9).2 = (h 121 10).2 ∧ (h 10 10).2 = (h 121 11).2
def lMk (h : zH) : Prop := (h 0 10).2 = (h 121 23).2 ∧ ∀ m : Nat, m < 3 → (m : Int) < (h 0 10).2 → sLd (55 + 15 * m) (m + 1) h
def lCu (h : zH) : Prop := ∃ r c, lSw r c ∧ h 0 7 = (2, (c : Int)) ∧ h 0 8 = (2, (r : Int)) ∧ sLd c 0 h
/-- all that the readers' claims say of class and reference -/
def lR (h : zH) : Prop := lT h ∧ lFa h ∧ lMk h ∧ lCu h
theorem lSw.ob {r c : Nat} (h : lSw r c) : cOb c := by
  rcases h with ⟨_, rfl⟩ | ⟨_, rfl⟩
  · exact Or.inr (Or.inl rfl)
  · exact Or.inl rfl
theorem mOb {m : Nat} (hm : m < 3) : cOb (55 + 15 * m) := by
  have : m = 0 ∨ m = 1 ∨ m = 2 := by omega
  rcases this with rfl | rfl | rfl
  · exact Or.inr (Or.inr (Or.inl rfl))
  · exact Or.inr (Or.inr (Or.inr (Or.inl rfl)))
  · exact Or.inr (Or.inr (Or.inr (Or.inr rfl)))
theorem tpS_0 {a k : Nat} (h : aIn tp0 a k) : aIn tpS a k := by
  obtain ⟨e, he, x⟩ := h
  exact ⟨e, List.mem_append_left _ he, x⟩
theorem tpS_c {c : Nat} (hc : cOb c) : ∀ e ∈ cLs c, e ∈ tpS := fun e he => List.mem_append_right _ (List.mem_append_left _ (cAll_in hc e he))
theorem tpS_b {b : Nat} (hb : b < 4) : ∀ e ∈ bLs b, e ∈ tpS := fun e he => List.mem_append_right _ (List.mem_append_right _ (bAll_in hb e he))
theorem lT.of {h h' : zH} (hT : lT h) (e1 : h' 10 1 = h 10 1) (e2 : ∀ q, q ≤ 899 → h' 11 q = h 11 q) (e3 : h' 121 8 = h 121 8) (e4 : ∀ q, q ≤ 899 → h' 125 q = h 125 q) : lT h' := tEq.k hT ⟨congrArg Prod.snd e1, fun q hq => congrArg Prod.snd (e2 q hq)⟩ ⟨congrArg Prod.snd e3, fun q hq => congrArg Prod.snd (e4 q hq)⟩
/-- the tape alone, the faults alone, the marks alone, the LAND alone: kept where their places are -/
theorem lFa.of {h h' : zH} (g : lFa h) (he : ∀ a k, aIn tp0 a k → h' a k = h a k) : lFa h' := by
  unfold lFa at g ⊢
  rw [he 10 9 ⟨(10, 9, 10), by decide, rfl, by decide, by decide⟩, he 10 10 ⟨(10, 9, 10), by decide, rfl, by decide, by decide⟩, he 121 10 ⟨(121, 10, 11), by decide, rfl, by decide, by decide⟩, he 121 11 ⟨(121, 10, 11), by decide, rfl, by decide, by decide⟩]
  exact g
theorem lMk.of {h h' : zH} (g : lMk h) (e1 : h' 0 10 = h 0 10) (e2 : h' 121 23 = h 121 23) (hc : ∀ m, m < 3 → cK (55 + 15 * m) (55 + 15 * m) h h') (hb : ∀ m, m < 3 → bK (m + 1) (m + 1) h h') : lMk h' := by
  unfold lMk at g ⊢
  rw [e1, e2]
  exact ⟨g.1, fun m hm hq => (g.2 m hm hq).tr (hc m hm) (hb m hm)⟩
theorem lR_S : lRs tpS lR := fun h h' he hR => by
  obtain ⟨hT, hF, hM, r, c, s1, s2, s3, hL⟩ := hR
  have h0 : ∀ a k, aIn tp0 a k → h' a k = h a k := fun a k hi => he a k (tpS_0 hi)
  refine ⟨hT.of (h0 _ _ ⟨(10, 1, 1), by decide, rfl, by decide, by decide⟩) (fun q hq => h0 _ _ ⟨(11, 0, 899), by decide, rfl, Nat.zero_le _, hq⟩) (h0 _ _ ⟨(121, 8, 8), by decide, rfl, by decide, by decide⟩) (fun q hq => h0 _ _ ⟨(125, 0, 899), by decide, rfl, Nat.zero_le _, hq⟩), hF.of h0, hM.of (h0 _ _ ⟨(0, 10, 10), by decide, rfl, by decide, by decide⟩) (h0 _ _ ⟨(121, 23, 23), by decide, rfl, by decide, by decide⟩) (fun m hm => cK_S he (tpS_c (mOb hm))) (fun m hm => bK_S he (tpS_b (by omega))), r, c, s1, (h0 _ _ ⟨(0, 7, 8), by decide, rfl, by decide, by decide⟩).trans s2, (h0 _ _ ⟨(0, 7, 8), by decide, rfl, by decide, by decide⟩).trans s3, hL.tr (cK_S he (tpS_c s1.ob)) (bK_S he (tpS_b (by decide)))⟩
theorem lR.off {M : aM} {h h' : zH} (hR : lR h) (hf : lFree tpS M = true) (he : ∀ a b, ¬ aIn M a b → h' a b = h a b) : lR h' := lR_S h h' (fun a b hi => he a b (lFree_ok hf hi)) hR
def iniP : PT := fun a b => if a = 0 ∧ b = 0 then 2 else if a = 0 ∧ (b = 1 ∨ b = 2) then 1 else 0
theorem ini_c : (hIni 24 0 = (0, 2) ∧ hIni 24 1 = (0, 1) ∧ hIni 24 2 = (0, 1) ∧ hIni 24 3 = (0, 0)) ∧ (∀ k, k < 48 → hIni 25 k = (0, 0)) ∧ (∀ k, k < 48 → hIni 26 k = (0, 0)) ∧ hIni 34 0 = (0, -1) := by decide +kernel
theorem ini_b : (hIni 126 0 = (0, 2) ∧ hIni 126 1 = (0, 1) ∧ hIni 126 2 = (0, 1) ∧ hIni 126 3 = (0, 0)) ∧ (∀ k, k < 96 → hIni 126 (5 + k) = (0, 0)) ∧ hIni 126 275 = (0, 0) := by decide +kernel
theorem ini_LS : sLd 24 0 hIni := by
  refine ⟨iniP, ⟨ini_c.1, ini_c.2.1, ini_c.2.2.1, fun k hk => ?_⟩, ⟨ini_b.1, fun x y x1 x2 y1 y2 => ?_, fun k hk => ?_⟩, by unfold lB; decide, Or.inl ⟨congrArg Prod.snd ini_c.2.2.2, congrArg Prod.snd ini_b.2.2⟩⟩
  · have hk : (k : Int) < 0 := hk
    omega
  · have x2 : x < 2 := x2
    have i := pIxy (w := 2) (by decide) x1 x2 y1 y2
    have a1 := ini_b.2.1 (2 * y + x).toNat (by omega)
    have a2 := ini_b.2.1 (48 + (2 * y + x).toNat) (by omega)
    constructor
    · show hIni 126 (550 * 0 + (5 + (2 * y + x)).toNat) = (0, 0)
      rw [show 550 * 0 + (5 + (2 * y + x)).toNat = 5 + (2 * y + x).toNat by omega]
      exact a1
    · show hIni 126 (550 * 0 + (53 + (2 * y + x)).toNat) = (0, 0)
      rw [show 550 * 0 + (53 + (2 * y + x)).toNat = 5 + (48 + (2 * y + x).toNat) by omega]
      exact a2
  · have hk : (k : Int) < 0 := hk
    omega
theorem lR_ini : lR hIni := by
  refine ⟨⟨(by decide +kernel : (hIni 10 1).2 = (hIni 121 8).2), fun q _ hq => ?_⟩, (by decide +kernel : (hIni 10 9).2 = (hIni 121 10).2 ∧ (hIni 10 10).2 = (hIni 121 11).2), ⟨(by decide +kernel : (hIni 0 10).2 = (hIni 121 23).2), fun m _ hm => ?_⟩, 39, 24, Or.inr ⟨rfl, rfl⟩, (by decide +kernel : hIni 0 7 = (2, 24)), (by decide +kernel : hIni 0 8 = (2, 39)), ini_LS⟩
  · have e : (hIni 10 1).2 = 0 := by decide +kernel
    have hq : (q : Int) < (hIni 10 1).2 := hq
    omega
  · have e : (hIni 0 10).2 = 0 := by decide +kernel
    omega
theorem lRk_feed {D : zD} (_ : ∀ i, -2147483648 ≤ D.2 i ∧ D.2 i ≤ 2147483647) {h h1 h2 : zH} {a b c d e v1 v2 : Int} (hZ : lZ D h) (hZ1 : lZ D h1) (hR : lR h) (z1 : zRun D TLw 614 155 0 (h, zargs 0 [(2, 0), (0, a), (0, b), (0, c), (0, d), (0, e)], []) (h1, some (0, v1))) (f1 : aFr lM_155 h h1) (z2 : zRun D TLw 614 227 0 (h1, zargs 0 [(2, 121), (0, a), (0, b), (0, c), (0, d), (0, e)], []) (h2, some (0, v2))) (f2 : aFr lM_227 h1 h2) : lR h2 ∧ v1 = v2 := by
  obtain ⟨t, e⟩ := lT_feed hZ hZ1 hR.1 z1 f1 z2 f2
  obtain ⟨hT, hF, hM, r, c, s1, s2, s3, hL⟩ := hR
  have ka : ∀ {S : aM}, lFree S lM_155 = true → lFree S lM_227 = true → ∀ a k, aIn S a k → h2 a k = h a k := fun q1 q2 a k hi => (f2.keep q2 hi).trans (f1.keep q1 hi)
  have k0 := ka (S := [(10, 9, 10), (121, 10, 11), (0, 7, 8), (0, 10, 10), (121, 23, 23)]) (by decide +kernel) (by decide +kernel)
  have kc := ka (S := cAll) (by decide +kernel) (by decide +kernel)
  have kb := ka (S := bAll) (by decide +kernel) (by decide +kernel)
  refine ⟨⟨t, ?_, hM.of (k0 _ _ ⟨(0, 10, 10), by decide, rfl, by decide, by decide⟩) (k0 _ _ ⟨(121, 23, 23), by decide, rfl, by decide, by decide⟩) (fun m hm => cK_S kc (cAll_in (mOb hm))) (fun m hm => bK_S kb (bAll_in (by omega))), r, c, s1, (k0 _ _ ⟨(0, 7, 8), by decide, rfl, by decide, by decide⟩).trans s2, (k0 _ _ ⟨(0, 7, 8), by decide, rfl, by decide, by decide⟩).trans s3, hL.tr (cK_S kc (cAll_in s1.ob)) (bK_S kb (bAll_in (by decide)))⟩, e⟩
  unfold lFa at hF ⊢
  rw [k0 10 9 ⟨(10, 9, 10), by decide, rfl, by decide, by decide⟩, k0 10 10 ⟨(10, 9, 10), by decide, rfl, by decide, by decide⟩, k0 121 10 ⟨(121, 10, 11), by decide, rfl, by decide, by decide⟩, k0 121 11 ⟨(121, 10, 11), by decide, rfl, by decide, by decide⟩]
  exact hF
theorem lRk_land {D : zD} (_ : ∀ i, -2147483648 ≤ D.2 i ∧ D.2 i ≤ 2147483647) {h h1 h2 : zH} {n v1 v2 : Int} (hZ : lZ D h) (hZ1 : lZ D h1) (hR : lR h) (z1 : zRun D TLw 614 162 0 (h, zargs 0 [(2, 0), (0, n)], []) (h1, some (0, v1))) (f1 : aFr lM_162 h h1) (z2 : zRun D TLw 614 268 0 (h1, zargs 0 [(2, 121), (0, n)], []) (h2, some (0, v2))) (f2 : aFr lM_268 h1 h2) : lR h2 ∧ v1 = v2 := by
  have hR' := hR
  obtain ⟨hT, hF, hM, r, c, s1, s2, s3, hL⟩ := hR'
  have t := lT_land hZ hZ1 hT z1 f1 z2 f2
  have hb : ∀ b, b < 4 → bK b b h h1 := fun b hb => bK_fr f1 (by decide +kernel) hb
  have hc : ∀ c, cOb c → cK c c h1 h2 := fun c hc => cK_fr f2 (by decide +kernel) hc
  have k2 : ∀ a k, aIn [(0, 7, 8), (0, 10, 10), (10, 9, 10), (121, 23, 23)] a k → h2 a k = h1 a k := fun a k hi => f2.keep (S := [(0, 7, 8), (0, 10, 10), (10, 9, 10), (121, 23, 23)]) (by decide +kernel) hi
  have e7 := k2 0 7 ⟨(0, 7, 8), by decide, rfl, by decide, by decide⟩
  have e8 := k2 0 8 ⟨(0, 7, 8), by decide, rfl, by decide, by decide⟩
  have e10 := k2 0 10 ⟨(0, 10, 10), by decide, rfl, by decide, by decide⟩
  have e9 := k2 10 9 ⟨(10, 9, 10), by decide, rfl, by decide, by decide⟩
  have e9' := k2 10 10 ⟨(10, 9, 10), by decide, rfl, by decide, by decide⟩
  have e23 : h2 121 23 = h 121 23 := (k2 121 23 ⟨(121, 23, 23), by decide, rfl, by decide, by decide⟩).trans (f1.keep (S := [(121, 23, 23)]) (by decide +kernel) ⟨(121, 23, 23), by decide, rfl, by decide, by decide⟩)
  rcases land_both s1 s2 s3 hZ hZ1 hT z1 f1 z2 f2 with ⟨a1, a2, a3, a4⟩ | ⟨lf, q10, hh⟩
  · refine ⟨hR.off (M := [(0, 0, 0), (121, 0, 1)]) (by decide +kernel) (fun a b hn => ?_), by omega⟩
    rw [a4 a b (fun e => hn ⟨(121, 0, 1), by decide, e.1.symm, Nat.zero_le _, e.2⟩), a3]
    exact zset_ne (fun e => hn ⟨(0, 0, 0), by decide, e.1.symm, Nat.zero_le _, Nat.le_of_eq e.2⟩)
  · have lm : ∀ m, m < 3 → cK (55 + 15 * m) (55 + 15 * m) h h2 := fun m hm => by
      refine cK.trans ⟨fun k _ => lf _ _ ?_, fun k _ => lf _ _ ?_, fun k _ => lf _ _ ?_, fun k _ => ⟨lf _ _ ?_, lf _ _ ?_, lf _ _ ?_⟩, lf _ _ ?_⟩ (hc _ (mOb hm)) <;> · rcases s1 with ⟨rfl, rfl⟩ | ⟨rfl, rfl⟩ <;> omega
    rcases hh with ⟨e, a1, a2, a3, a4, a5, a6, a7, a8, a9⟩ | ⟨P, a1, a2, a3, a4, a5, a6, a7, a8, a9, a10, a11, a12, a13, a14, a15⟩
    · refine ⟨⟨t, ⟨?_, ?_⟩, hM.of (e10.trans q10) e23 lm (fun m hm => (hb _ (by omega)).trans (bK_rG (Nat.zero_le _) (by omega) a9)), r, c, s1, e7.trans a5, e8.trans a6, ?_⟩, by omega⟩
      · rw [e9, a3, a7]
      · rw [e9', a4, a8]
      · refine hL.tr (cK.trans ⟨fun k _ => lf _ _ ?_, fun k _ => lf _ _ ?_, fun k _ => lf _ _ ?_, fun k _ => ⟨lf _ _ ?_, lf _ _ ?_, lf _ _ ?_⟩, lf _ _ ?_⟩ (hc _ s1.ob)) ((hb _ (by decide)).trans (bK_rG (Nat.zero_le _) (by decide) a9)) <;> · rcases s1 with ⟨rfl, rfl⟩ | ⟨rfl, rfl⟩ <;> omega
    · have ho := hc r s1.symm.ob
      refine ⟨⟨t, ⟨?_, ?_⟩, hM.of (e10.trans q10) e23 lm (fun m hm => (hb _ (by omega)).trans (bK_rG (by omega) (by omega) a15)), c, r, s1.symm, e7.trans a5, e8.trans a6, P, a7.s.tr a8.2.2.2.2 ho, a13, a8, Or.inl ⟨?_, ?_⟩⟩, by omega⟩
      · rw [e9, a3, a11]
      · rw [e9', a4, a12]
      · rw [ho.2.2.2.2, a9]
      · rw [a14.2 275 (Or.inr (Or.inr (by decide)))]
theorem zHv.eta {h : zH} (hv : zHv h) {r k : Nat} (hc : vCode r k = some 0) : h r k = (0, (h r k).2) := Prod.ext (hv.1 r k 0 hc (by decide)) rfl
