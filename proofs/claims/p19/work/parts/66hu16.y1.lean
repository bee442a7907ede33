/-! ORDERS AS A TREE, AND WHAT CARRYING THEM OUT COMES TO, PURE (words' numbers: 8 bite .. 14 home, 21 stop; 16 eaten, 17 arrives, 18 crumbs, 19 loop; 20 end) -/
abbrev OT := Lean.RArray Unit
abbrev oB (d : Nat) : Prop := 16 ≤ d % 32 ∧ d % 32 ≤ 19
def oD (d k a b : Nat) : Prop := d % 32 = k ∧ d / 32 % 128 = a ∧ d / 4096 = b
def oE (k a b : Nat) : Nat := k + 32 * a + 4096 * b
theorem oD_E {k a b : Nat} (hk : k < 32) (ha : a < 128) : oD (oE k a b) k a b := by
  unfold oD oE
  omega
def oNil : OT := .leaf ()
def tN : OT → Nat
  | .leaf _ => 0
  | .branch d y r => if oB d then tN y + tN r + 2 else tN r + 1
def tS : OT → Nat
  | .leaf _ => 0
  | .branch d y r => if oB d then tS y + tS r + 1 else tS r + 1
def tA : OT → OT → OT
  | .leaf _, t => t
  | .branch d y r, t => .branch d y (tA r t)
def oIt (P : PT) (k a b : Nat) : Prop := ((k = 8 ∨ k = 10 ∨ k = 16) → (a : Int) < P 0 2 ∧ gIn P b) ∧ (k = 9 → (a : Int) < P 0 2) ∧ (k = 11 → (a : Int) < P 0 2 ∧ (b : Int) < P 0 2) ∧ (k = 12 → (a : Int) < P 0 2 ∧ b ≤ 12) ∧ ((k = 13 ∨ k = 17) → (a : Int) < P 0 3) ∧ (k = 19 → 1 ≤ a ∧ a ≤ 99) ∧ (k = 18 → (a = 60 ∨ a = 61 ∨ a = 62) ∧ b ≤ 9999)
def oOk (P : PT) : OT → Prop
  | .leaf _ => True
  | .branch d y r => if oB d then oIt P (d % 32) (d / 32 % 128) (d / 4096) ∧ oOk P y ∧ oOk P r else ((8 ≤ d % 32 ∧ d % 32 ≤ 14) ∨ d % 32 = 21) ∧ oIt P (d % 32) (d / 32 % 128) (d / 4096) ∧ oOk P r
section OTU
variable {d k a b : Nat} {y r : OT}
theorem oB_k (hB : oB d) (hd : oD d k a b) : 16 ≤ k ∧ k ≤ 19 := by
  obtain ⟨rfl, rfl, rfl⟩ := hd
  exact hB
theorem tN_b (hB : oB d) : tN (.branch d y r) = tN y + tN r + 2 := if_pos hB
theorem tN_a (hB : ¬ oB d) : tN (.branch d y r) = tN r + 1 := if_neg hB
theorem tS_b (hB : oB d) : tS (.branch d y r) = tS y + tS r + 1 := if_pos hB
theorem tS_a (hB : ¬ oB d) : tS (.branch d y r) = tS r + 1 := if_neg hB
theorem oOk_b {P : PT} (hB : oB d) (hd : oD d k a b) : oOk P (.branch d y r) = (oIt P k a b ∧ oOk P y ∧ oOk P r) := by
  obtain ⟨rfl, rfl, rfl⟩ := hd
  exact if_pos hB
theorem oOk_a {P : PT} (hB : ¬ oB d) (hd : oD d k a b) : oOk P (.branch d y r) = (((8 ≤ k ∧ k ≤ 14) ∨ k = 21) ∧ oIt P k a b ∧ oOk P r) := by
  obtain ⟨rfl, rfl, rfl⟩ := hd
  exact if_neg hB
end OTU
def pSh (P P' : PT) : Prop := P' 0 0 = P 0 0 ∧ P' 0 1 = P 0 1 ∧ P' 0 2 = P 0 2 ∧ P' 0 3 = P 0 3
theorem pSh.rfl {P : PT} : pSh P P := ⟨Eq.refl _, Eq.refl _, Eq.refl _, Eq.refl _⟩
theorem pSh.trans {P P' P2 : PT} (a : pSh P P') (b : pSh P' P2) : pSh P P2 := ⟨b.1.trans a.1, b.2.1.trans a.2.1, b.2.2.1.trans a.2.2.1, b.2.2.2.trans a.2.2.2⟩
theorem pSh.gin {P P' : PT} (a : pSh P P') {q : Nat} : gIn P' q ↔ gIn P q := by
  unfold gIn
  rw [a.1, a.2.1]
theorem pSh.gj {P P' : PT} (a : pSh P P') (q : Nat) : gJ P' q = gJ P q := by
  unfold gJ
  rw [a.1]
theorem pSh.nb {P P' : PT} (a : pSh P P') (q d : Nat) : gNb P' q d = gNb P q d := by
  unfold gNb
  rw [a.1, a.2.1]
theorem pSh.it {P P' : PT} (a : pSh P P') {k x y : Nat} (h : oIt P k x y) : oIt P' k x y := by
  unfold oIt at h ⊢
  rw [a.2.2.1, a.2.2.2, a.gin]
  exact h
theorem pSh.ok {P P' : PT} (a : pSh P P') : ∀ {t : OT}, oOk P t → oOk P' t
  | .leaf _, _ => trivial
  | .branch d y r, h => by
    by_cases hB : oB d
    · rw [oOk_b hB ⟨Eq.refl _, Eq.refl _, Eq.refl _⟩] at h ⊢
      exact ⟨a.it h.1, a.ok h.2.1, a.ok h.2.2⟩
    · rw [oOk_a hB ⟨Eq.refl _, Eq.refl _, Eq.refl _⟩] at h ⊢
      exact ⟨h.1, a.it h.2.1, a.ok h.2.2⟩
/-- how orders lie in the class's rows (from flat place p) and in the reference's (from step s; block at o, WIDE w) -/
def cWd (c : Nat) (h : zH) (k a b p : Nat) : Prop := h (c + 11) p = (0, (k : Int)) ∧ h (c + 12) p = (0, (a : Int)) ∧ h (c + 13) p = (0, (b : Int))
def cBr (c : Nat) (h : zH) (p m : Nat) : Prop := h (c + 14) p = (0, (m : Int)) ∧ h (c + 11) m = (0, 20) ∧ h (c + 14) m = (0, (p : Int))
def cLay (c : Nat) (h : zH) : OT → Nat → Prop
  | .leaf _, _ => True
  | .branch d y r, p => if oB d then cWd c h (d % 32) (d / 32 % 128) (d / 4096) p ∧ cBr c h p (p + 1 + tN y) ∧ cLay c h y (p + 1) ∧ cLay c h r (p + tN y + 2) else cWd c h (d % 32) (d / 32 % 128) (d / 4096) p ∧ cLay c h r (p + 1)
theorem cLay_b {c : Nat} {h : zH} {d k a b p : Nat} {y r : OT} (hB : oB d) (hd : oD d k a b) : cLay c h (.branch d y r) p = (cWd c h k a b p ∧ cBr c h p (p + 1 + tN y) ∧ cLay c h y (p + 1) ∧ cLay c h r (p + tN y + 2)) := by
  obtain ⟨rfl, rfl, rfl⟩ := hd
  exact if_pos hB
theorem cLay_a {c : Nat} {h : zH} {d k a b p : Nat} {y r : OT} (hB : ¬ oB d) (hd : oD d k a b) : cLay c h (.branch d y r) p = (cWd c h k a b p ∧ cLay c h r (p + 1)) := by
  obtain ⟨rfl, rfl, rfl⟩ := hd
  exact if_neg hB
def rIt (o w : Nat) (h : zH) (k a b s : Nat) : Prop := h 126 (o + 277 + 9 * s) = (0, rKd k) ∧ ((k ≠ 14 ∧ k ≠ 18 ∧ k ≠ 21) → h 126 (o + 278 + 9 * s) = (0, (a : Int))) ∧ ((k = 8 ∨ k = 10 ∨ k = 16) → h 126 (o + 279 + 9 * s) = (0, ((w * (b / 8) + b % 8 : Nat) : Int))) ∧ ((k = 11 ∨ k = 12 ∨ k = 18) → h 126 (o + 279 + 9 * s) = (0, (b : Int))) ∧ ((16 ≤ k ∧ k ≤ 18) → h 126 (o + 283 + 9 * s) = (0, (k : Int) - 16)) ∧ (k = 18 → h 126 (o + 284 + 9 * s) = (0, (a : Int)))
def rLay (o w : Nat) (h : zH) : OT → Nat → Prop
  | .leaf _, _ => True
  | .branch d y r, s => if oB d then rIt o w h (d % 32) (d / 32 % 128) (d / 4096) s ∧ h 126 (o + 285 + 9 * s) = (0, ((s + 1 + tS y : Nat) : Int)) ∧ rLay o w h y (s + 1) ∧ rLay o w h r (s + 1 + tS y) else rIt o w h (d % 32) (d / 32 % 128) (d / 4096) s ∧ h 126 (o + 285 + 9 * s) = (0, ((s + 1 : Nat) : Int)) ∧ rLay o w h r (s + 1)
theorem rLay_b {o w : Nat} {h : zH} {d k a b s : Nat} {y r : OT} (hB : oB d) (hd : oD d k a b) : rLay o w h (.branch d y r) s = (rIt o w h k a b s ∧ h 126 (o + 285 + 9 * s) = (0, ((s + 1 + tS y : Nat) : Int)) ∧ rLay o w h y (s + 1) ∧ rLay o w h r (s + 1 + tS y)) := by
  obtain ⟨rfl, rfl, rfl⟩ := hd
  exact if_pos hB
theorem rLay_a {o w : Nat} {h : zH} {d k a b s : Nat} {y r : OT} (hB : ¬ oB d) (hd : oD d k a b) : rLay o w h (.branch d y r) s = (rIt o w h k a b s ∧ h 126 (o + 285 + 9 * s) = (0, ((s + 1 : Nat) : Int)) ∧ rLay o w h r (s + 1)) := by
  obtain ⟨rfl, rfl, rfl⟩ := hd
  exact if_neg hB
theorem cLay.tr {c c' : Nat} {h h' : zH} (f : ∀ j k, 11 ≤ j → j ≤ 14 → k < 60 → h' (c' + j) k = h (c + j) k) : ∀ {t : OT} {p : Nat}, cLay c h t p → p + tN t ≤ 60 → cLay c' h' t p
  | .leaf _, _, _, _ => trivial
  | .branch d y r, p, g, hp => by
    by_cases hB : oB d
    · rw [tN_b hB] at hp
      rw [cLay_b hB ⟨rfl, rfl, rfl⟩] at g ⊢
      obtain ⟨⟨g1, g2, g3⟩, ⟨g4, g5, g6⟩, g7, g8⟩ := g
      exact ⟨⟨(f 11 p (by omega) (by omega) (by omega)).trans g1, (f 12 p (by omega) (by omega) (by omega)).trans g2, (f 13 p (by omega) (by omega) (by omega)).trans g3⟩, ⟨(f 14 p (by omega) (by omega) (by omega)).trans g4, (f 11 _ (by omega) (by omega) (by omega)).trans g5, (f 14 _ (by omega) (by omega) (by omega)).trans g6⟩, g7.tr f (by omega), g8.tr f (by omega)⟩
    · rw [tN_a hB] at hp
      rw [cLay_a hB ⟨rfl, rfl, rfl⟩] at g ⊢
      obtain ⟨⟨g1, g2, g3⟩, g4⟩ := g
      exact ⟨⟨(f 11 p (by omega) (by omega) (by omega)).trans g1, (f 12 p (by omega) (by omega) (by omega)).trans g2, (f 13 p (by omega) (by omega) (by omega)).trans g3⟩, g4.tr f (by omega)⟩
theorem rIt.tr {o o' w : Nat} {h h' : zH} {k a b s : Nat} (f : ∀ j, 277 ≤ j → j < 547 → h' 126 (o' + j) = h 126 (o + j)) (g : rIt o w h k a b s) (hs : s < 30) : rIt o' w h' k a b s := by
  have e : ∀ j, 277 ≤ j → j ≤ 285 → h' 126 (o' + j + 9 * s) = h 126 (o + j + 9 * s) := fun j h1 h2 => by
    have := f (j + 9 * s) (by omega) (by omega)
    rw [← Nat.add_assoc, ← Nat.add_assoc] at this
    exact this
  obtain ⟨g1, g2, g3, g4, g5, g6⟩ := g
  exact ⟨(e 277 (by omega) (by omega)).trans g1, fun c => (e 278 (by omega) (by omega)).trans (g2 c), fun c => (e 279 (by omega) (by omega)).trans (g3 c), fun c => (e 279 (by omega) (by omega)).trans (g4 c), fun c => (e 283 (by omega) (by omega)).trans (g5 c), fun c => (e 284 (by omega) (by omega)).trans (g6 c)⟩
theorem rLay.tr {o o' w : Nat} {h h' : zH} (f : ∀ j, 277 ≤ j → j < 547 → h' 126 (o' + j) = h 126 (o + j)) : ∀ {t : OT} {s : Nat}, rLay o w h t s → s + tS t ≤ 30 → rLay o' w h' t s
  | .leaf _, _, _, _ => trivial
  | .branch d y r, s, g, hs => by
    by_cases hB : oB d
    · rw [tS_b hB] at hs
      rw [rLay_b hB ⟨rfl, rfl, rfl⟩] at g ⊢
      obtain ⟨g1, g2, g3, g4⟩ := g
      have := f (285 + 9 * s) (by omega) (by omega)
      rw [← Nat.add_assoc, ← Nat.add_assoc] at this
      exact ⟨g1.tr f (by omega), this.trans g2, g3.tr f (by omega), g4.tr f (by omega)⟩
    · rw [tS_a hB] at hs
      rw [rLay_a hB ⟨rfl, rfl, rfl⟩] at g ⊢
      obtain ⟨g1, g2, g3⟩ := g
      have := f (285 + 9 * s) (by omega) (by omega)
      rw [← Nat.add_assoc, ← Nat.add_assoc] at this
      exact ⟨g1.tr f (by omega), this.trans g2, g3.tr f (by omega)⟩
/-- the state of a run: the LAND, the seed, done, missed, bitten, stuck, over (1 stopped, 2 a step left) -/
abbrev RuS := PT × Int × Nat × Nat × Nat × Nat × Nat
def RuS.P (S : RuS) : PT := S.1
def RuS.r (S : RuS) : Int := S.2.1
def RuS.dn (S : RuS) : Nat := S.2.2.1
def RuS.ms (S : RuS) : Nat := S.2.2.2.1
def RuS.bt (S : RuS) : Nat := S.2.2.2.2.1
def RuS.sk (S : RuS) : Nat := S.2.2.2.2.2.1
def RuS.ov (S : RuS) : Nat := S.2.2.2.2.2.2
def sSr (S : RuS) (r : Int) : RuS := (S.P, r, S.dn, S.ms, S.bt, S.sk, S.ov)
def sSP (S : RuS) (P : PT) : RuS := (P, S.r, S.dn, S.ms, S.bt, S.sk, S.ov)
def sPr (S : RuS) (P : PT) (r : Int) : RuS := (P, r, S.dn, S.ms, S.bt, S.sk, S.ov)
def sPb (S : RuS) (P : PT) (b : Nat) : RuS := (P, S.r, S.dn, S.ms, b, S.sk, S.ov)
def sPk (S : RuS) (P : PT) (k : Nat) : RuS := (P, S.r, S.dn, S.ms, S.bt, k, S.ov)
def sOv (S : RuS) (v : Nat) : RuS := (S.P, S.r, S.dn, S.ms, S.bt, S.sk, v)
def sSm (S : RuS) (v : Nat) : RuS := (S.P, S.r, S.dn, v, S.bt, S.sk, S.ov)
def sSd (S : RuS) (v : Nat) : RuS := (S.P, S.r, v, S.ms, S.bt, S.sk, S.ov)
def dR (r : Int) : Int := (r * 2837 + 10331) % 65536
def dV (r n : Int) : Int := dR r / 8 % n
def dQ (P : PT) (r : Int) : Nat := 8 * (dV (dR r) (P 0 1)).toNat + (dV r (P 0 0)).toNat
def sMiss (S : RuS) : RuS := (sSm S (S.ms + 1))
def sEat (j q : Nat) (S : RuS) : RuS := if S.P 3 (48 * j + q) = 1 then S else (sPb S (pBite S.P j q) (S.bt + 1))
def sTo (P : PT) (r : Int) (q : Nat) : Nat := if gNb P q (dV r 4).toNat = -1 then q else (gNb P q (dV r 4).toNat).toNat
def sMouse (j : Nat) : Nat → Nat → RuS → RuS
  | 0, _, S => S
  | n + 1, q, S => sMouse j n (sTo S.P S.r q) (sEat j (sTo S.P S.r q) (sSr S (dR S.r)))
noncomputable def mC (P : PT) (m : Nat) : Int := yCost P (gCo P (P 8 m).toNat) (P 6 m).toNat (P 7 m).toNat
noncomputable def mP (P : PT) (m : Nat) : Nat → Nat := yPt P (gCo P (P 8 m).toNat) (P 6 m).toNat (P 7 m).toNat
noncomputable def mN (P : PT) (m : Nat) : Nat := yN P (gCo P (P 8 m).toNat) (P 6 m).toNat (P 7 m).toNat
noncomputable def mS (P : PT) (m : Nat) : Nat := wStop P (mP P m) (mN P m) 0
noncomputable def sMarch (m : Nat) (S : RuS) : RuS := if mC S.P m = -1 then sMiss S else (sPk S (pGo S.P m (mP S.P m) (mS S.P m)) (S.sk + (if mS S.P m < mN S.P m then 1 else 0)))
noncomputable def sDo (k a b : Nat) (S : RuS) : RuS :=
  if k = 8 then (if S.P 3 (48 * a + b) = 1 then sMiss S else sEat a b S)
  else if k = 9 then (if S.P 3 (48 * a + dQ S.P S.r) = 0 then (sPr S (pSt S.P a (dQ S.P S.r) 2) (dR (dR S.r))) else sMiss (sSr S (dR (dR S.r))))
  else if k = 10 then (if S.P 3 (48 * a + b) = 0 ∨ S.P 3 (48 * a + b) = 2 then (sSP S (pSt S.P a b 3)) else sMiss S)
  else if k = 11 then (if a = b then sMiss S else (sSP S (pSteam S.P a b)))
  else if k = 12 then sMouse a b (dQ S.P S.r) (sEat a (dQ S.P S.r) (sSr S (dR (dR S.r))))
  else if k = 13 then sMarch a S
  else if k = 14 then (sSP S (pHome S.P))
  else (sOv S 1)
def sSo (k a b : Nat) (P : PT) : Prop := (k = 16 ∧ P 3 (48 * a + b) = 1) ∨ (k = 17 ∧ P 6 a = P 7 a) ∨ (k = 18 ∧ ((a = 60 ∧ P 0 4 < (b : Int)) ∨ (a = 62 ∧ (b : Int) < P 0 4) ∨ (a = 61 ∧ P 0 4 = (b : Int))))
def evN (f : RuS → RuS) : Nat → RuS → RuS
  | 0, S => S
  | n + 1, S => evN f n (f S)
def sUp (S : RuS) : RuS := (sSd S (S.dn + 1))
def sLeft (S : RuS) : RuS := (sOv S 2)
noncomputable def evT (k a b : Nat) (P : PT) (S1 S2 : RuS) : RuS := @ite RuS (sSo k a b P) (Classical.propDecidable _) S1 S2
theorem evT_y {k a b : Nat} {P : PT} {S1 S2 : RuS} (h : sSo k a b P) : evT k a b P S1 S2 = S1 := if_pos h
theorem evT_n {k a b : Nat} {P : PT} {S1 S2 : RuS} (h : ¬ sSo k a b P) : evT k a b P S1 S2 = S2 := if_neg h
noncomputable def ev : OT → RuS → RuS
  | .leaf _, S => S
  | .branch d y r, S => if S.ov ≠ 0 then S else if S.dn = 300 then sLeft S else if oB d then ev r (if d % 32 = 19 then evN (fun S => ev y S) (d / 32 % 128) (sUp S) else evT (d % 32) (d / 32 % 128) (d / 4096) S.P (ev y (sUp S)) (sUp S)) else ev r (sDo (d % 32) (d / 32 % 128) (d / 4096) (sUp S))
theorem ev_ov {S : RuS} (h : S.ov ≠ 0) : ∀ t : OT, ev t S = S
  | .leaf _ => rfl
  | .branch _ _ _ => if_pos h
theorem evN_ov {S : RuS} (h : S.ov ≠ 0) (t : OT) : ∀ n : Nat, evN (ev t) n S = S
  | 0 => rfl
  | n + 1 => by
    show evN (ev t) n (ev t S) = S
    rw [ev_ov h t]
    exact evN_ov h t n
section EVU
variable {d k a b : Nat} {y r : OT} {S : RuS}
theorem ev_3 (o : S.ov = 0) (h : S.dn = 300) : ev (.branch d y r) S = sLeft S := (if_neg (fun c => c o)).trans (if_pos h)
theorem ev_b (o : S.ov = 0) (h : ¬ S.dn = 300) (hB : oB d) (hd : oD d k a b) : ev (.branch d y r) S = ev r (if k = 19 then evN (ev y) a (sUp S) else evT k a b S.P (ev y (sUp S)) (sUp S)) := by
  obtain ⟨rfl, rfl, rfl⟩ := hd
  exact (if_neg (fun c => c o)).trans ((if_neg h).trans (if_pos hB))
theorem ev_a (o : S.ov = 0) (h : ¬ S.dn = 300) (hB : ¬ oB d) (hd : oD d k a b) : ev (.branch d y r) S = ev r (sDo k a b (sUp S)) := by
  obtain ⟨rfl, rfl, rfl⟩ := hd
  exact (if_neg (fun c => c o)).trans ((if_neg h).trans (if_neg hB))
end EVU
/-- what holds of a run's state -/
def ruB (S : RuS) : Prop := fB S.P ∧ (1 ≤ S.P 0 0 ∧ 1 ≤ S.P 0 1) ∧ (0 ≤ S.r ∧ S.r < 65536) ∧ S.ms ≤ S.dn ∧ S.bt ≤ 13 * S.dn ∧ S.sk ≤ S.dn ∧ S.dn ≤ 300 ∧ S.ov ≤ 2
theorem dR_b (r : Int) : 0 ≤ dR r ∧ dR r < 65536 := by unfold dR; omega
theorem dV_b {r n : Int} (hn : 1 ≤ n) : 0 ≤ dV r n ∧ dV r n < n := by
  have := dR_b r
  unfold dV
  exact ⟨Int.emod_nonneg _ (by omega), Int.emod_lt_of_pos _ (by omega)⟩
theorem dQ_in {P : PT} (lb : lB P) (h : 1 ≤ P 0 0 ∧ 1 ≤ P 0 1) (r : Int) : gIn P (dQ P r) := by
  obtain ⟨⟨w0, w8⟩, ⟨r0, r6⟩, _⟩ := lb
  have a := dV_b (r := r) h.1
  have b := dV_b (r := dR r) h.2
  unfold dQ
  refine ⟨by omega, by omega, by omega⟩
theorem sTo_in {P : PT} (lb : lB P) {q : Nat} (g : gIn P q) (r : Int) : gIn P (sTo P r q) := by
  have a := dV_b (r := r) (n := 4) (by omega)
  unfold sTo
  by_cases c : gNb P q (dV r 4).toNat = -1
  · rw [if_pos c]; exact g
  · rw [if_neg c]
    rcases (gOk lb).2 q (dV r 4).toNat g (by omega) with e | ⟨b, gb, e, _⟩
    · exact absurd e c
    · rw [e, Int.toNat_natCast]; exact gb
/-- what holds on, with so many bites at most -/
def rBb (S : RuS) (B : Nat) : Prop := fB S.P ∧ (1 ≤ S.P 0 0 ∧ 1 ≤ S.P 0 1) ∧ (0 ≤ S.r ∧ S.r < 65536) ∧ S.ms ≤ S.dn ∧ S.bt ≤ B ∧ S.sk ≤ S.dn ∧ S.dn ≤ 300 ∧ S.ov ≤ 2
theorem rBb.draw {S : RuS} {B : Nat} (h : rBb S B) (r : Int) : rBb (sSr S (dR r)) B := ⟨h.1, h.2.1, dR_b r, h.2.2.2⟩
theorem sEat_b {S : RuS} {B j q : Nat} (h : rBb S B) : rBb (sEat j q S) (B + 1) ∧ pSh S.P (sEat j q S).P ∧ (sEat j q S).dn = S.dn ∧ (sEat j q S).ov = S.ov ∧ (sEat j q S).r = S.r := by
  obtain ⟨a1, a2, a3, a4, a5, a6, a7, a8⟩ := h
  unfold sEat
  by_cases c : S.P 3 (48 * j + q) = 1
  · rw [if_pos c]
    exact ⟨⟨a1, a2, a3, a4, by omega, a6, a7, a8⟩, pSh.rfl, rfl, rfl, rfl⟩
  · rw [if_neg c]
    exact ⟨⟨(a1.s3 (by decide)).s04, a2, a3, a4, Nat.succ_le_succ a5, a6, a7, a8⟩, ⟨rfl, rfl, rfl, rfl⟩, rfl, rfl, rfl⟩
theorem sEat_ms {S : RuS} {j q : Nat} : (sEat j q S).ms = S.ms := by
  unfold sEat
  split <;> rfl
theorem sMarch_ms {S : RuS} {m : Nat} (c : mC S.P m ≠ -1) : (sMarch m S).ms = S.ms := by
  unfold sMarch
  split
  · exact absurd (by assumption) c
  · rfl
theorem sMouse_b {j : Nat} : ∀ (n : Nat) {q : Nat} {S : RuS} {B : Nat}, rBb S B → rBb (sMouse j n q S) (B + n) ∧ pSh S.P (sMouse j n q S).P ∧ (sMouse j n q S).dn = S.dn ∧ (sMouse j n q S).ov = S.ov
  | 0, _, _, _, h => ⟨h, pSh.rfl, rfl, rfl⟩
  | n + 1, q, S, B, h => by
    obtain ⟨b1, b2, b3, b4, _⟩ := sEat_b (j := j) (q := sTo S.P S.r q) (h.draw S.r)
    obtain ⟨c1, c2, c3, c4⟩ := sMouse_b n (q := sTo S.P S.r q) b1
    rw [show B + (n + 1) = B + 1 + n from by omega]
    exact ⟨c1, b2.trans c2, c3.trans b3, c4.trans b4⟩
theorem mC_n {P : PT} {m : Nat} (hb : fB P) (hm : (m : Int) < P 0 3) (c : mC P m ≠ -1) : 0 ≤ mC P m := by
  obtain ⟨_, ⟨_, g6⟩, _⟩ := hb.2.2.2 m hm
  have := yCost_n (co := gCo P (P 8 m).toNat) (to := (P 7 m).toNat) g6
  unfold mC at c ⊢
  omega
theorem mP_ok {P : PT} {m : Nat} (hb : fB P) (hm : (m : Int) < P 0 3) (c : 0 ≤ mC P m) : mN P m ≤ 47 ∧ ∀ i, i ≤ mN P m → gIn P (mP P m i) := by
  obtain ⟨_, ⟨_, g6⟩, _⟩ := hb.2.2.2 m hm
  exact yPt_ok hb g6 c
theorem mS_le {P : PT} {m : Nat} : mS P m ≤ mN P m := by
  have := (wStop_b (P := P) (p := mP P m) (mN P m) 0).2
  unfold mS
  omega
theorem fB_march {P : PT} {m : Nat} (hb : fB P) (hm : (m : Int) < P 0 3) (c : 0 ≤ mC P m) : fB (pGo P m (mP P m) (mS P m)) := by
  have o := (mP_ok hb hm c).2
  have l := mS_le (P := P) (m := m)
  exact fB_go hb _ (fun k _ h => o k (by omega))
theorem pGo_sh {P : PT} {m i : Nat} {p : Nat → Nat} : pSh P (pGo P m p i) := ⟨pGo_1 i 0 0 (by decide) (by decide), pGo_1 i 0 1 (by decide) (by decide), pGo_1 i 0 2 (by decide) (by decide), pGo_1 i 0 3 (by decide) (by decide)⟩
theorem sDo_ok {S : RuS} {k a b : Nat} (h : ruB S) (hd : S.dn < 300) (hk : (8 ≤ k ∧ k ≤ 14) ∨ k = 21) (ok : oIt S.P k a b) : ruB (sDo k a b (sUp S)) ∧ pSh S.P (sDo k a b (sUp S)).P ∧ (sDo k a b (sUp S)).dn = S.dn + 1 ∧ (k ≠ 21 → (sDo k a b (sUp S)).ov = S.ov) := by
  obtain ⟨a1, a2, a3, a4, a5, a6, a7, a8⟩ := id h
  obtain ⟨o1, o2, o3, o4, o5, o6, o7⟩ := ok
  have u0 : rBb (sUp S) (13 * S.dn) := ⟨a1, a2, a3, Nat.le_succ_of_le a4, a5, Nat.le_succ_of_le a6, hd, a8⟩
  have up : ∀ {S' : RuS} {B : Nat}, rBb S' B → S'.dn = S.dn + 1 → B ≤ 13 * S.dn + 13 → ruB S' := fun q e hB => ⟨q.1, q.2.1, q.2.2.1, q.2.2.2.1, by have := q.2.2.2.2.1; omega, q.2.2.2.2.2⟩
  have miss : ∀ {S' : RuS}, rBb S' (13 * S.dn) → S'.dn = S.dn + 1 → S'.ms = S.ms → ruB (sMiss S') := fun {S'} q e e2 => ⟨q.1, q.2.1, q.2.2.1, by show S'.ms + 1 ≤ S'.dn; omega, by show S'.bt ≤ 13 * S'.dn; have := q.2.2.2.2.1; omega, q.2.2.2.2.2⟩
  have hk' : k = 8 ∨ k = 9 ∨ k = 10 ∨ k = 11 ∨ k = 12 ∨ k = 13 ∨ k = 14 ∨ k = 21 := by omega
  rcases hk' with rfl | rfl | rfl | rfl | rfl | rfl | rfl | rfl
  · show ruB (if S.P 3 (48 * a + b) = 1 then sMiss (sUp S) else sEat a b (sUp S)) ∧ pSh S.P (if S.P 3 (48 * a + b) = 1 then sMiss (sUp S) else sEat a b (sUp S)).P ∧ (if S.P 3 (48 * a + b) = 1 then sMiss (sUp S) else sEat a b (sUp S)).dn = S.dn + 1 ∧ ((8 : Nat) ≠ 21 → (if S.P 3 (48 * a + b) = 1 then sMiss (sUp S) else sEat a b (sUp S)).ov = S.ov)
    by_cases c : S.P 3 (48 * a + b) = 1
    · rw [if_pos c]
      exact ⟨miss u0 rfl rfl, pSh.rfl, rfl, fun _ => rfl⟩
    · rw [if_neg c]
      obtain ⟨b1, b2, b3, b4, _⟩ := sEat_b (j := a) (q := b) u0
      exact ⟨up b1 b3 (by omega), b2, b3, fun _ => b4⟩
  · show ruB (if S.P 3 (48 * a + dQ S.P S.r) = 0 then (sPr (sUp S) (pSt S.P a (dQ S.P S.r) 2) (dR (dR S.r))) else sMiss (sSr (sUp S) (dR (dR S.r)))) ∧ pSh S.P (if S.P 3 (48 * a + dQ S.P S.r) = 0 then (sPr (sUp S) (pSt S.P a (dQ S.P S.r) 2) (dR (dR S.r))) else sMiss (sSr (sUp S) (dR (dR S.r)))).P ∧ (if S.P 3 (48 * a + dQ S.P S.r) = 0 then (sPr (sUp S) (pSt S.P a (dQ S.P S.r) 2) (dR (dR S.r))) else sMiss (sSr (sUp S) (dR (dR S.r)))).dn = S.dn + 1 ∧ ((9 : Nat) ≠ 21 → (if S.P 3 (48 * a + dQ S.P S.r) = 0 then (sPr (sUp S) (pSt S.P a (dQ S.P S.r) 2) (dR (dR S.r))) else sMiss (sSr (sUp S) (dR (dR S.r)))).ov = S.ov)
    by_cases c : S.P 3 (48 * a + dQ S.P S.r) = 0
    · rw [if_pos c]
      exact ⟨up (S' := (sPr (sUp S) (pSt S.P a (dQ S.P S.r) 2) (dR (dR S.r)))) (B := 13 * S.dn) ⟨a1.s3 (by decide), a2, dR_b _, u0.2.2.2⟩ rfl (by omega), ⟨rfl, rfl, rfl, rfl⟩, rfl, fun _ => rfl⟩
    · rw [if_neg c]
      exact ⟨miss (u0.draw _) rfl rfl, pSh.rfl, rfl, fun _ => rfl⟩
  · show ruB (if S.P 3 (48 * a + b) = 0 ∨ S.P 3 (48 * a + b) = 2 then (sSP (sUp S) (pSt S.P a b 3)) else sMiss (sUp S)) ∧ pSh S.P (if S.P 3 (48 * a + b) = 0 ∨ S.P 3 (48 * a + b) = 2 then (sSP (sUp S) (pSt S.P a b 3)) else sMiss (sUp S)).P ∧ (if S.P 3 (48 * a + b) = 0 ∨ S.P 3 (48 * a + b) = 2 then (sSP (sUp S) (pSt S.P a b 3)) else sMiss (sUp S)).dn = S.dn + 1 ∧ ((10 : Nat) ≠ 21 → (if S.P 3 (48 * a + b) = 0 ∨ S.P 3 (48 * a + b) = 2 then (sSP (sUp S) (pSt S.P a b 3)) else sMiss (sUp S)).ov = S.ov)
    by_cases c : S.P 3 (48 * a + b) = 0 ∨ S.P 3 (48 * a + b) = 2
    · rw [if_pos c]
      exact ⟨up (S' := (sSP (sUp S) (pSt S.P a b 3))) (B := 13 * S.dn) ⟨a1.s3 (by decide), a2, u0.2.2⟩ rfl (by omega), ⟨rfl, rfl, rfl, rfl⟩, rfl, fun _ => rfl⟩
    · rw [if_neg c]
      exact ⟨miss u0 rfl rfl, pSh.rfl, rfl, fun _ => rfl⟩
  · show ruB (if a = b then sMiss (sUp S) else (sSP (sUp S) (pSteam S.P a b))) ∧ pSh S.P (if a = b then sMiss (sUp S) else (sSP (sUp S) (pSteam S.P a b))).P ∧ (if a = b then sMiss (sUp S) else (sSP (sUp S) (pSteam S.P a b))).dn = S.dn + 1 ∧ ((11 : Nat) ≠ 21 → (if a = b then sMiss (sUp S) else (sSP (sUp S) (pSteam S.P a b))).ov = S.ov)
    by_cases c : a = b
    · rw [if_pos c]
      exact ⟨miss u0 rfl rfl, pSh.rfl, rfl, fun _ => rfl⟩
    · rw [if_neg c]
      have l3 := a1.1.2.2.1.2
      have := (o3 rfl).1
      exact ⟨up (S' := (sSP (sUp S) (pSteam S.P a b))) (B := 13 * S.dn) ⟨a1.steam (by omega), a2, u0.2.2⟩ rfl (by omega), ⟨rfl, rfl, rfl, rfl⟩, rfl, fun _ => rfl⟩
  · show ruB (sMouse a b (dQ S.P S.r) (sEat a (dQ S.P S.r) (sSr (sUp S) (dR (dR S.r))))) ∧ pSh S.P (sMouse a b (dQ S.P S.r) (sEat a (dQ S.P S.r) (sSr (sUp S) (dR (dR S.r))))).P ∧ (sMouse a b (dQ S.P S.r) (sEat a (dQ S.P S.r) (sSr (sUp S) (dR (dR S.r))))).dn = S.dn + 1 ∧ ((12 : Nat) ≠ 21 → (sMouse a b (dQ S.P S.r) (sEat a (dQ S.P S.r) (sSr (sUp S) (dR (dR S.r))))).ov = S.ov)
    obtain ⟨b1, b2, b3, b4, _⟩ := sEat_b (j := a) (q := dQ S.P S.r) (u0.draw (dR S.r))
    obtain ⟨c1, c2, c3, c4⟩ := sMouse_b (j := a) b (q := dQ S.P S.r) b1
    have := (o4 rfl).2
    exact ⟨up c1 (c3.trans b3) (by omega), b2.trans c2, c3.trans b3, fun _ => c4.trans b4⟩
  · have hm : (a : Int) < S.P 0 3 := o5 (Or.inl rfl)
    show ruB (sMarch a (sUp S)) ∧ pSh S.P (sMarch a (sUp S)).P ∧ (sMarch a (sUp S)).dn = S.dn + 1 ∧ ((13 : Nat) ≠ 21 → (sMarch a (sUp S)).ov = S.ov)
    unfold sMarch
    by_cases c : mC (sUp S).P a = -1
    · rw [if_pos c]
      exact ⟨miss u0 rfl rfl, pSh.rfl, rfl, fun _ => rfl⟩
    · rw [if_neg c]
      have c0 := mC_n a1 hm c
      refine ⟨⟨fB_march a1 hm c0, ?_, u0.2.2.1, u0.2.2.2.1, ?_, ?_, hd, a8⟩, pGo_sh, rfl, fun _ => rfl⟩
      · show 1 ≤ pGo S.P a (mP S.P a) (mS S.P a) 0 0 ∧ 1 ≤ pGo S.P a (mP S.P a) (mS S.P a) 0 1
        rw [pGo_sh.1, pGo_sh.2.1]
        exact a2
      · show S.bt ≤ 13 * (S.dn + 1)
        omega
      · show S.sk + (if mS S.P a < mN S.P a then 1 else 0) ≤ S.dn + 1
        split <;> omega
  · exact ⟨up (S' := (sSP (sUp S) (pHome S.P))) (B := 13 * S.dn) ⟨a1.home, a2, u0.2.2⟩ rfl (by omega), ⟨rfl, rfl, rfl, rfl⟩, rfl, fun _ => rfl⟩
  · exact ⟨up (S' := (sOv (sUp S) 1)) (B := 13 * S.dn) ⟨a1, a2, u0.2.2.1, u0.2.2.2.1, u0.2.2.2.2.1, u0.2.2.2.2.2.1, hd, (by show 1 ≤ 2; decide)⟩ rfl (by omega), pSh.rfl, rfl, fun c => absurd rfl c⟩
theorem sUp_ok {S : RuS} (h : ruB S) (hd : S.dn < 300) : ruB (sUp S) := ⟨h.1, h.2.1, h.2.2.1, Nat.le_succ_of_le h.2.2.2.1, by show S.bt ≤ 13 * (S.dn + 1); have := h.2.2.2.2.1; omega, Nat.le_succ_of_le h.2.2.2.2.2.1, hd, h.2.2.2.2.2.2.2⟩
theorem evN_ok {P : PT} {f : RuS → RuS} (hf : ∀ S, ruB S → pSh P S.P → ruB (f S) ∧ pSh S.P (f S).P ∧ S.dn ≤ (f S).dn) : ∀ (n : Nat) (S : RuS), ruB S → pSh P S.P → ruB (evN f n S) ∧ pSh S.P (evN f n S).P ∧ S.dn ≤ (evN f n S).dn
  | 0, _, h, _ => ⟨h, pSh.rfl, Nat.le_refl _⟩
  | n + 1, S, h, e => by
    obtain ⟨b1, b2, b3⟩ := hf S h e
    obtain ⟨c1, c2, c3⟩ := evN_ok hf n (f S) b1 (e.trans b2)
    exact ⟨c1, b2.trans c2, Nat.le_trans b3 c3⟩
theorem ev_ok {P : PT} : ∀ (t : OT) (S : RuS), oOk P t → ruB S → pSh P S.P → ruB (ev t S) ∧ pSh S.P (ev t S).P ∧ S.dn ≤ (ev t S).dn
  | .leaf _, _, _, h, _ => ⟨h, pSh.rfl, Nat.le_refl _⟩
  | .branch d y r, S, o, h, e => by
    obtain ⟨k, a, b, hd⟩ : ∃ k a b, oD d k a b := ⟨_, _, _, rfl, rfl, rfl⟩
    by_cases c : S.ov = 0
    · by_cases d3 : S.dn = 300
      · rw [ev_3 c d3]
        exact ⟨⟨h.1, h.2.1, h.2.2.1, h.2.2.2.1, h.2.2.2.2.1, h.2.2.2.2.2.1, h.2.2.2.2.2.2.1, Nat.le_refl 2⟩, pSh.rfl, Nat.le_refl _⟩
      · have d7 := h.2.2.2.2.2.2.1
        by_cases hB : oB d
        · rw [ev_b c d3 hB hd]
          rw [oOk_b hB hd] at o
          obtain ⟨it, oy, or⟩ := o
          have u := sUp_ok h (by omega)
          have m : ∀ S1 : RuS, ruB S1 → pSh S.P S1.P → S.dn + 1 ≤ S1.dn → ruB (ev r S1) ∧ pSh S.P (ev r S1).P ∧ S.dn ≤ (ev r S1).dn := fun S1 b1 b2 b3 => by
            obtain ⟨c1, c2, c3⟩ := ev_ok r S1 or b1 (e.trans b2)
            exact ⟨c1, b2.trans c2, by omega⟩
          have hy : ∀ S1 : RuS, ruB S1 → pSh P S1.P → ruB (ev y S1) ∧ pSh S1.P (ev y S1).P ∧ S1.dn ≤ (ev y S1).dn := fun S1 => ev_ok y S1 oy
          by_cases k9 : k = 19
          · rw [if_pos k9]
            obtain ⟨c1, c2, c3⟩ := evN_ok hy a (sUp S) u e
            exact m _ c1 c2 c3
          · rw [if_neg k9]
            by_cases q : sSo k a b S.P
            · rw [evT_y q]
              obtain ⟨c1, c2, c3⟩ := hy (sUp S) u e
              exact m _ c1 c2 c3
            · rw [evT_n q]
              exact m _ u pSh.rfl (Nat.le_refl _)
        · rw [ev_a c d3 hB hd]
          rw [oOk_a hB hd] at o
          obtain ⟨b1, b2, b3, _⟩ := sDo_ok (a := a) (b := b) h (by omega) o.1 (e.it o.2.1)
          obtain ⟨c1, c2, c3⟩ := ev_ok r _ o.2.2 b1 (e.trans b2)
          exact ⟨c1, b2.trans c2, by omega⟩
    · rw [ev_ov c]
      exact ⟨h, pSh.rfl, Nat.le_refl _⟩
theorem and65 {x : Int} (h0 : 0 ≤ x) (h1 : x < 2147483648) : (zf32 3 (Int32.ofInt x) (Int32.ofInt 65535)).toInt = x % 65536 := by
  obtain ⟨n, rfl⟩ : ∃ n : Nat, x = (n : Int) := ⟨x.toNat, by omega⟩
  have e : ((Int32.ofInt (n : Int)).toBitVec &&& (Int32.ofInt 65535).toBitVec).toNat = n % 65536 := by
    rw [BitVec.toNat_and]
    have e1 : (Int32.ofInt (n : Int)).toBitVec.toNat = n := by
      show (BitVec.ofInt 32 (n : Int)).toNat = n
      rw [BitVec.toNat_ofInt]
      omega
    rw [e1]
    exact Nat.and_two_pow_sub_one_eq_mod n 16
  show ((Int32.ofInt (n : Int)).toBitVec &&& (Int32.ofInt 65535).toBitVec).toInt = _
  rw [BitVec.toInt_eq_toNat_of_lt (by rw [e]; omega), e]
  omega
def runS (P : PT) (seed : Nat) : RuS := (P, (seed : Int), 0, 0, 0, 0, 0)
theorem runS_B {P : PT} {seed : Nat} (hb : fB P) (hw : 1 ≤ P 0 0 ∧ 1 ≤ P 0 1) (hsd : seed ≤ 9999) : ruB (runS P seed) := ⟨hb, hw, ⟨by show (0 : Int) ≤ (seed : Int); omega, by show (seed : Int) < 65536; omega⟩, Nat.le_refl _, Nat.zero_le _, Nat.le_refl _, by show 0 ≤ 300; decide, by show 0 ≤ 2; decide⟩
