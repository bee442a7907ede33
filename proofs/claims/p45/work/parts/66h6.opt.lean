/-! THE READERS' SINGLE STEPS: where the reference stands; what it blames -/
def qF (h0 h : zH) : Prop := ∀ a b, ¬ (a = 121 ∧ 12 ≤ b ∧ b ≤ 19) → h a b = h0 a b
theorem nF.q {h0 h : zH} (g : nF h0 h) : qF h0 h := fun a b hn => g a b (fun c => hn ⟨c.1, by omega, by omega⟩)
theorem qF.rfl {h : zH} : qF h h := fun _ _ _ => Eq.refl _
theorem qF.z {h0 h : zH} {k : Nat} {v : zV} (h1 : 12 ≤ k) (h2 : k ≤ 19) (g : qF h0 h) : qF h0 (zset h 121 k v) := fun a b hn => (zset_ne (fun c => hn ⟨c.1, by omega, by omega⟩)).trans (g a b hn)
theorem qF.trans {h0 h1 h2 : zH} (a : qF h0 h1) (b : qF h1 h2) : qF h0 h2 := fun x y hn => (b x y hn).trans (a x y hn)
def rS (B : Nat → Int) (n i : Nat) (h : zH) : Prop := TXr B n h ∧ h 121 12 = (0, 0) ∧ ∃ k s e, TS B n i k s e ∧ NT B k s e h
def rBl (f p : Int) (h : zH) : Prop := h 121 12 = (0, f) ∧ 0 < f ∧ h 121 13 = (0, p)
theorem rS_next {D : zD} {T : zT} (hT : hTab T) (hO : vOK T) {N : Nat} {B : Nat → Int} {n i : Nat} {h : zH} (hS : rS B n i h) (h0 : (h 121 14).2 ≠ 0) (h4 : (h 121 14).2 ≠ 4) : vP D T N 284 0 h [some (2, 121), none] [] (fun r => r.2 = none ∧ rS B n (i + 1) r.1 ∧ qF h r.1) := by
  obtain ⟨hx, hb, k, s, e, ht, hn⟩ := hS
  have ek : (h 121 14).2 = k := congrArg Prod.snd hn.1
  refine vP_Q (fun r hr => ?_) (next_ok hT hO hx ht.bd.2.2.2.1 hn.2.2.1)
  obtain ⟨r1, k', s', e', g1, g2, g3⟩ := hr
  exact ⟨r1, ⟨⟨(g3 121 9 (by decide)).trans hx.1, hx.2.1, fun q hq => (g3 125 q (fun c => by omega)).trans (hx.2.2 q hq)⟩, (g3 121 12 (by decide)).trans hb, k', s', e', ⟨k, s, e, ht, fun c => h0 (ek.trans c), fun c => h4 (ek.trans c), g1⟩, g2⟩, g3.q⟩
def rMu (B : Nat → Int) (n i : Nat) (b : Int) (h : zH) (r : zR) : Prop := r.2 = none ∧ qF h r.1 ∧ ((b ≠ 0 ∧ rS B n (i + 1) r.1) ∨ (b = 0 ∧ rBl (if (h 121 14).2 = 4 then 1 else 2) (h 121 15).2 r.1))
theorem rMu_mk {B : Nat → Int} {n i : Nat} {b : Int} {h0 h : zH} (g : qF h0 h) (k : (b ≠ 0 ∧ rS B n (i + 1) h) ∨ (b = 0 ∧ rBl (if (h0 121 14).2 = 4 then 1 else 2) (h0 121 15).2 h)) : rMu B n i b h0 (h, none) := ⟨rfl, g, k⟩
theorem rBl_mk {h : zH} {f p : Int} (hf : 0 < f) : rBl f p (zset (zset h 121 12 (0, f)) 121 13 (0, p)) := ⟨(zset_ne (by decide)).trans zset_same, hf, zset_same⟩
theorem r_must {D : zD} {T : zT} (hT : hTab T) (hO : vOK T) {N : Nat} {B : Nat → Int} {n i : Nat} {h : zH} (b : Int) (hS : rS B n i h) (hb : b ≠ 0 → (h 121 14).2 ≠ 0 ∧ (h 121 14).2 ≠ 4) : vP D T N 282 0 h [some (2, 121), some (0, b)] [] (rMu B n i b h) := by
  have e12 : (h 121 12).2 = 0 := congrArg Prod.snd hS.2.1
  refine vP_hv (fun hv => q_must hT hO b hv ?_ ?_ ?_ ?_)
  · intros; omega
  · intro _ c1 c2
    refine rMu_mk ((qF.rfl.z (by decide) (by decide)).z (by decide) (by decide)) (Or.inr ⟨c1, ?_⟩)
    rw [if_pos c2]
    exact rBl_mk (by decide)
  · intro _ c1 c2
    refine rMu_mk ((qF.rfl.z (by decide) (by decide)).z (by decide) (by decide)) (Or.inr ⟨c1, ?_⟩)
    rw [if_neg c2]
    exact rBl_mk (by decide)
  · intro _ c1
    refine vP_Q (fun r hr => ?_) (rS_next hT hO hS (hb c1).1 (hb c1).2)
    obtain ⟨h1, v1⟩ := r
    obtain ⟨g1, g2, g3⟩ := hr
    have g1 : v1 = none := g1
    subst g1
    exact vP_hv (fun hv => q_must16 hT hO b hv (rMu_mk g3 (Or.inl ⟨c1, g2⟩)))
theorem r_mustB {D : zD} {T : zT} (hT : hTab T) (hO : vOK T) {N : Nat} {h : zH} (b : Int) (hb : 0 < (h 121 12).2) : vP D T N 282 0 h [some (2, 121), some (0, b)] [] (fun r => r = (h, none)) := by
  refine vP_hv (fun hv => q_must hT hO b hv (fun _ => rfl) ?_ ?_ ?_) <;> intros <;> omega
/-- a number's reading: what it gives, or whom it blames -/
def rNu (B : Nat → Int) (n i : Nat) (u v : Int) (h : zH) (r : zR) : Prop := qF h r.1 ∧ (((h 121 14).2 = 2 ∧ u ≤ (h 121 17).2 ∧ (h 121 17).2 ≤ v ∧ r.2 = some (0, (h 121 17).2) ∧ rS B n (i + 1) r.1) ∨ ((h 121 14).2 = 2 ∧ ¬ (u ≤ (h 121 17).2 ∧ (h 121 17).2 ≤ v) ∧ r.2 = some (0, 0) ∧ rBl 4 (h 121 15).2 r.1) ∨ ((h 121 14).2 ≠ 2 ∧ r.2 = some (0, 0) ∧ rBl (if (h 121 14).2 = 4 then 1 else 2) (h 121 15).2 r.1))
theorem rNu_1 {B : Nat → Int} {n i : Nat} {u v w : Int} {h0 h : zH} (g : qF h0 h) (hw : w = (h0 121 17).2) (h1 : (h0 121 14).2 = 2) (h2 : u ≤ (h0 121 17).2) (h3 : (h0 121 17).2 ≤ v) (h4 : rS B n (i + 1) h) : rNu B n i u v h0 (h, some (0, w)) := ⟨g, Or.inl ⟨h1, h2, h3, by rw [hw], h4⟩⟩
theorem rNu_2 {B : Nat → Int} {n i : Nat} {u v : Int} {h0 : zH} (h1 : (h0 121 14).2 = 2) (h2 : ¬ (u ≤ (h0 121 17).2 ∧ (h0 121 17).2 ≤ v)) : rNu B n i u v h0 (zset (zset h0 121 12 (0, 4)) 121 13 (0, (h0 121 15).2), some (0, 0)) := ⟨(qF.rfl.z (by decide) (by decide)).z (by decide) (by decide), Or.inr (Or.inl ⟨h1, h2, rfl, rBl_mk (by decide)⟩)⟩
theorem rNu_3 {B : Nat → Int} {n i : Nat} {u v f : Int} {h0 : zH} (h1 : (h0 121 14).2 ≠ 2) (hf : f = if (h0 121 14).2 = 4 then 1 else 2) : rNu B n i u v h0 (zset (zset h0 121 12 (0, f)) 121 13 (0, (h0 121 15).2), some (0, 0)) := ⟨(qF.rfl.z (by decide) (by decide)).z (by decide) (by decide), Or.inr (Or.inr ⟨h1, rfl, by
  rw [← hf]
  refine rBl_mk ?_
  rw [hf]
  by_cases c : (h0 121 14).2 = 4
  · rw [if_pos c]; decide
  · rw [if_neg c]; decide⟩)⟩
theorem r_num {D : zD} {T : zT} (hT : hTab T) (hO : vOK T) {N : Nat} {B : Nat → Int} {n i : Nat} {h : zH} (u v : Int) (hS : rS B n i h) : vP D T N 300 0 h [some (2, 121), some (0, u), some (0, v), none] [] (rNu B n i u v h) := by
  have e12 : (h 121 12).2 = 0 := congrArg Prod.snd hS.2.1
  refine vP_hv (fun hv => q_rnum hT hO u v hv ?_ ?_ ?_ ?_ ?_ ?_ ?_ ?_ ?_ ?_ ?_ ?_ ?_ ?_ ?_ ?_)
  · intros; omega
  · exact fun _ c1 c2 _ => rNu_2 c1 (fun c => by omega)
  · intros; omega
  · exact fun _ c1 c2 c3 _ => rNu_2 c1 (fun c => by omega)
  · intros; omega
  · intro _ c1 c2 c3 _
    refine vP_Q (fun r hr => ?_) (rS_next hT hO hS (by omega) (by omega))
    obtain ⟨h1, v1⟩ := r
    obtain ⟨g1, g2, g3⟩ := hr
    have g1 : v1 = none := g1
    subst g1
    exact vP_hv (fun hv => q_rnum68 hT hO u v _ hv (rNu_1 g3 rfl c1 c2 c3 g2))
  · intros; omega
  · intros; omega
  · intros; omega
  · exact fun _ c1 c2 _ => rNu_3 c1 (if_pos c2).symm
  · intros; omega
  · intros; omega
  · intros; omega
  · exact fun _ c1 c2 _ => rNu_3 c1 (if_neg c2).symm
  · intros; omega
  · intros; omega
theorem r_numB {D : zD} {T : zT} (hT : hTab T) (hO : vOK T) {N : Nat} {h : zH} (u v : Int) (hb : 0 < (h 121 12).2) : vP D T N 300 0 h [some (2, 121), some (0, u), some (0, v), none] [] (fun r => r = (h, some (0, 0))) := by
  refine vP_hv (fun hv => q_rnum hT hO u v hv ?_ ?_ ?_ ?_ ?_ ?_ ?_ ?_ ?_ ?_ ?_ ?_ ?_ ?_ ?_ ?_) <;> intros <;> first | omega | rfl
/-! where the class stands; what it blames -/
def tF (h0 h : zH) : Prop := ∀ a b, ¬ (a = 10 ∧ 6 ≤ b ∧ b ≤ 8) → h a b = h0 a b
theorem tF.rfl {h : zH} : tF h h := fun _ _ _ => Eq.refl _
theorem tF.z {h0 h : zH} {k : Nat} {v : zV} (h1 : 6 ≤ k) (h2 : k ≤ 8) (g : tF h0 h) : tF h0 (zset h 10 k v) := fun a b hn => (zset_ne (fun c => hn ⟨c.1, by omega, by omega⟩)).trans (g a b hn)
theorem tF.trans {h0 h1 h2 : zH} (a : tF h0 h1) (b : tF h1 h2) : tF h0 h2 := fun x y hn => (b x y hn).trans (a x y hn)
def cSt (B : Nat → Int) (n m i : Nat) (h : zH) : Prop := TXc B n h ∧ Txt B n m h ∧ i ≤ m ∧ h 10 6 = (0, (i : Int)) ∧ h 10 7 = (0, 0) ∧ h 10 8 = (0, -1)
def cBl (f p : Int) (h : zH) : Prop := h 10 7 = (0, f) ∧ h 10 8 = (0, p)
theorem Rw.tf {B : Nat → Int} {n j : Nat} {h0 h : zH} (g : tF h0 h) (a : Rw B n j h0) : Rw B n j h := by
  obtain ⟨k, s, e, v, a1, a2, a3, a4, a5, a6⟩ := a
  exact ⟨k, s, e, v, a1, a2, (g 12 j (fun c => by omega)).trans a3, (g 13 j (fun c => by omega)).trans a4, (g 14 j (fun c => by omega)).trans a5, (g 15 j (fun c => by omega)).trans a6⟩
theorem Txt.tf {B : Nat → Int} {n m : Nat} {h0 h : zH} (g : tF h0 h) (a : Txt B n m h0) : Txt B n m h := ⟨a.1, fun j hj => (a.2.1 j hj).tf g, by rw [g 12 m (fun c => by omega)]; exact a.2.2⟩
/-- on to the next token -/
theorem cSt_next {B : Nat → Int} {n m i : Nat} {h : zH} (hS : cSt B n m i h) (h0 : (h 12 i).2 ≠ 0) (h4 : (h 12 i).2 ≠ 4) : cSt B n m (i + 1) (zset h 10 6 (0, (h 10 6).2 + 1)) := by
  obtain ⟨hx, ht, hi, h6, h7, h8⟩ := hS
  have g : tF h (zset h 10 6 (0, (h 10 6).2 + 1)) := tF.rfl.z (by decide) (by decide)
  have hne : i ≠ m := fun e => by
    rw [e] at h0 h4
    rcases ht.2.2 with c | c
    · exact h0 c
    · exact h4 c
  have e6 : (h 10 6).2 = (i : Int) := congrArg Prod.snd h6
  exact ⟨hx.z (by decide), ht.tf g, by omega, zset_same.trans (congrArg (Prod.mk (0 : Nat)) (by rw [e6]; omega)), (zset_ne (by decide)).trans h7, (zset_ne (by decide)).trans h8⟩
def cTk (B : Nat → Int) (n m i : Nat) (f : Int) (P : Prop) (w w' : Int) (h : zH) (r : zR) : Prop := tF h r.1 ∧ ((P ∧ r.2 = some (0, w) ∧ cSt B n m (i + 1) r.1) ∨ (¬ P ∧ r.2 = some (0, w') ∧ cBl (if (h 12 i).2 = 4 then 1 else f) (h 13 i).2 r.1))
theorem cTk_y {B : Nat → Int} {n m i : Nat} {f : Int} {P : Prop} {w w' : Int} {h : zH} (hS : cSt B n m i h) (hP : P) (h0 : (h 12 i).2 ≠ 0) (h4 : (h 12 i).2 ≠ 4) : cTk B n m i f P w w' h (zset h 10 6 (0, (h 10 6).2 + 1), some (0, w)) := ⟨tF.rfl.z (by decide) (by decide), Or.inl ⟨hP, rfl, cSt_next hS h0 h4⟩⟩
theorem cBl_mk {h : zH} {f p : Int} : cBl f p (zset (zset h 10 7 (0, f)) 10 8 (0, p)) := ⟨(zset_ne (by decide)).trans zset_same, zset_same⟩
theorem cTk_n {B : Nat → Int} {n m i : Nat} {f g p : Int} {P : Prop} {w w' : Int} {h : zH} (hP : ¬ P) (hg : g = if (h 12 i).2 = 4 then 1 else f) (hp : p = (h 13 i).2) : cTk B n m i f P w w' h (zset (zset h 10 7 (0, g)) 10 8 (0, p), some (0, w')) := ⟨(tF.rfl.z (by decide) (by decide)).z (by decide) (by decide), Or.inr ⟨hP, rfl, by
  rw [← hg, ← hp]
  exact cBl_mk⟩⟩
theorem c_tword {D : zD} {T : zT} (hT : hTab T) (hO : vOK T) {N : Nat} {B : Nat → Int} {n m i : Nat} {h : zH} (w : Int) (hS : cSt B n m i h) : vP D T N 125 0 h [some (2, 10), some (0, w)] [] (cTk B n m i 2 ((h 12 i).2 = 1 ∧ (h 15 i).2 = w) 1 0 h) := by
  have e6 : (h 10 6).2 = (i : Int) := congrArg Prod.snd hS.2.2.2.1
  have ei : ((h 10 6).2).toNat = i := by rw [e6]; exact Int.toNat_natCast i
  have hm := hS.2.1.1
  have him := hS.2.2.1
  have last : ∀ k : Int, k ≠ 0 → k ≠ 4 → (h 12 i).2 = k → (h 10 6).2 < 900 := fun k k0 k4 e => by
    have hne : i ≠ m := fun c => by
      rw [c] at e
      rcases hS.2.1.2.2 with g | g
      · exact k0 (e.symm.trans g)
      · exact k4 (e.symm.trans g)
    omega
  refine vP_hv (fun hv => q_tword hT hO w hv ?_ ?_ ?_ ?_ ?_ ?_ ?_ ?_) <;> rw [ei]
  · intros; omega
  · intros; omega
  · exact fun _ _ c1 c2 _ c3 c4 => cTk_y hS ⟨c1, c2⟩ c3 c4
  · intro _ _ c1 _ c2
    have := last 1 (by decide) (by decide) c1
    omega
  · intros; omega
  · exact fun _ _ c1 c2 c3 => cTk_n (fun c => c2 c.2) (if_neg c3).symm rfl
  · exact fun _ _ c1 c2 => cTk_n (fun c => c1 c.1) (if_pos c2).symm rfl
  · exact fun _ _ c1 c2 => cTk_n (fun c => c1 c.1) (if_neg c2).symm rfl
theorem c_tstop {D : zD} {T : zT} (hT : hTab T) (hO : vOK T) {N : Nat} {B : Nat → Int} {n m i : Nat} {h : zH} (hS : cSt B n m i h) : vP D T N 124 0 h [some (2, 10)] [] (cTk B n m i 2 ((h 12 i).2 = 3 ∧ (h 15 i).2 = 59) 1 0 h) := by
  have e6 : (h 10 6).2 = (i : Int) := congrArg Prod.snd hS.2.2.2.1
  have ei : ((h 10 6).2).toNat = i := by rw [e6]; exact Int.toNat_natCast i
  have hm := hS.2.1.1
  have him := hS.2.2.1
  have last : ∀ k : Int, k ≠ 0 → k ≠ 4 → (h 12 i).2 = k → (h 10 6).2 < 900 := fun k k0 k4 e => by
    have hne : i ≠ m := fun c => by
      rw [c] at e
      rcases hS.2.1.2.2 with g | g
      · exact k0 (e.symm.trans g)
      · exact k4 (e.symm.trans g)
    omega
  refine vP_hv (fun hv => q_tstop hT hO hv ?_ ?_ ?_ ?_ ?_ ?_ ?_ ?_) <;> rw [ei]
  · intros; omega
  · intros; omega
  · exact fun _ _ c1 c2 _ c3 c4 => cTk_y hS ⟨c1, c2⟩ c3 c4
  · intro _ _ c1 _ c2
    have := last 3 (by decide) (by decide) c1
    omega
  · intros; omega
  · exact fun _ _ c1 c2 c3 => cTk_n (fun c => c2 c.2) (if_neg c3).symm rfl
  · exact fun _ _ c1 c2 => cTk_n (fun c => c1 c.1) (if_pos c2).symm rfl
  · exact fun _ _ c1 c2 => cTk_n (fun c => c1 c.1) (if_neg c2).symm rfl
/-- a number's taking: as a word's, but for whom it blames -/
def cNu (B : Nat → Int) (n m i : Nat) (u v : Int) (h : zH) (r : zR) : Prop := tF h r.1 ∧ (((h 12 i).2 = 2 ∧ u ≤ (h 15 i).2 ∧ (h 15 i).2 ≤ v ∧ r.2 = some (0, (h 15 i).2) ∧ cSt B n m (i + 1) r.1) ∨ ((h 12 i).2 = 2 ∧ ¬ (u ≤ (h 15 i).2 ∧ (h 15 i).2 ≤ v) ∧ r.2 = some (0, -1) ∧ cBl 4 (h 13 i).2 r.1) ∨ ((h 12 i).2 ≠ 2 ∧ r.2 = some (0, -1) ∧ cBl (if (h 12 i).2 = 4 then 1 else 2) (h 13 i).2 r.1))
theorem cNu_1 {B : Nat → Int} {n m i : Nat} {u v : Int} {h : zH} (hS : cSt B n m i h) (h1 : (h 12 i).2 = 2) (h2 : u ≤ (h 15 i).2) (h3 : (h 15 i).2 ≤ v) : cNu B n m i u v h (zset h 10 6 (0, (h 10 6).2 + 1), some (0, (h 15 i).2)) := ⟨tF.rfl.z (by decide) (by decide), Or.inl ⟨h1, h2, h3, rfl, cSt_next hS (by omega) (by omega)⟩⟩
theorem cNu_2 {B : Nat → Int} {n m i : Nat} {u v : Int} {h : zH} (h1 : (h 12 i).2 = 2) (h2 : ¬ (u ≤ (h 15 i).2 ∧ (h 15 i).2 ≤ v)) : cNu B n m i u v h (zset (zset h 10 7 (0, 4)) 10 8 (0, (h 13 i).2), some (0, -1)) := ⟨(tF.rfl.z (by decide) (by decide)).z (by decide) (by decide), Or.inr (Or.inl ⟨h1, h2, rfl, cBl_mk⟩)⟩
theorem cNu_3 {B : Nat → Int} {n m i : Nat} {u v f : Int} {h : zH} (h1 : (h 12 i).2 ≠ 2) (hf : f = if (h 12 i).2 = 4 then 1 else 2) : cNu B n m i u v h (zset (zset h 10 7 (0, f)) 10 8 (0, (h 13 i).2), some (0, -1)) := ⟨(tF.rfl.z (by decide) (by decide)).z (by decide) (by decide), Or.inr (Or.inr ⟨h1, rfl, by
  rw [← hf]
  exact cBl_mk⟩)⟩
theorem c_tnum {D : zD} {T : zT} (hT : hTab T) (hO : vOK T) {N : Nat} {B : Nat → Int} {n m i : Nat} {h : zH} (u v : Int) (hS : cSt B n m i h) : vP D T N 123 0 h [some (2, 10), some (0, u), some (0, v), none] [] (cNu B n m i u v h) := by
  have e6 : (h 10 6).2 = (i : Int) := congrArg Prod.snd hS.2.2.2.1
  have ei : ((h 10 6).2).toNat = i := by rw [e6]; exact Int.toNat_natCast i
  have hm := hS.2.1.1
  have him := hS.2.2.1
  have last : (h 12 i).2 = 2 → (h 10 6).2 < 900 := fun e => by
    have hne : i ≠ m := fun c => by
      rw [c] at e
      rcases hS.2.1.2.2 with g | g <;> omega
    omega
  refine vP_hv (fun hv => q_tnum hT hO u v hv ?_ ?_ ?_ ?_ ?_ ?_ ?_ ?_ ?_ ?_) <;> rw [ei]
  · intros; omega
  · exact fun _ _ c1 c2 _ => cNu_2 c1 (fun c => by omega)
  · intros; omega
  · exact fun _ _ c1 c2 c3 _ => cNu_2 c1 (fun c => by omega)
  · intros; omega
  · intros; omega
  · exact fun _ _ c1 c2 c3 _ _ _ => cNu_1 hS c1 c2 c3
  · intro _ _ c1 _ _ c2
    have := last c1
    omega
  · exact fun _ _ c1 c2 => cNu_3 c1 (if_pos c2).symm
  · exact fun _ _ c1 c2 => cNu_3 c1 (if_neg c2).symm
