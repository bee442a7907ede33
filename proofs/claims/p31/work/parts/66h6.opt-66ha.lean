section
/-! THE READERS' SINGLE STEPS: where the reference stands; what it blames -/
def qF (h0 h : zH) : Prop := ∀ a b, ¬ (a = 121 ∧ 12 ≤ b ∧ b ≤ 19) → h a b = h0 a b
theorem nF.q {h0 h : zH} (g : nF h0 h) : qF h0 h := fun a b hn => g a b (fun c => hn ⟨c.1, by omega, by omega⟩)
theorem qF.rfl {h : zH} : qF h h := fun _ _ _ => Eq.refl _
theorem qF.z {h0 h : zH} {k : Nat} {v : zV} (h1 : 12 ≤ k) (h2 : k ≤ 19) (g : qF h0 h) : qF h0 (zset h 121 k v) := fun a b hn => (zset_ne (fun c => hn ⟨c.1, by omega, by omega⟩)).trans (g a b hn)
theorem qF.trans {h0 h1 h2 : zH} (a : qF h0 h1) (b : qF h1 h2) : qF h0 h2 := fun x y hn => (b x y hn).trans (a x y hn)
def rS (B : Nat → Int) (n i : Nat) (h : zH) : Prop := TXr B n h ∧ h 121 12 = (0, 0) ∧ ∃ k s e, TS B n i k s e ∧ NT B k s e h
def rBl (f p : Int) (h : zH) : Prop := h 121 12 = (0, f) ∧ 0 < f ∧ h 121 13 = (0, p)
theorem rS_next {D : zD} {T : zT} (hT : hTab T) (hO : vOK T) {N : Nat} {B : Nat → Int} {n i : Nat} {h : zH} (hS : rS B n i h) (h0 : (h 121 14).2 ≠ 0) (h4 : (h 121 14).2 ≠ 4) : vP D T N 284 0 h [some (2, 121), none] [] (fun r => r.2 = none ∧ rS B n (i + 1) r.1 ∧ qF h r.1) := by
  obtain ⟨hx, hb, k, s, e, ht, hn⟩ := hS
  have ek : (h 121 14).2 = k := congrArg Prod.snd hn.1
  refine vP_Q (fun r hr => ?_) (next_ok hT hO hx ht.bd.2.2.2.1 hn.2.2.1)
  obtain ⟨r1, k', s', e', g1, g2, g3⟩ := hr
  exact ⟨r1, ⟨⟨(g3 121 9 (by decide)).trans hx.1, hx.2.1, fun q hq => (g3 125 q (fun c => by omega)).trans (hx.2.2 q hq)⟩, (g3 121 12 (by decide)).trans hb, k', s', e', ⟨k, s, e, ht, fun c => h0 (ek.trans c), fun c => h4 (ek.trans c), g1⟩, g2⟩, g3.q⟩
def rMu (B : Nat → Int) (n i : Nat) (b : Int) (h : zH) (r : zR) : Prop := r.2 = none ∧ qF h r.1 ∧ ((b ≠ 0 ∧ rS B n (i + 1) r.1) ∨ (b = 0 ∧ rBl (if (h 121 14).2 = 4 then 1 else 2) (h 121 15).2 r.1))
theorem rMu_mk {B : Nat → Int} {n i : Nat} {b : Int} {h0 h : zH} (g : qF h0 h) (k : (b ≠ 0 ∧ rS B n (i + 1) h) ∨ (b = 0 ∧ rBl (if (h0 121 14).2 = 4 then 1 else 2) (h0 121 15).2 h)) : rMu B n i b h0 (h, none) := ⟨rfl, g, k⟩
theorem rBl_mk {h : zH} {f p : Int} (hf : 0 < f) : rBl f p (zset (zset h 121 12 (0, f)) 121 13 (0, p)) := ⟨(zset_ne (by decide)).trans zset_same, hf, zset_same⟩
theorem r_must {D : zD} {T : zT} (hT : hTab T) (hO : vOK T) {N : Nat} {B : Nat → Int} {n i : Nat} {h : zH} (b : Int) (hS : rS B n i h) (hb : b ≠ 0 → (h 121 14).2 ≠ 0 ∧ (h 121 14).2 ≠ 4) : vP D T N 282 0 h [some (2, 121), some (0, b)] [] (rMu B n i b h) := by
  have e12 : (h 121 12).2 = 0 := congrArg Prod.snd hS.2.1
  refine vP_hv (fun hv => q_must hT hO b hv ?_ ?_ ?_ ?_)
  · intros; omega
  · intro _ c1 c2
    refine rMu_mk ((qF.rfl.z (by decide) (by decide)).z (by decide) (by decide)) (Or.inr ⟨c1, ?_⟩)
    rw [if_pos c2]
    exact rBl_mk (by decide)
  · intro _ c1 c2
    refine rMu_mk ((qF.rfl.z (by decide) (by decide)).z (by decide) (by decide)) (Or.inr ⟨c1, ?_⟩)
    rw [if_neg c2]
    exact rBl_mk (by decide)
  · intro _ c1
    refine vP_Q (fun r hr => ?_) (rS_next hT hO hS (hb c1).1 (hb c1).2)
    obtain ⟨h1, v1⟩ := r
    obtain ⟨g1, g2, g3⟩ := hr
    have g1 : v1 = none := g1
    subst g1
    exact vP_hv (fun hv => q_must16 hT hO b hv (rMu_mk g3 (Or.inl ⟨c1, g2⟩)))
theorem r_mustB {D : zD} {T : zT} (hT : hTab T) (hO : vOK T) {N : Nat} {h : zH} (b : Int) (hb : 0 < (h 121 12).2) : vP D T N 282 0 h [some (2, 121), some (0, b)] [] (fun r => r = (h, none)) := by
  refine vP_hv (fun hv => q_must hT hO b hv (fun _ => rfl) ?_ ?_ ?_) <;> intros <;> omega
/-- a number's reading: what it gives, or whom it blames -/
def rNu (B : Nat → Int) (n i : Nat) (u v : Int) (h : zH) (r : zR) : Prop := qF h r.1 ∧ (((h 121 14).2 = 2 ∧ u ≤ (h 121 17).2 ∧ (h 121 17).2 ≤ v ∧ r.2 = some (0, (h 121 17).2) ∧ rS B n (i + 1) r.1) ∨ ((h 121 14).2 = 2 ∧ ¬ (u ≤ (h 121 17).2 ∧ (h 121 17).2 ≤ v) ∧ r.2 = some (0, 0) ∧ rBl 4 (h 121 15).2 r.1) ∨ ((h 121 14).2 ≠ 2 ∧ r.2 = some (0, 0) ∧ rBl (if (h 121 14).2 = 4 then 1 else 2) (h 121 15).2 r.1))
theorem rNu_1 {B : Nat → Int} {n i : Nat} {u v w : Int} {h0 h : zH} (g : qF h0 h) (hw : w = (h0 121 17).2) (h1 : (h0 121 14).2 = 2) (h2 : u ≤ (h0 121 17).2) (h3 : (h0 121 17).2 ≤ v) (h4 : rS B n (i + 1) h) : rNu B n i u v h0 (h, some (0, w)) := ⟨g, Or.inl ⟨h1, h2, h3, by rw [hw], h4⟩⟩
theorem rNu_2 {B : Nat → Int} {n i : Nat} {u v : Int} {h0 : zH} (h1 : (h0 121 14).2 = 2) (h2 : ¬ (u ≤ (h0 121 17).2 ∧ (h0 121 17).2 ≤ v)) : rNu B n i u v h0 (zset (zset h0 121 12 (0, 4)) 121 13 (0, (h0 121 15).2), some (0, 0)) := ⟨(qF.rfl.z (by decide) (by decide)).z (by decide) (by decide), Or.inr (Or.inl ⟨h1, h2, rfl, rBl_mk (by decide)⟩)⟩
theorem rNu_3 {B : Nat → Int} {n i : Nat} {u v f : Int} {h0 : zH} (h1 : (h0 121 14).2 ≠ 2) (hf : f = if (h0 121 14).2 = 4 then 1 else 2) : rNu B n i u v h0 (zset (zset h0 121 12 (0, f)) 121 13 (0, (h0 121 15).2), some (0, 0)) := ⟨(qF.rfl.z (by decide) (by decide)).z (by decide) (by decide), Or.inr (Or.inr ⟨h1, rfl, by
  rw [← hf]
  refine rBl_mk ?_
  rw [hf]
  by_cases c : (h0 121 14).2 = 4
  · rw [if_pos c]; decide
  · rw [if_neg c]; decide⟩)⟩
theorem r_num {D : zD} {T : zT} (hT : hTab T) (hO : vOK T) {N : Nat} {B : Nat → Int} {n i : Nat} {h : zH} (u v : Int) (hS : rS B n i h) : vP D T N 300 0 h [some (2, 121), some (0, u), some (0, v), none] [] (rNu B n i u v h) := by
  have e12 : (h 121 12).2 = 0 := congrArg Prod.snd hS.2.1
  refine vP_hv (fun hv => q_rnum hT hO u v hv ?_ ?_ ?_ ?_ ?_ ?_ ?_ ?_ ?_ ?_ ?_ ?_ ?_ ?_ ?_ ?_)
  · intros; omega
  · exact fun _ c1 c2 _ => rNu_2 c1 (fun c => by omega)
  · intros; omega
  · exact fun _ c1 c2 c3 _ => rNu_2 c1 (fun c => by omega)
  · intros; omega
  · intro _ c1 c2 c3 _
    refine vP_Q (fun r hr => ?_) (rS_next hT hO hS (by omega) (by omega))
    obtain ⟨h1, v1⟩ := r
    obtain ⟨g1, g2, g3⟩ := hr
    have g1 : v1 = none := g1
    subst g1
    exact vP_hv (fun hv => q_rnum68 hT hO u v _ hv (rNu_1 g3 rfl c1 c2 c3 g2))
  · intros; omega
  · intros; omega
  · intros; omega
  · exact fun _ c1 c2 _ => rNu_3 c1 (if_pos c2).symm
  · intros; omega
  · intros; omega
  · intros; omega
  · exact fun _ c1 c2 _ => rNu_3 c1 (if_neg c2).symm
  · intros; omega
  · intros; omega
theorem r_numB {D : zD} {T : zT} (hT : hTab T) (hO : vOK T) {N : Nat} {h : zH} (u v : Int) (hb : 0 < (h 121 12).2) : vP D T N 300 0 h [some (2, 121), some (0, u), some (0, v), none] [] (fun r => r = (h, some (0, 0))) := by
  refine vP_hv (fun hv => q_rnum hT hO u v hv ?_ ?_ ?_ ?_ ?_ ?_ ?_ ?_ ?_ ?_ ?_ ?_ ?_ ?_ ?_ ?_) <;> intros <;> first | omega | rfl
/-! where the class stands; what it blames -/
def tF (h0 h : zH) : Prop := ∀ a b, ¬ (a = 10 ∧ 6 ≤ b ∧ b ≤ 8) → h a b = h0 a b
theorem tF.rfl {h : zH} : tF h h := fun _ _ _ => Eq.refl _
theorem tF.z {h0 h : zH} {k : Nat} {v : zV} (h1 : 6 ≤ k) (h2 : k ≤ 8) (g : tF h0 h) : tF h0 (zset h 10 k v) := fun a b hn => (zset_ne (fun c => hn ⟨c.1, by omega, by omega⟩)).trans (g a b hn)
theorem tF.trans {h0 h1 h2 : zH} (a : tF h0 h1) (b : tF h1 h2) : tF h0 h2 := fun x y hn => (b x y hn).trans (a x y hn)
def cSt (B : Nat → Int) (n m i : Nat) (h : zH) : Prop := TXc B n h ∧ Txt B n m h ∧ i ≤ m ∧ h 10 6 = (0, (i : Int)) ∧ h 10 7 = (0, 0) ∧ h 10 8 = (0, -1)
def cBl (f p : Int) (h : zH) : Prop := h 10 7 = (0, f) ∧ h 10 8 = (0, p)
theorem Rw.tf {B : Nat → Int} {n j : Nat} {h0 h : zH} (g : tF h0 h) (a : Rw B n j h0) : Rw B n j h := by
  obtain ⟨k, s, e, v, a1, a2, a3, a4, a5, a6⟩ := a
  exact ⟨k, s, e, v, a1, a2, (g 12 j (fun c => by omega)).trans a3, (g 13 j (fun c => by omega)).trans a4, (g 14 j (fun c => by omega)).trans a5, (g 15 j (fun c => by omega)).trans a6⟩
theorem Txt.tf {B : Nat → Int} {n m : Nat} {h0 h : zH} (g : tF h0 h) (a : Txt B n m h0) : Txt B n m h := ⟨a.1, fun j hj => (a.2.1 j hj).tf g, by rw [g 12 m (fun c => by omega)]; exact a.2.2⟩
/-- on to the next token -/
theorem cSt_next {B : Nat → Int} {n m i : Nat} {h : zH} (hS : cSt B n m i h) (h0 : (h 12 i).2 ≠ 0) (h4 : (h 12 i).2 ≠ 4) : cSt B n m (i + 1) (zset h 10 6 (0, (h 10 6).2 + 1)) := by
  obtain ⟨hx, ht, hi, h6, h7, h8⟩ := hS
  have g : tF h (zset h 10 6 (0, (h 10 6).2 + 1)) := tF.rfl.z (by decide) (by decide)
  have hne : i ≠ m := fun e => by
    rw [e] at h0 h4
    rcases ht.2.2 with c | c
    · exact h0 c
    · exact h4 c
  have e6 : (h 10 6).2 = (i : Int) := congrArg Prod.snd h6
  exact ⟨hx.z (by decide), ht.tf g, by omega, zset_same.trans (congrArg (Prod.mk (0 : Nat)) (by rw [e6]; omega)), (zset_ne (by decide)).trans h7, (zset_ne (by decide)).trans h8⟩
theorem cBl_mk {h : zH} {f p : Int} : cBl f p (zset (zset h 10 7 (0, f)) 10 8 (0, p)) := ⟨(zset_ne (by decide)).trans zset_same, zset_same⟩
end
section
/-! WORDS: by their index, and as one number -/
theorem pv_inj {B C : Nat → Int} {s t : Nat} : ∀ {l m : Nat}, (∀ q, s ≤ q → q < s + l → 97 ≤ B q ∧ B q ≤ 122) → (∀ q, t ≤ q → q < t + m → 97 ≤ C q ∧ C q ≤ 122) → pv B s l = pv C t m → l = m ∧ ∀ j, j < l → B (s + j) = C (t + j)
  | 0, 0, _, _, _ => ⟨rfl, fun j h => absurd h (by omega)⟩
  | 0, m + 1, _, hc, e => by
    have b := pv_bd (l := m) (fun q h1 h2 => hc q h1 (by omega))
    have d := hc (t + m) (by omega) (by omega)
    have e : 0 = 32 * pv C t m + (C (t + m) - 96) := e
    omega
  | l + 1, 0, hb, _, e => by
    have b := pv_bd (l := l) (fun q h1 h2 => hb q h1 (by omega))
    have d := hb (s + l) (by omega) (by omega)
    have e : 32 * pv B s l + (B (s + l) - 96) = 0 := e
    omega
  | l + 1, m + 1, hb, hc, e => by
    have e : 32 * pv B s l + (B (s + l) - 96) = 32 * pv C t m + (C (t + m) - 96) := e
    have d1 := hb (s + l) (by omega) (by omega)
    have d2 := hc (t + m) (by omega) (by omega)
    have e1 : pv B s l = pv C t m := by omega
    have e2 : B (s + l) = C (t + m) := by omega
    obtain ⟨h1, h2⟩ := pv_inj (l := l) (m := m) (fun q g1 g2 => hb q g1 (by omega)) (fun q g1 g2 => hc q g1 (by omega)) e1
    subst h1
    refine ⟨rfl, fun j hj => ?_⟩
    by_cases c : j = l
    · rw [c]; exact e2
    · exact h2 j (by omega)
theorem pv_congr {B C : Nat → Int} {s t : Nat} : ∀ {k : Nat}, (∀ j, j < k → B (s + j) = C (t + j)) → pv B s k = pv C t k
  | 0, _ => rfl
  | k + 1, h => by
    show 32 * pv B s k + (B (s + k) - 96) = 32 * pv C t k + (C (t + k) - 96)
    rw [pv_congr (fun j hj => h j (by omega)), h k (by omega)]
def pw (l : List Int) : Int := pv (fun j => l.getD j 0) 0 l.length
def RWk (l : List Int) : Bool := decide (l.length ≤ 8) && (List.range l.length).all (fun j => decide (97 ≤ l.getD j 0) && decide (l.getD j 0 ≤ 122))
theorem RW_ok : RW.all RWk = true := by decide +kernel
theorem RW_at {l : List Int} (hl : l ∈ RW) : l.length ≤ 8 ∧ ∀ j, j < l.length → 97 ≤ l.getD j 0 ∧ l.getD j 0 ≤ 122 := by
  have h := List.all_eq_true.mp RW_ok l hl
  unfold RWk at h
  rw [Bool.and_eq_true, decide_eq_true_eq] at h
  refine ⟨h.1, fun j hj => ?_⟩
  have g : (decide (97 ≤ l.getD j 0) && decide (l.getD j 0 ≤ 122)) = true := List.all_eq_true.mp h.2 j (List.mem_range.mpr hj)
  rw [Bool.and_eq_true, decide_eq_true_eq, decide_eq_true_eq] at g
  exact g
theorem word_iff {B : Nat → Int} {n s e : Nat} {l : List Int} (hl : l ∈ RW) (hR : Rn iL B n s e) : wv B s (e - s) = pw l ↔ Mw B s e l := by
  have hse := hR.1
  obtain ⟨h8, hlt⟩ := RW_at hl
  have hB : ∀ q, s ≤ q → q < s + (e - s) → 97 ≤ B q ∧ B q ≤ 122 := fun q h1 h2 => iL_ne (hR.2.1 q h1 (by omega)).2
  have hC : ∀ q, 0 ≤ q → q < 0 + l.length → 97 ≤ l.getD q 0 ∧ l.getD q 0 ≤ 122 := fun q _ h2 => hlt q (by omega)
  constructor
  · intro h
    unfold wv at h
    by_cases c : e - s ≤ 8
    · rw [if_pos c] at h
      obtain ⟨h1, h2⟩ := pv_inj (t := 0) hB hC h
      refine ⟨by omega, fun j hj => ?_⟩
      have := h2 j (by omega)
      rw [Nat.zero_add] at this
      exact this
    · rw [if_neg c] at h
      have b := pv_bd hC
      unfold pw at h
      omega
  · rintro ⟨h1, h2⟩
    unfold wv
    rw [if_pos (by omega), show e - s = l.length from by omega]
    exact pv_congr (fun j hj => by rw [Nat.zero_add]; exact h2 j hj)
def RWd : Bool := (List.range 22).all fun i => (List.range 22).all fun j => decide (i = j) || decide ((RW.map pw)[i]? ≠ (RW.map pw)[j]?)
theorem RWd_ok : RWd = true := by decide +kernel
theorem RI_word {B : Nat → Int} {n s e w : Nat} {v : Int} {l : List Int} (hR : Rn iL B n s e) (hv : RI B s e v) (hw : RW[w]? = some l) : v = (w : Int) ↔ Mw B s e l := by
  have hwl := (List.getElem?_eq_some_iff.mp hw).1
  have hln := RWp_len.2.2
  constructor
  · intro h
    rcases hv with ⟨w', l', g1, g2, g3⟩ | ⟨g1, _⟩
    · have e1 : w' = w := by omega
      rw [e1, hw] at g1
      cases g1
      exact g3
    · omega
  · intro h
    rcases hv with ⟨w', l', g1, g2, g3⟩ | ⟨_, g2⟩
    · have hw' := (List.getElem?_eq_some_iff.mp g1).1
      have p1 := (word_iff (List.mem_of_getElem? hw) hR).mpr h
      have p2 := (word_iff (List.mem_of_getElem? g1) hR).mpr g3
      have d := RWd_ok
      unfold RWd at d
      have d1 : ((List.range 22).all fun j => decide (w' = j) || decide ((RW.map pw)[w']? ≠ (RW.map pw)[j]?)) = true := List.all_eq_true.mp d w' (List.mem_range.mpr (by omega))
      have d2 : (decide (w' = w) || decide ((RW.map pw)[w']? ≠ (RW.map pw)[w]?)) = true := List.all_eq_true.mp d1 w (List.mem_range.mpr (by omega))
      rw [Bool.or_eq_true, decide_eq_true_eq, decide_eq_true_eq] at d2
      rcases d2 with c | c
      · rw [g2, c]
      · refine absurd ?_ c
        rw [List.getElem?_map, List.getElem?_map, g1, hw]
        show some (pw l') = some (pw l)
        rw [← p1, ← p2]
    · exact absurd h (g2 l (List.mem_of_getElem? hw))
/-- what one side sees by index, the other sees as a number -/
theorem word_same {B : Nat → Int} {n s e w : Nat} {v : Int} {l : List Int} (hR : Rn iL B n s e) (hv : RI B s e v) (hw : RW[w]? = some l) : v = (w : Int) ↔ wv B s (e - s) = pw l := (RI_word hR hv hw).trans (word_iff (List.mem_of_getElem? hw) hR).symm
end
section
/-! WHAT A TEXT SAYS: the tokens as a table (0 kind, 1 start, 2 end, 3 value, 4 name, 10 + x letter x), and the readers on it -/
abbrev PT := Nat → Nat → Int
abbrev Er := Int × Int
def eb {α β : Type} (x : Er ⊕ α) (k : α → Er ⊕ β) : Er ⊕ β := match x with
  | .inl e => .inl e
  | .inr a => k a
theorem eb_l {α β : Type} {e : Er} {k : α → Er ⊕ β} : eb (.inl e) k = .inl e := rfl
theorem eb_r {α β : Type} {a : α} {k : α → Er ⊕ β} : eb (.inr a) k = k a := rfl
def lt (x : Int) : Int := if x = 112 then 0 else if x = 114 then 1 else if x = 104 then 2 else if x = 119 then 3 else if x = 102 then 4 else -1
def fk (τ : PT) (i : Nat) (f : Int) : Int := if τ 0 i = 4 then 1 else f
def eF (τ : PT) (i : Nat) (f : Int) : Er := (fk τ i f, τ 1 i)
theorem fk_n {τ : PT} {i : Nat} {f : Int} (h : τ 0 i ≠ 4) : fk τ i f = f := if_neg h
theorem fk_4 {τ : PT} {i : Nat} {f : Int} (h : τ 0 i = 4) : fk τ i f = 1 := if_pos h
def bW (τ : PT) (w : Int) (i : Nat) : Int := if τ 0 i = 1 ∧ τ 3 i = w then 1 else 0
def bG (τ : PT) (x : Int) (i : Nat) : Int := if τ 0 i = 3 ∧ τ 3 i = x then 1 else 0
def bN (τ : PT) (i : Nat) : Int := if τ 0 i = 1 ∧ τ 3 i = -1 ∧ τ 2 i - τ 1 i ≤ 8 then 1 else 0
theorem bW_y {τ : PT} {w : Int} {i : Nat} : bW τ w i ≠ 0 ↔ τ 0 i = 1 ∧ τ 3 i = w := by
  unfold bW
  by_cases c : τ 0 i = 1 ∧ τ 3 i = w
  · rw [if_pos c]; exact ⟨fun _ => c, fun _ => by decide⟩
  · rw [if_neg c]; exact ⟨fun f => absurd rfl f, fun f => absurd f c⟩
theorem bG_y {τ : PT} {w : Int} {i : Nat} : bG τ w i ≠ 0 ↔ τ 0 i = 3 ∧ τ 3 i = w := by
  unfold bG
  by_cases c : τ 0 i = 3 ∧ τ 3 i = w
  · rw [if_pos c]; exact ⟨fun _ => c, fun _ => by decide⟩
  · rw [if_neg c]; exact ⟨fun f => absurd rfl f, fun f => absurd f c⟩
theorem bN_y {τ : PT} {i : Nat} : bN τ i ≠ 0 ↔ τ 0 i = 1 ∧ τ 3 i = -1 ∧ τ 2 i - τ 1 i ≤ 8 := by
  unfold bN
  by_cases c : τ 0 i = 1 ∧ τ 3 i = -1 ∧ τ 2 i - τ 1 i ≤ 8
  · rw [if_pos c]; exact ⟨fun _ => c, fun _ => by decide⟩
  · rw [if_neg c]; exact ⟨fun f => absurd rfl f, fun f => absurd f c⟩
def bEn (τ : PT) (i : Nat) : Int := if τ 0 i = 0 then 1 else 0
def bL (τ : PT) (w : Int) (i : Nat) : Int := if τ 0 i = 1 ∧ τ 2 i - τ 1 i = w then 1 else 0
def bHw (τ : PT) (i : Nat) : Int := if τ 0 i = 1 then τ 3 i else -1
theorem bL_y {τ : PT} {w : Int} {i : Nat} : bL τ w i ≠ 0 ↔ τ 0 i = 1 ∧ τ 2 i - τ 1 i = w := by
  unfold bL
  by_cases c : τ 0 i = 1 ∧ τ 2 i - τ 1 i = w
  · rw [if_pos c]; exact ⟨fun _ => c, fun _ => by decide⟩
  · rw [if_neg c]; exact ⟨fun f => absurd rfl f, fun f => absurd f c⟩
theorem bEn_y {τ : PT} {i : Nat} : bEn τ i ≠ 0 ↔ τ 0 i = 0 := by
  unfold bEn
  by_cases c : τ 0 i = 0
  · rw [if_pos c]; exact ⟨fun _ => c, fun _ => by decide⟩
  · rw [if_neg c]; exact ⟨fun f => absurd rfl f, fun f => absurd f c⟩
def pWord (τ : PT) (w : Int) (i : Nat) : Er ⊕ Nat := if bW τ w i ≠ 0 then .inr (i + 1) else .inl (eF τ i 2)
def pSg (τ : PT) (x : Int) (i : Nat) : Er ⊕ Nat := if bG τ x i ≠ 0 then .inr (i + 1) else .inl (eF τ i 2)
def pNum (τ : PT) (u v : Int) (i : Nat) : Er ⊕ (Int × Nat) := if τ 0 i = 2 then (if u ≤ τ 3 i ∧ τ 3 i ≤ v then .inr (τ 3 i, i + 1) else .inl (4, τ 1 i)) else .inl (eF τ i 2)
theorem pWord_y {τ : PT} {w : Int} {i : Nat} (h : bW τ w i ≠ 0) : pWord τ w i = .inr (i + 1) := if_pos h
theorem pWord_n {τ : PT} {w : Int} {i : Nat} (h : ¬ bW τ w i ≠ 0) : pWord τ w i = .inl (eF τ i 2) := if_neg h
theorem pSg_y {τ : PT} {w : Int} {i : Nat} (h : bG τ w i ≠ 0) : pSg τ w i = .inr (i + 1) := if_pos h
theorem pSg_n {τ : PT} {w : Int} {i : Nat} (h : ¬ bG τ w i ≠ 0) : pSg τ w i = .inl (eF τ i 2) := if_neg h
theorem pNum_y {τ : PT} {u v : Int} {i : Nat} (h1 : τ 0 i = 2) (h2 : u ≤ τ 3 i) (h3 : τ 3 i ≤ v) : pNum τ u v i = .inr (τ 3 i, i + 1) := by
  unfold pNum
  rw [if_pos h1, if_pos ⟨h2, h3⟩]
theorem pNum_o {τ : PT} {u v : Int} {i : Nat} (h1 : τ 0 i = 2) (h2 : ¬ (u ≤ τ 3 i ∧ τ 3 i ≤ v)) : pNum τ u v i = .inl (4, τ 1 i) := by
  unfold pNum
  rw [if_pos h1, if_neg h2]
theorem pNum_n {τ : PT} {u v : Int} {i : Nat} (h1 : τ 0 i ≠ 2) : pNum τ u v i = .inl (eF τ i 2) := if_neg h1
theorem pNum_bd {τ : PT} {u v x : Int} {i j : Nat} (h : pNum τ u v i = .inr (x, j)) : u ≤ x ∧ x ≤ v := by
  unfold pNum at h
  by_cases c : τ 0 i = 2
  · rw [if_pos c] at h
    by_cases d : u ≤ τ 3 i ∧ τ 3 i ≤ v
    · rw [if_pos d] at h; cases h; exact d
    · rw [if_neg d] at h; cases h
  · rw [if_neg c] at h; cases h
def pCell (τ : PT) (w r : Int) (i : Nat) : Er ⊕ (Int × Int × Nat) := eb (pNum τ 0 (w - 1) i) fun a => eb (pNum τ 0 (r - 1) a.2) fun b => .inr (a.1, b.1, b.2)
def pset (P : PT) (j k : Nat) (v : Int) : PT := fun a b => if a = j ∧ b = k then v else P a b
theorem pset_same {P : PT} {j k : Nat} {v : Int} : pset P j k v j k = v := if_pos ⟨rfl, rfl⟩
theorem pset_ne {P : PT} {j k a b : Nat} {v : Int} (h : ¬ (a = j ∧ b = k)) : pset P j k v a b = P a b := if_neg h
/-- a LAND's content: 0: wide, rows, copies, companies, eaten (9: copies told); 1 letters, 2 rises, 3 states, 4 names, 5 home, 6 at, 7 goal, 8 by, 9 spent (a CELL: 8 y + x) -/
def pCi (x y : Int) : Int := y * 8 + x
def pCl (x y : Int) : Nat := (y * 8 + x).toNat
def pRise (τ : PT) (P : PT) (i : Nat) : Er ⊕ (PT × Nat) := eb (pCell τ (P 0 0) (P 0 1) (i + 1)) fun c => eb (pWord τ 3 c.2.2) fun j => eb (pNum τ 0 9 j) fun v => .inr (pset P 2 (pCl c.1 c.2.1) v.1, v.2)
def pCopies (τ : PT) (P : PT) (i : Nat) : Er ⊕ (PT × Nat) := if P 0 9 ≠ 0 then .inl (eF τ i 5) else eb (pNum τ 1 3 (i + 1)) fun v => .inr (pset (pset P 0 2 v.1) 0 9 1, v.2)
def pIx (f : Nat → Int) (w : Int) : Nat → Nat → Int
  | 0, _ => -1
  | n + 1, k => if f k = w then (k : Int) else pIx f w n (k + 1)
def pBy (τ : PT) (c : Int) (i : Nat) : Er ⊕ (Int × Nat) := if bW τ 3 i ≠ 0 then pNum τ 0 (c - 1) (i + 1) else .inr (0, i)
def pAdd (P : PT) (nm hm gl by_ : Int) : PT := pset (pset (pset (pset (pset (pset (pset P 4 (P 0 3).toNat nm) 5 (P 0 3).toNat hm) 6 (P 0 3).toNat hm) 7 (P 0 3).toNat gl) 8 (P 0 3).toNat by_) 9 (P 0 3).toNat 0) 0 3 (P 0 3 + 1)
def pCompany (τ : PT) (P : PT) (i : Nat) : Er ⊕ (PT × Nat) := if 6 ≤ P 0 3 then .inl (eF τ i 6) else if bN τ (i + 1) ≠ 0 then (if pIx (P 4) (τ 4 (i + 1)) (P 0 3).toNat 0 ≠ -1 then .inl (eF τ (i + 1) 3) else eb (pWord τ 6 (i + 1 + 1)) fun a => eb (pCell τ (P 0 0) (P 0 1) a) fun c => eb (pWord τ 7 c.2.2) fun b => eb (pCell τ (P 0 0) (P 0 1) b) fun d => eb (pBy τ (P 0 2) d.2.2) fun y => .inr (pAdd P (τ 4 (i + 1)) (pCi c.1 c.2.1) (pCi d.1 d.2.1) y.1, y.2)) else .inl (eF τ (i + 1) 2)
def pAll (τ : PT) (j : Nat) : Nat → Bool
  | 0 => true
  | x + 1 => pAll τ j x && decide (0 ≤ τ (10 + x) j)
theorem pAll_y {τ : PT} {j : Nat} : ∀ {n : Nat}, pAll τ j n = true ↔ ∀ x, x < n → 0 ≤ τ (10 + x) j
  | 0 => ⟨fun _ x h => absurd h (by omega), fun _ => rfl⟩
  | n + 1 => by
    show (pAll τ j n && decide (0 ≤ τ (10 + n) j)) = true ↔ _
    rw [Bool.and_eq_true, pAll_y (n := n), decide_eq_true_eq]
    constructor
    · intro h x hx
      by_cases e : x = n
      · rw [e]; exact h.2
      · exact h.1 x (by omega)
    · exact fun h => ⟨fun x hx => h x (by omega), h n (by omega)⟩
/-- so many letters of a row are there -/
def pLt (τ : PT) (P : PT) (j n : Nat) : PT := fun a b => if a = 1 ∧ 8 * (P 0 1).toNat ≤ b ∧ b < 8 * (P 0 1).toNat + n then τ (10 + (b - 8 * (P 0 1).toNat)) j else P a b
def pRowL (τ : PT) (P : PT) (i : Nat) : Er ⊕ (PT × Nat) := if bL τ (P 0 0) i ≠ 0 ∧ pAll τ i (P 0 0).toNat = true then .inr (pset (pLt τ P i (P 0 0).toNat) 0 1 (P 0 1 + 1), i + 1) else .inl (eF τ i 2)
def pRow (τ : PT) (P : PT) (i : Nat) : Er ⊕ (PT × Nat) := if 6 ≤ P 0 1 then .inl (eF τ i 6) else pRowL τ P (i + 1)
def pS {α : Type} (τ : PT) (x : Er ⊕ (α × Nat)) : Er ⊕ (α × Nat) := eb x fun a => eb (pSg τ 59 a.2) fun j => .inr (a.1, j)
def pPart (τ : PT) (P : PT) (i : Nat) : Er ⊕ (PT × Nat) := if bW τ 2 i ≠ 0 then pRise τ P i else if bW τ 4 i ≠ 0 then pCopies τ P i else if bW τ 5 i ≠ 0 then pCompany τ P i else .inl (eF τ i 2)
def pRows (τ : PT) : Nat → PT → Nat → Er ⊕ (PT × Nat)
  | 0, _, _ => .inl (0, 0)
  | f + 1, P, i => if bW τ 1 i ≠ 0 then eb (pS τ (pRow τ P i)) fun a => pRows τ f a.1 a.2 else if 0 < P 0 1 then .inr (P, i) else .inl (eF τ i 2)
def pParts (τ : PT) : Nat → PT → Nat → Er ⊕ PT
  | 0, P, _ => .inr P
  | f + 1, P, i => if τ 0 i = 0 then .inr P else eb (pS τ (pPart τ P i)) fun a => pParts τ f a.1 a.2
def pO : PT := fun a b => if a = 0 ∧ b = 2 then 1 else 0
def pWide (τ P : PT) (i : Nat) : Er ⊕ (PT × Nat) := eb (pWord τ 0 i) fun i => eb (pNum τ 2 8 i) fun w => eb (pSg τ 59 w.2) fun j => .inr (pset P 0 0 w.1, j)
def pLand (τ : PT) : Er ⊕ PT := eb (pWide τ pO 0) fun a => eb (pRows τ 7 a.1 a.2) fun b => pParts τ 900 b.1 b.2
/-- the table is that of the text's tokens -/
def Tks (B : Nat → Int) (n m : Nat) (τ : PT) : Prop := m ≤ 900 ∧ (∀ j, j ≤ m → ∃ k s e v, TS B n j k s e ∧ VC B k s e v ∧ τ 0 j = k ∧ τ 1 j = (s : Int) ∧ τ 2 j = (e : Int) ∧ τ 3 j = v ∧ τ 4 j = wv B s (e - s) ∧ ∀ x, τ (10 + x) j = lt (B (s + x))) ∧ (τ 0 m = 0 ∨ τ 0 m = 4)
/-! the class, where it stands in them -/
def cX (B : Nat → Int) (n m : Nat) (τ : PT) (i : Nat) (h : zH) : Prop := cSt B n m i h ∧ (∀ j, (h 12 j).2 = τ 0 j) ∧ (∀ j, (h 13 j).2 = τ 1 j) ∧ (∀ j, (h 14 j).2 = τ 2 j) ∧ (∀ j, (h 15 j).2 = τ 3 j)
section CX
variable {B : Nat → Int} {n m i : Nat} {τ : PT} {h : zH}
theorem cX.at (g : cX B n m τ i h) : h 10 6 = (0, (i : Int)) := g.1.2.2.2.1
theorem cX.fl (g : cX B n m τ i h) : h 10 7 = (0, 0) := g.1.2.2.2.2.1
theorem cX.pl (g : cX B n m τ i h) : h 10 8 = (0, -1) := g.1.2.2.2.2.2
theorem cX.k0 (g : cX B n m τ i h) (j : Nat) : (h 12 j).2 = τ 0 j := g.2.1 j
theorem cX.k1 (g : cX B n m τ i h) (j : Nat) : (h 13 j).2 = τ 1 j := g.2.2.1 j
theorem cX.k2 (g : cX B n m τ i h) (j : Nat) : (h 14 j).2 = τ 2 j := g.2.2.2.1 j
theorem cX.k3 (g : cX B n m τ i h) (j : Nat) : (h 15 j).2 = τ 3 j := g.2.2.2.2 j
theorem cX.im (g : cX B n m τ i h) : i ≤ m ∧ m ≤ 900 ∧ i ≤ 900 := ⟨g.1.2.2.1, g.1.2.1.1, Nat.le_trans g.1.2.2.1 g.1.2.1.1⟩
theorem cX.lst (g : cX B n m τ i h) (h0 : τ 0 i ≠ 0) (h4 : τ 0 i ≠ 4) : i < m := by
  have h1 := g.im.1
  have h2 := g.1.2.1.2.2
  rw [g.k0] at h2
  by_cases e : i = m
  · rw [e] at h0 h4
    rcases h2 with c | c
    · exact absurd c h0
    · exact absurd c h4
  · omega
theorem cX.tf {h' : zH} (f : tF h h') (g : cX B n m τ i h) (h6 : h' 10 6 = h 10 6) (h7 : h' 10 7 = h 10 7) (h8 : h' 10 8 = h 10 8) : cX B n m τ i h' := ⟨⟨⟨g.1.1.1, fun q hq => (f 11 q (fun c => by omega)).trans (g.1.1.2 q hq)⟩, g.1.2.1.tf f, g.1.2.2.1, h6.trans g.at, h7.trans g.fl, h8.trans g.pl⟩, fun j => by rw [f 12 j (fun c => by omega)]; exact g.k0 j, fun j => by rw [f 13 j (fun c => by omega)]; exact g.k1 j, fun j => by rw [f 14 j (fun c => by omega)]; exact g.k2 j, fun j => by rw [f 15 j (fun c => by omega)]; exact g.k3 j⟩
theorem cX.z {r k : Nat} {v : zV} (hr : r < 10 ∨ 15 < r) (g : cX B n m τ i h) : cX B n m τ i (zset h r k v) := by
  have e : ∀ a b, 10 ≤ a → a ≤ 15 → zset h r k v a b = h a b := fun a b h1 h2 => zset_ne (fun c => by omega)
  have hr2 : ∀ j, Rw B n j h → Rw B n j (zset h r k v) := fun j ⟨k', s, e', v', a1, a2, a3, a4, a5, a6⟩ => ⟨k', s, e', v', a1, a2, (e 12 j (by decide) (by decide)).trans a3, (e 13 j (by decide) (by decide)).trans a4, (e 14 j (by decide) (by decide)).trans a5, (e 15 j (by decide) (by decide)).trans a6⟩
  exact ⟨⟨g.1.1.z (by omega), ⟨g.1.2.1.1, fun j hj => hr2 j (g.1.2.1.2.1 j hj), by rw [e 12 m (by decide) (by decide)]; exact g.1.2.1.2.2⟩, g.1.2.2.1, (e 10 6 (by decide) (by decide)).trans g.at, (e 10 7 (by decide) (by decide)).trans g.fl, (e 10 8 (by decide) (by decide)).trans g.pl⟩, fun j => by rw [e 12 j (by decide) (by decide)]; exact g.k0 j, fun j => by rw [e 13 j (by decide) (by decide)]; exact g.k1 j, fun j => by rw [e 14 j (by decide) (by decide)]; exact g.k2 j, fun j => by rw [e 15 j (by decide) (by decide)]; exact g.k3 j⟩
theorem cX.next (g : cX B n m τ i h) (h0 : τ 0 i ≠ 0) (h4 : τ 0 i ≠ 4) : cX B n m τ (i + 1) (zset h 10 6 (0, (i : Int) + 1)) := by
  have e : (i : Int) + 1 = (h 10 6).2 + 1 := by rw [g.at]
  rw [e]
  have f : tF h (zset h 10 6 (0, (h 10 6).2 + 1)) := tF.rfl.z (by decide) (by decide)
  exact ⟨cSt_next g.1 (by rw [g.k0]; exact h0) (by rw [g.k0]; exact h4), fun j => by rw [f 12 j (fun c => by omega)]; exact g.k0 j, fun j => by rw [f 13 j (fun c => by omega)]; exact g.k1 j, fun j => by rw [f 14 j (fun c => by omega)]; exact g.k2 j, fun j => by rw [f 15 j (fun c => by omega)]; exact g.k3 j⟩
end CX
/-- what it blames -/
def cB (e : Er) (h : zH) : Prop := h 10 7 = (0, e.1) ∧ h 10 8 = (0, e.2)
theorem cB_mk {h : zH} {f p : Int} : cB (f, p) (zset (zset h 10 7 (0, f)) 10 8 (0, p)) := cBl_mk
theorem qx_adv {D : zD} {T : zT} (hT : hTab T) (hO : vOK T) {N : Nat} {h : zH} {Q : zR → Prop} {B : Nat → Int} {n m i : Nat} {τ : PT} (hv0 : zHv h) (hX : cX B n m τ i h)
    (k0 : ((i : Int) < 900) → ((τ 0 i) = 0) → Q (h, none))
    (k1 : ((i : Int) < 900) → ((τ 0 i) ≠ 0) → ((τ 0 i) = 4) → Q (h, none))
    (k2 : ((i : Int) < 900) → ((τ 0 i) ≠ 0) → ((τ 0 i) ≠ 4) → Q (zset h 10 6 (0, ((i : Int) + 1)), none))
    (k3 : (900 ≤ (i : Int)) → Q (h, none)) :
    vP D T N 100 0 h [some (2, 10)] [] Q := by
  refine v_load (v := (2, 10)) (hi_X8_advance_0 hT) rfl rfl ?_
  refine v_getf (v := (0, (i : Int))) (r := 10) (hi_X8_advance_1 hT) rfl rfl (fun _ => hX.at) ?_
  refine v_push (900) (hi_X8_advance_4 hT) rfl ?_
  refine v_ic (hi_X8_advance_7 hT) (fun hc1 => ?_) (fun hc1 => ?_)
  · have hc1 : (i : Int) < 900 := hc1
    refine v_load (v := (2, 10)) (hi_X8_advance_10 hT) rfl rfl ?_
    refine v_getR (c := 12) (r := 10) (hi_X8_advance_11 hT) rfl rfl rfl ?_
    refine v_load (v := (2, 10)) (hi_X8_advance_14 hT) rfl rfl ?_
    refine v_getf (v := (0, (i : Int))) (r := 10) (hi_X8_advance_15 hT) rfl rfl (fun _ => hX.at) ?_
    refine v_aldE (t := 0) (r := 12) (w := (τ 0 i)) (hi_X8_advance_18 hT) rfl rfl rfl (hX.k0 i) (fun ha2 hb3 => ?_)
    refine v_if (hi_X8_advance_19 hT) (fun hc4 => ?_) (fun hc4 => ?_)
    · have hc4 : (τ 0 i) = 0 := hc4
      refine v_ret0 (hi_X8_advance_45 hT) ?_
      exact k0 hc1 hc4
    · have hc4 : (τ 0 i) ≠ 0 := hc4
      refine v_load (v := (2, 10)) (hi_X8_advance_22 hT) rfl rfl ?_
      refine v_getR (c := 12) (r := 10) (hi_X8_advance_23 hT) rfl rfl rfl ?_
      refine v_load (v := (2, 10)) (hi_X8_advance_26 hT) rfl rfl ?_
      refine v_getf (v := (0, (i : Int))) (r := 10) (hi_X8_advance_27 hT) rfl rfl (fun _ => hX.at) ?_
      refine v_aldE (t := 0) (r := 12) (w := (τ 0 i)) (hi_X8_advance_30 hT) rfl rfl rfl (hX.k0 i) (fun ha5 hb6 => ?_)
      refine v_push (4) (hi_X8_advance_31 hT) rfl ?_
      refine v_ic (hi_X8_advance_32 hT) (fun hc7 => ?_) (fun hc7 => ?_)
      · have hc7 : (τ 0 i) = 4 := hc7
        refine v_ret0 (hi_X8_advance_45 hT) ?_
        exact k1 hc1 hc4 hc7
      · have hc7 : (τ 0 i) ≠ 4 := hc7
        refine v_load (v := (2, 10)) (hi_X8_advance_35 hT) rfl rfl ?_
        refine v_dup (hi_X8_advance_36 hT) (Nat.ne_of_beq_eq_false rfl) ?_
        refine v_getf (v := (0, (i : Int))) (r := 10) (hi_X8_advance_37 hT) rfl rfl (fun _ => hX.at) ?_
        refine v_push (1) (hi_X8_advance_40 hT) rfl ?_
        refine v_bin (w := ((i : Int) + 1)) (hi_X8_advance_41 hT) (hq_add (by omega) (by omega)) ?_
        refine v_putf (r := 10) hO (hi_X8_advance_42 hT) rfl (fun hf8 => ?_)
        refine v_ret0 (hi_X8_advance_45 hT) ?_
        exact k2 hc1 hc4 hc7
  · have hc1 : 900 ≤ (i : Int) := Int.not_lt.mp hc1
    refine v_ret0 (hi_X8_advance_45 hT) ?_
    exact k3 hc1
theorem qx_blame {D : zD} {T : zT} (hT : hTab T) (hO : vOK T) {N : Nat} {h : zH} {Q : zR → Prop} {B : Nat → Int} {n m i : Nat} {τ : PT} (f : Int) (hv0 : zHv h) (hX : cX B n m τ i h)
    (k0 : ((τ 0 i) = 4) → Q (zset (zset h 10 7 (0, 1)) 10 8 (0, (τ 1 i)), some (0, 0)))
    (k1 : ((τ 0 i) ≠ 4) → Q (zset (zset h 10 7 (0, f)) 10 8 (0, (τ 1 i)), some (0, 0))) :
    vP D T N 103 0 h [some (2, 10), some (0, f)] [] Q := by
  refine v_load (v := (2, 10)) (hi_X8_blame_0 hT) rfl rfl ?_
  refine v_load (v := (2, 10)) (hi_X8_blame_1 hT) rfl rfl ?_
  refine v_getR (c := 12) (r := 10) (hi_X8_blame_2 hT) rfl rfl rfl ?_
  refine v_load (v := (2, 10)) (hi_X8_blame_5 hT) rfl rfl ?_
  refine v_getf (v := (0, (i : Int))) (r := 10) (hi_X8_blame_6 hT) rfl rfl (fun _ => hX.at) ?_
  refine v_aldE (t := 0) (r := 12) (w := (τ 0 i)) (hi_X8_blame_9 hT) rfl rfl rfl (hX.k0 i) (fun ha1 hb2 => ?_)
  refine v_push (4) (hi_X8_blame_10 hT) rfl ?_
  refine v_ic (hi_X8_blame_11 hT) (fun hc3 => ?_) (fun hc3 => ?_)
  · have hc3 : (τ 0 i) = 4 := hc3
    refine v_push (1) (hi_X8_blame_14 hT) rfl ?_
    refine v_goto (hi_X8_blame_15 hT) ?_
    refine v_putf (r := 10) hO (hi_X8_blame_19 hT) rfl (fun hf4 => ?_)
    refine v_load (v := (2, 10)) (hi_X8_blame_22 hT) rfl rfl ?_
    refine v_load (v := (2, 10)) (hi_X8_blame_23 hT) rfl rfl ?_
    refine v_getR (c := 13) (r := 10) (hi_X8_blame_24 hT) rfl rfl rfl ?_
    refine v_load (v := (2, 10)) (hi_X8_blame_27 hT) rfl rfl ?_
    refine v_getf (v := (0, (i : Int))) (r := 10) (hi_X8_blame_28 hT) rfl rfl (fun _ => Eq.trans (zset_ne (fun c => absurd c.2 (by decide))) (hX.at)) ?_
    refine v_aldE (t := 0) (r := 13) (w := (τ 1 i)) (hi_X8_blame_31 hT) rfl rfl rfl ((congrArg Prod.snd (zset_ne (fun c => absurd c.1 (by decide)))).trans (hX.k1 i)) (fun ha5 hb6 => ?_)
    refine v_putf (r := 10) hO (hi_X8_blame_32 hT) rfl (fun hf7 => ?_)
    refine v_push (0) (hi_X8_blame_35 hT) rfl ?_
    refine v_ret (hi_X8_blame_36 hT) (Or.inl rfl) ?_
    exact k0 hc3
  · have hc3 : (τ 0 i) ≠ 4 := hc3
    refine v_load (v := (0, f)) (hi_X8_blame_18 hT) rfl rfl ?_
    refine v_putf (r := 10) hO (hi_X8_blame_19 hT) rfl (fun hf8 => ?_)
    refine v_load (v := (2, 10)) (hi_X8_blame_22 hT) rfl rfl ?_
    refine v_load (v := (2, 10)) (hi_X8_blame_23 hT) rfl rfl ?_
    refine v_getR (c := 13) (r := 10) (hi_X8_blame_24 hT) rfl rfl rfl ?_
    refine v_load (v := (2, 10)) (hi_X8_blame_27 hT) rfl rfl ?_
    refine v_getf (v := (0, (i : Int))) (r := 10) (hi_X8_blame_28 hT) rfl rfl (fun _ => Eq.trans (zset_ne (fun c => absurd c.2 (by decide))) (hX.at)) ?_
    refine v_aldE (t := 0) (r := 13) (w := (τ 1 i)) (hi_X8_blame_31 hT) rfl rfl rfl ((congrArg Prod.snd (zset_ne (fun c => absurd c.1 (by decide)))).trans (hX.k1 i)) (fun ha9 hb10 => ?_)
    refine v_putf (r := 10) hO (hi_X8_blame_32 hT) rfl (fun hf11 => ?_)
    refine v_push (0) (hi_X8_blame_35 hT) rfl ?_
    refine v_ret (hi_X8_blame_36 hT) (Or.inl rfl) ?_
    exact k1 hc3
theorem qx_isWord {D : zD} {T : zT} (hT : hTab T) (hO : vOK T) {N : Nat} {h : zH} {Q : zR → Prop} {B : Nat → Int} {n m i : Nat} {τ : PT} (w : Int) (hv0 : zHv h) (hX : cX B n m τ i h)
    (k0 : ((τ 0 i) = 1) → ((τ 3 i) = w) → Q (h, some (0, 1)))
    (k1 : ((τ 0 i) = 1) → ((τ 3 i) ≠ w) → Q (h, some (0, 0)))
    (k2 : ((τ 0 i) ≠ 1) → Q (h, some (0, 0))) :
    vP D T N 114 0 h [some (2, 10), some (0, w)] [] Q := by
  refine v_load (v := (2, 10)) (hz_X8_isWord hT _ _ rfl) rfl rfl ?_
  refine v_getR (c := 12) (r := 10) (hz_X8_isWord hT _ _ rfl) rfl rfl rfl ?_
  refine v_load (v := (2, 10)) (hz_X8_isWord hT _ _ rfl) rfl rfl ?_
  refine v_getf (v := (0, (i : Int))) (r := 10) (hz_X8_isWord hT _ _ rfl) rfl rfl (fun _ => hX.at) ?_
  refine v_aldE (t := 0) (r := 12) (w := (τ 0 i)) (hz_X8_isWord hT _ _ rfl) rfl rfl rfl (hX.k0 i) (fun ha1 hb2 => ?_)
  refine v_push (1) (hz_X8_isWord hT _ _ rfl) rfl ?_
  refine v_ic (hz_X8_isWord hT _ _ rfl) (fun hc3 => ?_) (fun hc3 => ?_)
  · have hc3 : (τ 0 i) = 1 := hc3
    refine v_load (v := (2, 10)) (hz_X8_isWord hT _ _ rfl) rfl rfl ?_
    refine v_getR (c := 15) (r := 10) (hz_X8_isWord hT _ _ rfl) rfl rfl rfl ?_
    refine v_load (v := (2, 10)) (hz_X8_isWord hT _ _ rfl) rfl rfl ?_
    refine v_getf (v := (0, (i : Int))) (r := 10) (hz_X8_isWord hT _ _ rfl) rfl rfl (fun _ => hX.at) ?_
    refine v_aldE (t := 0) (r := 15) (w := (τ 3 i)) (hz_X8_isWord hT _ _ rfl) rfl rfl rfl (hX.k3 i) (fun ha4 hb5 => ?_)
    refine v_load (v := (0, w)) (hz_X8_isWord hT _ _ rfl) rfl rfl ?_
    refine v_ic (hz_X8_isWord hT _ _ rfl) (fun hc6 => ?_) (fun hc6 => ?_)
    · have hc6 : (τ 3 i) = w := hc6
      refine v_push (1) (hz_X8_isWord hT _ _ rfl) rfl ?_
      refine v_goto (hz_X8_isWord hT _ _ rfl) ?_
      refine v_ret (hi_X8_isWord_31 hT) (Or.inl rfl) ?_
      exact k0 hc3 hc6
    · have hc6 : (τ 3 i) ≠ w := hc6
      refine v_push (0) (hi_X8_isWord_30 hT) rfl ?_
      refine v_ret (hi_X8_isWord_31 hT) (Or.inl rfl) ?_
      exact k1 hc3 hc6
  · have hc3 : (τ 0 i) ≠ 1 := hc3
    refine v_push (0) (hi_X8_isWord_30 hT) rfl ?_
    refine v_ret (hi_X8_isWord_31 hT) (Or.inl rfl) ?_
    exact k2 hc3
theorem qx_isEnd {D : zD} {T : zT} (hT : hTab T) (hO : vOK T) {N : Nat} {h : zH} {Q : zR → Prop} {B : Nat → Int} {n m i : Nat} {τ : PT} (hv0 : zHv h) (hX : cX B n m τ i h)
    (k0 : ((τ 0 i) = 0) → Q (h, some (0, 1)))
    (k1 : ((τ 0 i) ≠ 0) → Q (h, some (0, 0))) :
    vP D T N 110 0 h [some (2, 10)] [] Q := by
  refine v_load (v := (2, 10)) (hz_X8_isEnd hT _ _ rfl) rfl rfl ?_
  refine v_getR (c := 12) (r := 10) (hz_X8_isEnd hT _ _ rfl) rfl rfl rfl ?_
  refine v_load (v := (2, 10)) (hz_X8_isEnd hT _ _ rfl) rfl rfl ?_
  refine v_getf (v := (0, (i : Int))) (r := 10) (hz_X8_isEnd hT _ _ rfl) rfl rfl (fun _ => hX.at) ?_
  refine v_aldE (t := 0) (r := 12) (w := (τ 0 i)) (hz_X8_isEnd hT _ _ rfl) rfl rfl rfl (hX.k0 i) (fun ha1 hb2 => ?_)
  refine v_if (hz_X8_isEnd hT _ _ rfl) (fun hc3 => ?_) (fun hc3 => ?_)
  · have hc3 : (τ 0 i) = 0 := hc3
    refine v_push (1) (hz_X8_isEnd hT _ _ rfl) rfl ?_
    refine v_goto (hz_X8_isEnd hT _ _ rfl) ?_
    refine v_ret (hz_X8_isEnd hT _ _ rfl) (Or.inl rfl) ?_
    exact k0 hc3
  · have hc3 : (τ 0 i) ≠ 0 := hc3
    refine v_push (0) (hz_X8_isEnd hT _ _ rfl) rfl ?_
    refine v_ret (hz_X8_isEnd hT _ _ rfl) (Or.inl rfl) ?_
    exact k1 hc3
theorem qx_isWordOf {D : zD} {T : zT} (hT : hTab T) (hO : vOK T) {N : Nat} {h : zH} {Q : zR → Prop} {B : Nat → Int} {n m i : Nat} {τ : PT} (w : Int) (hv0 : zHv h) (hX : cX B n m τ i h) (b1 : 0 ≤ τ 1 i ∧ τ 1 i ≤ 900) (b2 : 0 ≤ τ 2 i ∧ τ 2 i ≤ 900)
    (k0 : ((τ 0 i) = 1) → (((τ 2 i) - (τ 1 i)) = w) → Q (h, some (0, 1)))
    (k1 : ((τ 0 i) = 1) → (((τ 2 i) - (τ 1 i)) ≠ w) → Q (h, some (0, 0)))
    (k2 : ((τ 0 i) ≠ 1) → Q (h, some (0, 0))) :
    vP D T N 115 0 h [some (2, 10), some (0, w)] [] Q := by
  refine v_load (v := (2, 10)) (hz_X8_isWordOf hT _ _ rfl) rfl rfl ?_
  refine v_getR (c := 12) (r := 10) (hz_X8_isWordOf hT _ _ rfl) rfl rfl rfl ?_
  refine v_load (v := (2, 10)) (hz_X8_isWordOf hT _ _ rfl) rfl rfl ?_
  refine v_getf (v := (0, (i : Int))) (r := 10) (hz_X8_isWordOf hT _ _ rfl) rfl rfl (fun _ => hX.at) ?_
  refine v_aldE (t := 0) (r := 12) (w := (τ 0 i)) (hz_X8_isWordOf hT _ _ rfl) rfl rfl rfl (hX.k0 i) (fun ha1 hb2 => ?_)
  refine v_push (1) (hz_X8_isWordOf hT _ _ rfl) rfl ?_
  refine v_ic (hz_X8_isWordOf hT _ _ rfl) (fun hc3 => ?_) (fun hc3 => ?_)
  · have hc3 : (τ 0 i) = 1 := hc3
    refine v_load (v := (2, 10)) (hz_X8_isWordOf hT _ _ rfl) rfl rfl ?_
    refine v_getR (c := 14) (r := 10) (hz_X8_isWordOf hT _ _ rfl) rfl rfl rfl ?_
    refine v_load (v := (2, 10)) (hz_X8_isWordOf hT _ _ rfl) rfl rfl ?_
    refine v_getf (v := (0, (i : Int))) (r := 10) (hz_X8_isWordOf hT _ _ rfl) rfl rfl (fun _ => hX.at) ?_
    refine v_aldE (t := 0) (r := 14) (w := (τ 2 i)) (hz_X8_isWordOf hT _ _ rfl) rfl rfl rfl (hX.k2 i) (fun ha4 hb5 => ?_)
    refine v_load (v := (2, 10)) (hz_X8_isWordOf hT _ _ rfl) rfl rfl ?_
    refine v_getR (c := 13) (r := 10) (hz_X8_isWordOf hT _ _ rfl) rfl rfl rfl ?_
    refine v_load (v := (2, 10)) (hz_X8_isWordOf hT _ _ rfl) rfl rfl ?_
    refine v_getf (v := (0, (i : Int))) (r := 10) (hz_X8_isWordOf hT _ _ rfl) rfl rfl (fun _ => hX.at) ?_
    refine v_aldE (t := 0) (r := 13) (w := (τ 1 i)) (hz_X8_isWordOf hT _ _ rfl) rfl rfl rfl (hX.k1 i) (fun ha6 hb7 => ?_)
    refine v_bin (w := ((τ 2 i) - (τ 1 i))) (hz_X8_isWordOf hT _ _ rfl) (hq_sub (by omega) (by omega)) ?_
    refine v_load (v := (0, w)) (hz_X8_isWordOf hT _ _ rfl) rfl rfl ?_
    refine v_ic (hz_X8_isWordOf hT _ _ rfl) (fun hc8 => ?_) (fun hc8 => ?_)
    · have hc8 : ((τ 2 i) - (τ 1 i)) = w := hc8
      refine v_push (1) (hz_X8_isWordOf hT _ _ rfl) rfl ?_
      refine v_goto (hz_X8_isWordOf hT _ _ rfl) ?_
      refine v_ret (hz_X8_isWordOf hT _ _ rfl) (Or.inl rfl) ?_
      exact k0 hc3 hc8
    · have hc8 : ((τ 2 i) - (τ 1 i)) ≠ w := hc8
      refine v_push (0) (hz_X8_isWordOf hT _ _ rfl) rfl ?_
      refine v_ret (hz_X8_isWordOf hT _ _ rfl) (Or.inl rfl) ?_
      exact k1 hc3 hc8
  · have hc3 : (τ 0 i) ≠ 1 := hc3
    refine v_push (0) (hz_X8_isWordOf hT _ _ rfl) rfl ?_
    refine v_ret (hz_X8_isWordOf hT _ _ rfl) (Or.inl rfl) ?_
    exact k2 hc3
theorem qx_wordHere {D : zD} {T : zT} (hT : hTab T) (hO : vOK T) {N : Nat} {h : zH} {Q : zR → Prop} {B : Nat → Int} {n m i : Nat} {τ : PT} (hv0 : zHv h) (hX : cX B n m τ i h)
    (k0 : ((τ 0 i) = 1) → Q (h, some (0, (τ 3 i))))
    (k1 : ((τ 0 i) ≠ 1) → Q (h, some (0, -1))) :
    vP D T N 126 0 h [some (2, 10)] [] Q := by
  refine v_load (v := (2, 10)) (hz_X8_wordHere hT _ _ rfl) rfl rfl ?_
  refine v_getR (c := 12) (r := 10) (hz_X8_wordHere hT _ _ rfl) rfl rfl rfl ?_
  refine v_load (v := (2, 10)) (hz_X8_wordHere hT _ _ rfl) rfl rfl ?_
  refine v_getf (v := (0, (i : Int))) (r := 10) (hz_X8_wordHere hT _ _ rfl) rfl rfl (fun _ => hX.at) ?_
  refine v_aldE (t := 0) (r := 12) (w := (τ 0 i)) (hz_X8_wordHere hT _ _ rfl) rfl rfl rfl (hX.k0 i) (fun ha1 hb2 => ?_)
  refine v_push (1) (hz_X8_wordHere hT _ _ rfl) rfl ?_
  refine v_ic (hz_X8_wordHere hT _ _ rfl) (fun hc3 => ?_) (fun hc3 => ?_)
  · have hc3 : (τ 0 i) = 1 := hc3
    refine v_load (v := (2, 10)) (hz_X8_wordHere hT _ _ rfl) rfl rfl ?_
    refine v_getR (c := 15) (r := 10) (hz_X8_wordHere hT _ _ rfl) rfl rfl rfl ?_
    refine v_load (v := (2, 10)) (hz_X8_wordHere hT _ _ rfl) rfl rfl ?_
    refine v_getf (v := (0, (i : Int))) (r := 10) (hz_X8_wordHere hT _ _ rfl) rfl rfl (fun _ => hX.at) ?_
    refine v_aldE (t := 0) (r := 15) (w := (τ 3 i)) (hz_X8_wordHere hT _ _ rfl) rfl rfl rfl (hX.k3 i) (fun ha4 hb5 => ?_)
    refine v_goto (hz_X8_wordHere hT _ _ rfl) ?_
    refine v_ret (hz_X8_wordHere hT _ _ rfl) (Or.inl rfl) ?_
    exact k0 hc3
  · have hc3 : (τ 0 i) ≠ 1 := hc3
    refine v_push (-1) (hz_X8_wordHere hT _ _ rfl) rfl ?_
    refine v_ret (hz_X8_wordHere hT _ _ rfl) (Or.inl rfl) ?_
    exact k1 hc3
theorem qx_isName {D : zD} {T : zT} (hT : hTab T) (hO : vOK T) {N : Nat} {h : zH} {Q : zR → Prop} {B : Nat → Int} {n m i : Nat} {τ : PT} (hv0 : zHv h) (hX : cX B n m τ i h) (b1 : 0 ≤ τ 1 i ∧ τ 1 i ≤ 900) (b2 : 0 ≤ τ 2 i ∧ τ 2 i ≤ 900)
    (k0 : ((τ 0 i) = 1) → ((τ 3 i) = -1) → (8 < ((τ 2 i) - (τ 1 i))) → Q (h, some (0, 0)))
    (k1 : ((τ 0 i) = 1) → ((τ 3 i) = -1) → (((τ 2 i) - (τ 1 i)) ≤ 8) → Q (h, some (0, 1)))
    (k2 : ((τ 0 i) = 1) → ((τ 3 i) ≠ -1) → Q (h, some (0, 0)))
    (k3 : ((τ 0 i) ≠ 1) → Q (h, some (0, 0))) :
    vP D T N 112 0 h [some (2, 10)] [] Q := by
  refine v_load (v := (2, 10)) (hz_X8_isName hT _ _ rfl) rfl rfl ?_
  refine v_getR (c := 12) (r := 10) (hz_X8_isName hT _ _ rfl) rfl rfl rfl ?_
  refine v_load (v := (2, 10)) (hz_X8_isName hT _ _ rfl) rfl rfl ?_
  refine v_getf (v := (0, (i : Int))) (r := 10) (hz_X8_isName hT _ _ rfl) rfl rfl (fun _ => hX.at) ?_
  refine v_aldE (t := 0) (r := 12) (w := (τ 0 i)) (hz_X8_isName hT _ _ rfl) rfl rfl rfl (hX.k0 i) (fun ha1 hb2 => ?_)
  refine v_push (1) (hz_X8_isName hT _ _ rfl) rfl ?_
  refine v_ic (hz_X8_isName hT _ _ rfl) (fun hc3 => ?_) (fun hc3 => ?_)
  · have hc3 : (τ 0 i) = 1 := hc3
    refine v_load (v := (2, 10)) (hz_X8_isName hT _ _ rfl) rfl rfl ?_
    refine v_getR (c := 15) (r := 10) (hz_X8_isName hT _ _ rfl) rfl rfl rfl ?_
    refine v_load (v := (2, 10)) (hz_X8_isName hT _ _ rfl) rfl rfl ?_
    refine v_getf (v := (0, (i : Int))) (r := 10) (hz_X8_isName hT _ _ rfl) rfl rfl (fun _ => hX.at) ?_
    refine v_aldE (t := 0) (r := 15) (w := (τ 3 i)) (hz_X8_isName hT _ _ rfl) rfl rfl rfl (hX.k3 i) (fun ha4 hb5 => ?_)
    refine v_push (-1) (hz_X8_isName hT _ _ rfl) rfl ?_
    refine v_ic (hz_X8_isName hT _ _ rfl) (fun hc6 => ?_) (fun hc6 => ?_)
    · have hc6 : (τ 3 i) = -1 := hc6
      refine v_load (v := (2, 10)) (hz_X8_isName hT _ _ rfl) rfl rfl ?_
      refine v_getR (c := 14) (r := 10) (hz_X8_isName hT _ _ rfl) rfl rfl rfl ?_
      refine v_load (v := (2, 10)) (hz_X8_isName hT _ _ rfl) rfl rfl ?_
      refine v_getf (v := (0, (i : Int))) (r := 10) (hz_X8_isName hT _ _ rfl) rfl rfl (fun _ => hX.at) ?_
      refine v_aldE (t := 0) (r := 14) (w := (τ 2 i)) (hz_X8_isName hT _ _ rfl) rfl rfl rfl (hX.k2 i) (fun ha7 hb8 => ?_)
      refine v_load (v := (2, 10)) (hz_X8_isName hT _ _ rfl) rfl rfl ?_
      refine v_getR (c := 13) (r := 10) (hz_X8_isName hT _ _ rfl) rfl rfl rfl ?_
      refine v_load (v := (2, 10)) (hz_X8_isName hT _ _ rfl) rfl rfl ?_
      refine v_getf (v := (0, (i : Int))) (r := 10) (hz_X8_isName hT _ _ rfl) rfl rfl (fun _ => hX.at) ?_
      refine v_aldE (t := 0) (r := 13) (w := (τ 1 i)) (hz_X8_isName hT _ _ rfl) rfl rfl rfl (hX.k1 i) (fun ha9 hb10 => ?_)
      refine v_bin (w := ((τ 2 i) - (τ 1 i))) (hz_X8_isName hT _ _ rfl) (hq_sub (by omega) (by omega)) ?_
      refine v_push (8) (hz_X8_isName hT _ _ rfl) rfl ?_
      refine v_ic (hz_X8_isName hT _ _ rfl) (fun hc11 => ?_) (fun hc11 => ?_)
      · have hc11 : 8 < ((τ 2 i) - (τ 1 i)) := hc11
        refine v_push (0) (hz_X8_isName hT _ _ rfl) rfl ?_
        refine v_ret (hi_X8_isName_55 hT) (Or.inl rfl) ?_
        exact k0 hc3 hc6 hc11
      · have hc11 : ((τ 2 i) - (τ 1 i)) ≤ 8 := Int.not_lt.mp hc11
        refine v_push (1) (hz_X8_isName hT _ _ rfl) rfl ?_
        refine v_goto (hz_X8_isName hT _ _ rfl) ?_
        refine v_ret (hi_X8_isName_55 hT) (Or.inl rfl) ?_
        exact k1 hc3 hc6 hc11
    · have hc6 : (τ 3 i) ≠ -1 := hc6
      refine v_push (0) (hz_X8_isName hT _ _ rfl) rfl ?_
      refine v_ret (hi_X8_isName_55 hT) (Or.inl rfl) ?_
      exact k2 hc3 hc6
  · have hc3 : (τ 0 i) ≠ 1 := hc3
    refine v_push (0) (hz_X8_isName hT _ _ rfl) rfl ?_
    refine v_ret (hi_X8_isName_55 hT) (Or.inl rfl) ?_
    exact k3 hc3
theorem qx_name0 {D : zD} {T : zT} (hT : hTab T) (hO : vOK T) {N : Nat} {h : zH} {Q : zR → Prop} {B : Nat → Int} {n m i : Nat} {τ : PT} (hv0 : zHv h) (hX : cX B n m τ i h)
    (k0 : vP D T N 116 12 h [some (2, 10), some (1, 0), none, some (0, (τ 1 i))] [] Q) :
    vP D T N 116 0 h [some (2, 10), none, none, none] [] Q := by
  refine v_push (0) (hz_X8_nameHere hT _ _ rfl) rfl ?_
  refine v_store2 [some (2, 10), some (1, 0), none, none] (hz_X8_nameHere hT _ _ rfl) (Nat.le_of_ble_eq_true rfl) rfl ?_
  refine v_load (v := (2, 10)) (hz_X8_nameHere hT _ _ rfl) rfl rfl ?_
  refine v_getR (c := 13) (r := 10) (hz_X8_nameHere hT _ _ rfl) rfl rfl rfl ?_
  refine v_load (v := (2, 10)) (hz_X8_nameHere hT _ _ rfl) rfl rfl ?_
  refine v_getf (v := (0, (i : Int))) (r := 10) (hz_X8_nameHere hT _ _ rfl) rfl rfl (fun _ => hX.at) ?_
  refine v_aldE (t := 0) (r := 13) (w := (τ 1 i)) (hz_X8_nameHere hT _ _ rfl) rfl rfl rfl (hX.k1 i) (fun ha1 hb2 => ?_)
  refine v_store1 [some (2, 10), some (1, 0), none, some (0, (τ 1 i))] (hz_X8_nameHere hT _ _ rfl) ⟨rfl, Nat.ne_of_beq_eq_false rfl⟩ (Nat.le_of_ble_eq_true rfl) rfl ?_
  exact k0 
theorem qx_name12 {D : zD} {T : zT} (hT : hTab T) (hO : vOK T) {N : Nat} {h : zH} {Q : zR → Prop} {B : Nat → Int} {n m i : Nat} {τ : PT} (v p : Int) (hv0 : zHv h) (hX : cX B n m τ i h) (bv : 0 ≤ v) (bv2 : p < τ 2 i → v ≤ 34359738368) (bp : 0 ≤ p ∧ p ≤ 900) (bb : p < τ 2 i → 97 ≤ (h 11 p.toNat).2 ∧ (h 11 p.toNat).2 ≤ 122)
    (k0 : (p < (τ 2 i)) → (0 ≤ p) → (p < 900) → vP D T N 116 12 h [some (2, 10), some (1, ((v * 32) + (((h 11 p.toNat).2 - 97) + 1))), none, some (0, (p + 1))] [] Q)
    (k1 : ((τ 2 i) ≤ p) → Q (h, some (1, v))) :
    vP D T (N + 1) 116 12 h [some (2, 10), some (1, v), none, some (0, p)] [] Q := by
  refine v_loadS (v := (0, p)) (hz_X8_nameHere hT _ _ rfl) rfl rfl ?_
  refine v_load (v := (2, 10)) (hz_X8_nameHere hT _ _ rfl) rfl rfl ?_
  refine v_getR (c := 14) (r := 10) (hz_X8_nameHere hT _ _ rfl) rfl rfl rfl ?_
  refine v_load (v := (2, 10)) (hz_X8_nameHere hT _ _ rfl) rfl rfl ?_
  refine v_getf (v := (0, (i : Int))) (r := 10) (hz_X8_nameHere hT _ _ rfl) rfl rfl (fun _ => hX.at) ?_
  refine v_aldE (t := 0) (r := 14) (w := (τ 2 i)) (hz_X8_nameHere hT _ _ rfl) rfl rfl rfl (hX.k2 i) (fun ha1 hb2 => ?_)
  refine v_ic (hz_X8_nameHere hT _ _ rfl) (fun hc3 => ?_) (fun hc3 => ?_)
  · have hc3 : p < (τ 2 i) := hc3
    refine v_load (v := (1, v)) (hz_X8_nameHere hT _ _ rfl) rfl rfl ?_
    refine v_push (32) (hz_X8_nameHere hT _ _ rfl) rfl ?_
    refine v_bin64 (w := (v * 32)) (hz_X8_nameHere hT _ _ rfl) (vz_mulL (by omega) (by omega)) ?_
    refine v_load (v := (2, 10)) (hz_X8_nameHere hT _ _ rfl) rfl rfl ?_
    refine v_getR (c := 11) (r := 10) (hz_X8_nameHere hT _ _ rfl) rfl rfl rfl ?_
    refine v_load (v := (0, p)) (hz_X8_nameHere hT _ _ rfl) rfl rfl ?_
    refine v_ald (t := 0) (r := 11) (hz_X8_nameHere hT _ _ rfl) rfl rfl rfl (fun ha4 hb5 => ?_)
    refine v_push (97) (hz_X8_nameHere hT _ _ rfl) rfl ?_
    refine v_bin (w := ((h 11 p.toNat).2 - 97)) (hz_X8_nameHere hT _ _ rfl) (hq_sub (by omega) (by omega)) ?_
    refine v_push (1) (hz_X8_nameHere hT _ _ rfl) rfl ?_
    refine v_bin (w := (((h 11 p.toNat).2 - 97) + 1)) (hz_X8_nameHere hT _ _ rfl) (hq_add (by omega) (by omega)) ?_
    refine v_i2l (hz_X8_nameHere hT _ _ rfl) ?_
    refine v_bin64 (w := ((v * 32) + (((h 11 p.toNat).2 - 97) + 1))) (hz_X8_nameHere hT _ _ rfl) (vz_addL (by omega) (by omega)) ?_
    refine v_store2 [some (2, 10), some (1, ((v * 32) + (((h 11 p.toNat).2 - 97) + 1))), none, some (0, p)] (hz_X8_nameHere hT _ _ rfl) (Nat.le_of_ble_eq_true rfl) rfl ?_
    refine v_iinc (x := p) (u := 1) (w := (p + 1)) [some (2, 10), some (1, ((v * 32) + (((h 11 p.toNat).2 - 97) + 1))), none, some (0, (p + 1))] (hz_X8_nameHere hT _ _ rfl) rfl rfl (Nat.le_of_ble_eq_true rfl) (vz_inc (by omega) (by omega)) rfl ?_
    refine v_goto (hz_X8_nameHere hT _ _ rfl) ?_
    exact k0 hc3 ha4 hb5
  · have hc3 : (τ 2 i) ≤ p := Int.not_lt.mp hc3
    refine v_load (v := (1, v)) (hz_X8_nameHere hT _ _ rfl) rfl rfl ?_
    refine v_ret (hz_X8_nameHere hT _ _ rfl) (Or.inr rfl) ?_
    exact k1 hc3
theorem qx_word {D : zD} {T : zT} (hT : hTab T) (hO : vOK T) {N : Nat} {h : zH} {Q : zR → Prop} {B : Nat → Int} {n m i : Nat} {τ : PT} (w : Int) (hv0 : zHv h) (hX : cX B n m τ i h)
    (k0 : ((τ 0 i) = 1) → ((τ 3 i) = w) → ((i : Int) < 900) → Q (zset h 10 6 (0, ((i : Int) + 1)), some (0, 1)))
    (k1 : ((τ 0 i) = 1) → ((τ 3 i) = w) → (900 ≤ (i : Int)) → Q (h, some (0, 1)))
    (k2 : ((τ 0 i) = 1) → ((τ 3 i) ≠ w) → Q (zset (zset h 10 7 (0, 2)) 10 8 (0, (τ 1 i)), some (0, 0)))
    (k3 : ((τ 0 i) ≠ 1) → ((τ 0 i) = 4) → Q (zset (zset h 10 7 (0, 1)) 10 8 (0, (τ 1 i)), some (0, 0)))
    (k4 : ((τ 0 i) ≠ 1) → ((τ 0 i) ≠ 4) → Q (zset (zset h 10 7 (0, 2)) 10 8 (0, (τ 1 i)), some (0, 0))) :
    vP D T N 125 0 h [some (2, 10), some (0, w)] [] Q := by
  refine v_load (v := (2, 10)) (hz_X8_takeWord hT _ _ rfl) rfl rfl ?_
  refine v_load (v := (0, w)) (hz_X8_takeWord hT _ _ rfl) rfl rfl ?_
  refine v_call (w := 2) [some (2, 10), some (0, w)] hO (hz_X8_takeWord hT _ _ rfl) rfl rfl ?_
  refine v_load (v := (2, 10)) (hz_X8_isWord hT _ _ rfl) rfl rfl ?_
  refine v_getR (c := 12) (r := 10) (hz_X8_isWord hT _ _ rfl) rfl rfl rfl ?_
  refine v_load (v := (2, 10)) (hz_X8_isWord hT _ _ rfl) rfl rfl ?_
  refine v_getf (v := (0, (i : Int))) (r := 10) (hz_X8_isWord hT _ _ rfl) rfl rfl (fun _ => hX.at) ?_
  refine v_aldE (t := 0) (r := 12) (w := (τ 0 i)) (hz_X8_isWord hT _ _ rfl) rfl rfl rfl (hX.k0 i) (fun ha1 hb2 => ?_)
  refine v_push (1) (hz_X8_isWord hT _ _ rfl) rfl ?_
  refine v_ic (hz_X8_isWord hT _ _ rfl) (fun hc3 => ?_) (fun hc3 => ?_)
  · have hc3 : (τ 0 i) = 1 := hc3
    refine v_load (v := (2, 10)) (hz_X8_isWord hT _ _ rfl) rfl rfl ?_
    refine v_getR (c := 15) (r := 10) (hz_X8_isWord hT _ _ rfl) rfl rfl rfl ?_
    refine v_load (v := (2, 10)) (hz_X8_isWord hT _ _ rfl) rfl rfl ?_
    refine v_getf (v := (0, (i : Int))) (r := 10) (hz_X8_isWord hT _ _ rfl) rfl rfl (fun _ => hX.at) ?_
    refine v_aldE (t := 0) (r := 15) (w := (τ 3 i)) (hz_X8_isWord hT _ _ rfl) rfl rfl rfl (hX.k3 i) (fun ha4 hb5 => ?_)
    refine v_load (v := (0, w)) (hz_X8_isWord hT _ _ rfl) rfl rfl ?_
    refine v_ic (hz_X8_isWord hT _ _ rfl) (fun hc6 => ?_) (fun hc6 => ?_)
    · have hc6 : (τ 3 i) = w := hc6
      refine v_push (1) (hz_X8_isWord hT _ _ rfl) rfl ?_
      refine v_goto (hz_X8_isWord hT _ _ rfl) ?_
      refine v_ret (hi_X8_isWord_31 hT) (Or.inl rfl) ?_
      show vP D T N 125 5 h [some (2, 10), some (0, w)] [(0, 1)] _
      refine v_if (hi_X8_takeWord_5 hT) (fun hc7 => absurd (show (1 : Int) = 0 from hc7) (by decide)) (fun _ => ?_)
      refine v_load (v := (2, 10)) (hz_X8_takeWord hT _ _ rfl) rfl rfl ?_
      refine v_call (w := 1) [some (2, 10)] hO (hz_X8_takeWord hT _ _ rfl) rfl rfl ?_
      refine v_load (v := (2, 10)) (hi_X8_advance_0 hT) rfl rfl ?_
      refine v_getf (v := (0, (i : Int))) (r := 10) (hi_X8_advance_1 hT) rfl rfl (fun _ => hX.at) ?_
      refine v_push (900) (hi_X8_advance_4 hT) rfl ?_
      refine v_ic (hi_X8_advance_7 hT) (fun hc8 => ?_) (fun hc8 => ?_)
      · have hc8 : (i : Int) < 900 := hc8
        refine v_load (v := (2, 10)) (hi_X8_advance_10 hT) rfl rfl ?_
        refine v_getR (c := 12) (r := 10) (hi_X8_advance_11 hT) rfl rfl rfl ?_
        refine v_load (v := (2, 10)) (hi_X8_advance_14 hT) rfl rfl ?_
        refine v_getf (v := (0, (i : Int))) (r := 10) (hi_X8_advance_15 hT) rfl rfl (fun _ => hX.at) ?_
        refine v_aldE (t := 0) (r := 12) (w := (τ 0 i)) (hi_X8_advance_18 hT) rfl rfl rfl (hX.k0 i) (fun ha9 hb10 => ?_)
        refine v_if (hi_X8_advance_19 hT) (fun hc11 => absurd (show (τ 0 i) = 0 from hc11) (by omega)) (fun _ => ?_)
        refine v_load (v := (2, 10)) (hi_X8_advance_22 hT) rfl rfl ?_
        refine v_getR (c := 12) (r := 10) (hi_X8_advance_23 hT) rfl rfl rfl ?_
        refine v_load (v := (2, 10)) (hi_X8_advance_26 hT) rfl rfl ?_
        refine v_getf (v := (0, (i : Int))) (r := 10) (hi_X8_advance_27 hT) rfl rfl (fun _ => hX.at) ?_
        refine v_aldE (t := 0) (r := 12) (w := (τ 0 i)) (hi_X8_advance_30 hT) rfl rfl rfl (hX.k0 i) (fun ha12 hb13 => ?_)
        refine v_push (4) (hi_X8_advance_31 hT) rfl ?_
        refine v_ic (hi_X8_advance_32 hT) (fun hc14 => absurd (show (τ 0 i) = 4 from hc14) (by omega)) (fun _ => ?_)
        refine v_load (v := (2, 10)) (hi_X8_advance_35 hT) rfl rfl ?_
        refine v_dup (hi_X8_advance_36 hT) (Nat.ne_of_beq_eq_false rfl) ?_
        refine v_getf (v := (0, (i : Int))) (r := 10) (hi_X8_advance_37 hT) rfl rfl (fun _ => hX.at) ?_
        refine v_push (1) (hi_X8_advance_40 hT) rfl ?_
        refine v_bin (w := ((i : Int) + 1)) (hi_X8_advance_41 hT) (hq_add (by omega) (by omega)) ?_
        refine v_putf (r := 10) hO (hi_X8_advance_42 hT) rfl (fun hf15 => ?_)
        refine v_ret0 (hi_X8_advance_45 hT) ?_
        show vP D T N 125 18 (zset h 10 6 (0, ((i : Int) + 1))) [some (2, 10), some (0, w)] [] _
        refine v_push (1) (hi_X8_takeWord_18 hT) rfl ?_
        refine v_ret (hi_X8_takeWord_19 hT) (Or.inl rfl) ?_
        exact k0 hc3 hc6 hc8
      · have hc8 : 900 ≤ (i : Int) := Int.not_lt.mp hc8
        refine v_ret0 (hi_X8_advance_45 hT) ?_
        show vP D T N 125 18 h [some (2, 10), some (0, w)] [] _
        refine v_push (1) (hi_X8_takeWord_18 hT) rfl ?_
        refine v_ret (hi_X8_takeWord_19 hT) (Or.inl rfl) ?_
        exact k1 hc3 hc6 hc8
    · have hc6 : (τ 3 i) ≠ w := hc6
      refine v_push (0) (hi_X8_isWord_30 hT) rfl ?_
      refine v_ret (hi_X8_isWord_31 hT) (Or.inl rfl) ?_
      show vP D T N 125 5 h [some (2, 10), some (0, w)] [(0, 0)] _
      refine v_if (hi_X8_takeWord_5 hT) (fun _ => ?_) (fun hc16 => absurd (show (0 : Int) = 0 from (by decide)) hc16)
      refine v_load (v := (2, 10)) (hi_X8_takeWord_8 hT) rfl rfl ?_
      refine v_push (2) (hi_X8_takeWord_9 hT) rfl ?_
      refine v_call (w := 2) [some (2, 10), some (0, 2)] hO (hi_X8_takeWord_10 hT) rfl rfl ?_
      refine v_load (v := (2, 10)) (hi_X8_blame_0 hT) rfl rfl ?_
      refine v_load (v := (2, 10)) (hi_X8_blame_1 hT) rfl rfl ?_
      refine v_getR (c := 12) (r := 10) (hi_X8_blame_2 hT) rfl rfl rfl ?_
      refine v_load (v := (2, 10)) (hi_X8_blame_5 hT) rfl rfl ?_
      refine v_getf (v := (0, (i : Int))) (r := 10) (hi_X8_blame_6 hT) rfl rfl (fun _ => hX.at) ?_
      refine v_aldE (t := 0) (r := 12) (w := (τ 0 i)) (hi_X8_blame_9 hT) rfl rfl rfl (hX.k0 i) (fun ha17 hb18 => ?_)
      refine v_push (4) (hi_X8_blame_10 hT) rfl ?_
      refine v_ic (hi_X8_blame_11 hT) (fun hc19 => absurd (show (τ 0 i) = 4 from hc19) (by omega)) (fun _ => ?_)
      refine v_load (v := (0, 2)) (hi_X8_blame_18 hT) rfl rfl ?_
      refine v_putf (r := 10) hO (hi_X8_blame_19 hT) rfl (fun hf20 => ?_)
      refine v_load (v := (2, 10)) (hi_X8_blame_22 hT) rfl rfl ?_
      refine v_load (v := (2, 10)) (hi_X8_blame_23 hT) rfl rfl ?_
      refine v_getR (c := 13) (r := 10) (hi_X8_blame_24 hT) rfl rfl rfl ?_
      refine v_load (v := (2, 10)) (hi_X8_blame_27 hT) rfl rfl ?_
      refine v_getf (v := (0, (i : Int))) (r := 10) (hi_X8_blame_28 hT) rfl rfl (fun _ => Eq.trans (zset_ne (fun c => absurd c.2 (by decide))) (hX.at)) ?_
      refine v_aldE (t := 0) (r := 13) (w := (τ 1 i)) (hi_X8_blame_31 hT) rfl rfl rfl ((congrArg Prod.snd (zset_ne (fun c => absurd c.1 (by decide)))).trans (hX.k1 i)) (fun ha21 hb22 => ?_)
      refine v_putf (r := 10) hO (hi_X8_blame_32 hT) rfl (fun hf23 => ?_)
      refine v_push (0) (hi_X8_blame_35 hT) rfl ?_
      refine v_ret (hi_X8_blame_36 hT) (Or.inl rfl) ?_
      show vP D T N 125 13 (zset (zset h 10 7 (0, 2)) 10 8 (0, (τ 1 i))) [some (2, 10), some (0, w)] [(0, 0)] _
      refine v_ret (hi_X8_takeWord_13 hT) (Or.inl rfl) ?_
      exact k2 hc3 hc6
  · have hc3 : (τ 0 i) ≠ 1 := hc3
    refine v_push (0) (hi_X8_isWord_30 hT) rfl ?_
    refine v_ret (hi_X8_isWord_31 hT) (Or.inl rfl) ?_
    show vP D T N 125 5 h [some (2, 10), some (0, w)] [(0, 0)] _
    refine v_if (hi_X8_takeWord_5 hT) (fun _ => ?_) (fun hc24 => absurd (show (0 : Int) = 0 from (by decide)) hc24)
    refine v_load (v := (2, 10)) (hi_X8_takeWord_8 hT) rfl rfl ?_
    refine v_push (2) (hi_X8_takeWord_9 hT) rfl ?_
    refine v_call (w := 2) [some (2, 10), some (0, 2)] hO (hi_X8_takeWord_10 hT) rfl rfl ?_
    refine v_load (v := (2, 10)) (hi_X8_blame_0 hT) rfl rfl ?_
    refine v_load (v := (2, 10)) (hi_X8_blame_1 hT) rfl rfl ?_
    refine v_getR (c := 12) (r := 10) (hi_X8_blame_2 hT) rfl rfl rfl ?_
    refine v_load (v := (2, 10)) (hi_X8_blame_5 hT) rfl rfl ?_
    refine v_getf (v := (0, (i : Int))) (r := 10) (hi_X8_blame_6 hT) rfl rfl (fun _ => hX.at) ?_
    refine v_aldE (t := 0) (r := 12) (w := (τ 0 i)) (hi_X8_blame_9 hT) rfl rfl rfl (hX.k0 i) (fun ha25 hb26 => ?_)
    refine v_push (4) (hi_X8_blame_10 hT) rfl ?_
    refine v_ic (hi_X8_blame_11 hT) (fun hc27 => ?_) (fun hc27 => ?_)
    · have hc27 : (τ 0 i) = 4 := hc27
      refine v_push (1) (hi_X8_blame_14 hT) rfl ?_
      refine v_goto (hi_X8_blame_15 hT) ?_
      refine v_putf (r := 10) hO (hi_X8_blame_19 hT) rfl (fun hf28 => ?_)
      refine v_load (v := (2, 10)) (hi_X8_blame_22 hT) rfl rfl ?_
      refine v_load (v := (2, 10)) (hi_X8_blame_23 hT) rfl rfl ?_
      refine v_getR (c := 13) (r := 10) (hi_X8_blame_24 hT) rfl rfl rfl ?_
      refine v_load (v := (2, 10)) (hi_X8_blame_27 hT) rfl rfl ?_
      refine v_getf (v := (0, (i : Int))) (r := 10) (hi_X8_blame_28 hT) rfl rfl (fun _ => Eq.trans (zset_ne (fun c => absurd c.2 (by decide))) (hX.at)) ?_
      refine v_aldE (t := 0) (r := 13) (w := (τ 1 i)) (hi_X8_blame_31 hT) rfl rfl rfl ((congrArg Prod.snd (zset_ne (fun c => absurd c.1 (by decide)))).trans (hX.k1 i)) (fun ha29 hb30 => ?_)
      refine v_putf (r := 10) hO (hi_X8_blame_32 hT) rfl (fun hf31 => ?_)
      refine v_push (0) (hi_X8_blame_35 hT) rfl ?_
      refine v_ret (hi_X8_blame_36 hT) (Or.inl rfl) ?_
      show vP D T N 125 13 (zset (zset h 10 7 (0, 1)) 10 8 (0, (τ 1 i))) [some (2, 10), some (0, w)] [(0, 0)] _
      refine v_ret (hi_X8_takeWord_13 hT) (Or.inl rfl) ?_
      exact k3 hc3 hc27
    · have hc27 : (τ 0 i) ≠ 4 := hc27
      refine v_load (v := (0, 2)) (hi_X8_blame_18 hT) rfl rfl ?_
      refine v_putf (r := 10) hO (hi_X8_blame_19 hT) rfl (fun hf32 => ?_)
      refine v_load (v := (2, 10)) (hi_X8_blame_22 hT) rfl rfl ?_
      refine v_load (v := (2, 10)) (hi_X8_blame_23 hT) rfl rfl ?_
      refine v_getR (c := 13) (r := 10) (hi_X8_blame_24 hT) rfl rfl rfl ?_
      refine v_load (v := (2, 10)) (hi_X8_blame_27 hT) rfl rfl ?_
      refine v_getf (v := (0, (i : Int))) (r := 10) (hi_X8_blame_28 hT) rfl rfl (fun _ => Eq.trans (zset_ne (fun c => absurd c.2 (by decide))) (hX.at)) ?_
      refine v_aldE (t := 0) (r := 13) (w := (τ 1 i)) (hi_X8_blame_31 hT) rfl rfl rfl ((congrArg Prod.snd (zset_ne (fun c => absurd c.1 (by decide)))).trans (hX.k1 i)) (fun ha33 hb34 => ?_)
      refine v_putf (r := 10) hO (hi_X8_blame_32 hT) rfl (fun hf35 => ?_)
      refine v_push (0) (hi_X8_blame_35 hT) rfl ?_
      refine v_ret (hi_X8_blame_36 hT) (Or.inl rfl) ?_
      show vP D T N 125 13 (zset (zset h 10 7 (0, 2)) 10 8 (0, (τ 1 i))) [some (2, 10), some (0, w)] [(0, 0)] _
      refine v_ret (hi_X8_takeWord_13 hT) (Or.inl rfl) ?_
      exact k4 hc3 hc27
theorem qx_stop {D : zD} {T : zT} (hT : hTab T) (hO : vOK T) {N : Nat} {h : zH} {Q : zR → Prop} {B : Nat → Int} {n m i : Nat} {τ : PT} (hv0 : zHv h) (hX : cX B n m τ i h)
    (k0 : ((τ 0 i) = 3) → ((τ 3 i) = 59) → ((i : Int) < 900) → Q (zset h 10 6 (0, ((i : Int) + 1)), some (0, 1)))
    (k1 : ((τ 0 i) = 3) → ((τ 3 i) = 59) → (900 ≤ (i : Int)) → Q (h, some (0, 1)))
    (k2 : ((τ 0 i) = 3) → ((τ 3 i) ≠ 59) → Q (zset (zset h 10 7 (0, 2)) 10 8 (0, (τ 1 i)), some (0, 0)))
    (k3 : ((τ 0 i) ≠ 3) → ((τ 0 i) = 4) → Q (zset (zset h 10 7 (0, 1)) 10 8 (0, (τ 1 i)), some (0, 0)))
    (k4 : ((τ 0 i) ≠ 3) → ((τ 0 i) ≠ 4) → Q (zset (zset h 10 7 (0, 2)) 10 8 (0, (τ 1 i)), some (0, 0))) :
    vP D T N 124 0 h [some (2, 10)] [] Q := by
  refine v_load (v := (2, 10)) (hz_X8_takeStop hT _ _ rfl) rfl rfl ?_
  refine v_getR (c := 12) (r := 10) (hz_X8_takeStop hT _ _ rfl) rfl rfl rfl ?_
  refine v_load (v := (2, 10)) (hz_X8_takeStop hT _ _ rfl) rfl rfl ?_
  refine v_getf (v := (0, (i : Int))) (r := 10) (hz_X8_takeStop hT _ _ rfl) rfl rfl (fun _ => hX.at) ?_
  refine v_aldE (t := 0) (r := 12) (w := (τ 0 i)) (hz_X8_takeStop hT _ _ rfl) rfl rfl rfl (hX.k0 i) (fun ha1 hb2 => ?_)
  refine v_push (3) (hz_X8_takeStop hT _ _ rfl) rfl ?_
  refine v_ic (hz_X8_takeStop hT _ _ rfl) (fun hc3 => ?_) (fun hc3 => ?_)
  · have hc3 : (τ 0 i) = 3 := hc3
    refine v_load (v := (2, 10)) (hz_X8_takeStop hT _ _ rfl) rfl rfl ?_
    refine v_getR (c := 15) (r := 10) (hz_X8_takeStop hT _ _ rfl) rfl rfl rfl ?_
    refine v_load (v := (2, 10)) (hz_X8_takeStop hT _ _ rfl) rfl rfl ?_
    refine v_getf (v := (0, (i : Int))) (r := 10) (hz_X8_takeStop hT _ _ rfl) rfl rfl (fun _ => hX.at) ?_
    refine v_aldE (t := 0) (r := 15) (w := (τ 3 i)) (hz_X8_takeStop hT _ _ rfl) rfl rfl rfl (hX.k3 i) (fun ha4 hb5 => ?_)
    refine v_push (59) (hz_X8_takeStop hT _ _ rfl) rfl ?_
    refine v_ic (hz_X8_takeStop hT _ _ rfl) (fun hc6 => ?_) (fun hc6 => ?_)
    · have hc6 : (τ 3 i) = 59 := hc6
      refine v_load (v := (2, 10)) (hz_X8_takeStop hT _ _ rfl) rfl rfl ?_
      refine v_call (w := 1) [some (2, 10)] hO (hz_X8_takeStop hT _ _ rfl) rfl rfl ?_
      refine v_load (v := (2, 10)) (hi_X8_advance_0 hT) rfl rfl ?_
      refine v_getf (v := (0, (i : Int))) (r := 10) (hi_X8_advance_1 hT) rfl rfl (fun _ => hX.at) ?_
      refine v_push (900) (hi_X8_advance_4 hT) rfl ?_
      refine v_ic (hi_X8_advance_7 hT) (fun hc7 => ?_) (fun hc7 => ?_)
      · have hc7 : (i : Int) < 900 := hc7
        refine v_load (v := (2, 10)) (hi_X8_advance_10 hT) rfl rfl ?_
        refine v_getR (c := 12) (r := 10) (hi_X8_advance_11 hT) rfl rfl rfl ?_
        refine v_load (v := (2, 10)) (hi_X8_advance_14 hT) rfl rfl ?_
        refine v_getf (v := (0, (i : Int))) (r := 10) (hi_X8_advance_15 hT) rfl rfl (fun _ => hX.at) ?_
        refine v_aldE (t := 0) (r := 12) (w := (τ 0 i)) (hi_X8_advance_18 hT) rfl rfl rfl (hX.k0 i) (fun ha8 hb9 => ?_)
        refine v_if (hi_X8_advance_19 hT) (fun hc10 => absurd (show (τ 0 i) = 0 from hc10) (by omega)) (fun _ => ?_)
        refine v_load (v := (2, 10)) (hi_X8_advance_22 hT) rfl rfl ?_
        refine v_getR (c := 12) (r := 10) (hi_X8_advance_23 hT) rfl rfl rfl ?_
        refine v_load (v := (2, 10)) (hi_X8_advance_26 hT) rfl rfl ?_
        refine v_getf (v := (0, (i : Int))) (r := 10) (hi_X8_advance_27 hT) rfl rfl (fun _ => hX.at) ?_
        refine v_aldE (t := 0) (r := 12) (w := (τ 0 i)) (hi_X8_advance_30 hT) rfl rfl rfl (hX.k0 i) (fun ha11 hb12 => ?_)
        refine v_push (4) (hi_X8_advance_31 hT) rfl ?_
        refine v_ic (hi_X8_advance_32 hT) (fun hc13 => absurd (show (τ 0 i) = 4 from hc13) (by omega)) (fun _ => ?_)
        refine v_load (v := (2, 10)) (hi_X8_advance_35 hT) rfl rfl ?_
        refine v_dup (hi_X8_advance_36 hT) (Nat.ne_of_beq_eq_false rfl) ?_
        refine v_getf (v := (0, (i : Int))) (r := 10) (hi_X8_advance_37 hT) rfl rfl (fun _ => hX.at) ?_
        refine v_push (1) (hi_X8_advance_40 hT) rfl ?_
        refine v_bin (w := ((i : Int) + 1)) (hi_X8_advance_41 hT) (hq_add (by omega) (by omega)) ?_
        refine v_putf (r := 10) hO (hi_X8_advance_42 hT) rfl (fun hf14 => ?_)
        refine v_ret0 (hi_X8_advance_45 hT) ?_
        show vP D T N 124 37 (zset h 10 6 (0, ((i : Int) + 1))) [some (2, 10)] [] _
        refine v_push (1) (hi_X8_takeStop_37 hT) rfl ?_
        refine v_ret (hi_X8_takeStop_38 hT) (Or.inl rfl) ?_
        exact k0 hc3 hc6 hc7
      · have hc7 : 900 ≤ (i : Int) := Int.not_lt.mp hc7
        refine v_ret0 (hi_X8_advance_45 hT) ?_
        show vP D T N 124 37 h [some (2, 10)] [] _
        refine v_push (1) (hi_X8_takeStop_37 hT) rfl ?_
        refine v_ret (hi_X8_takeStop_38 hT) (Or.inl rfl) ?_
        exact k1 hc3 hc6 hc7
    · have hc6 : (τ 3 i) ≠ 59 := hc6
      refine v_load (v := (2, 10)) (hi_X8_takeStop_27 hT) rfl rfl ?_
      refine v_push (2) (hi_X8_takeStop_28 hT) rfl ?_
      refine v_call (w := 2) [some (2, 10), some (0, 2)] hO (hi_X8_takeStop_29 hT) rfl rfl ?_
      refine v_load (v := (2, 10)) (hi_X8_blame_0 hT) rfl rfl ?_
      refine v_load (v := (2, 10)) (hi_X8_blame_1 hT) rfl rfl ?_
      refine v_getR (c := 12) (r := 10) (hi_X8_blame_2 hT) rfl rfl rfl ?_
      refine v_load (v := (2, 10)) (hi_X8_blame_5 hT) rfl rfl ?_
      refine v_getf (v := (0, (i : Int))) (r := 10) (hi_X8_blame_6 hT) rfl rfl (fun _ => hX.at) ?_
      refine v_aldE (t := 0) (r := 12) (w := (τ 0 i)) (hi_X8_blame_9 hT) rfl rfl rfl (hX.k0 i) (fun ha15 hb16 => ?_)
      refine v_push (4) (hi_X8_blame_10 hT) rfl ?_
      refine v_ic (hi_X8_blame_11 hT) (fun hc17 => absurd (show (τ 0 i) = 4 from hc17) (by omega)) (fun _ => ?_)
      refine v_load (v := (0, 2)) (hi_X8_blame_18 hT) rfl rfl ?_
      refine v_putf (r := 10) hO (hi_X8_blame_19 hT) rfl (fun hf18 => ?_)
      refine v_load (v := (2, 10)) (hi_X8_blame_22 hT) rfl rfl ?_
      refine v_load (v := (2, 10)) (hi_X8_blame_23 hT) rfl rfl ?_
      refine v_getR (c := 13) (r := 10) (hi_X8_blame_24 hT) rfl rfl rfl ?_
      refine v_load (v := (2, 10)) (hi_X8_blame_27 hT) rfl rfl ?_
      refine v_getf (v := (0, (i : Int))) (r := 10) (hi_X8_blame_28 hT) rfl rfl (fun _ => Eq.trans (zset_ne (fun c => absurd c.2 (by decide))) (hX.at)) ?_
      refine v_aldE (t := 0) (r := 13) (w := (τ 1 i)) (hi_X8_blame_31 hT) rfl rfl rfl ((congrArg Prod.snd (zset_ne (fun c => absurd c.1 (by decide)))).trans (hX.k1 i)) (fun ha19 hb20 => ?_)
      refine v_putf (r := 10) hO (hi_X8_blame_32 hT) rfl (fun hf21 => ?_)
      refine v_push (0) (hi_X8_blame_35 hT) rfl ?_
      refine v_ret (hi_X8_blame_36 hT) (Or.inl rfl) ?_
      show vP D T N 124 32 (zset (zset h 10 7 (0, 2)) 10 8 (0, (τ 1 i))) [some (2, 10)] [(0, 0)] _
      refine v_ret (hi_X8_takeStop_32 hT) (Or.inl rfl) ?_
      exact k2 hc3 hc6
  · have hc3 : (τ 0 i) ≠ 3 := hc3
    refine v_load (v := (2, 10)) (hi_X8_takeStop_27 hT) rfl rfl ?_
    refine v_push (2) (hi_X8_takeStop_28 hT) rfl ?_
    refine v_call (w := 2) [some (2, 10), some (0, 2)] hO (hi_X8_takeStop_29 hT) rfl rfl ?_
    refine v_load (v := (2, 10)) (hi_X8_blame_0 hT) rfl rfl ?_
    refine v_load (v := (2, 10)) (hi_X8_blame_1 hT) rfl rfl ?_
    refine v_getR (c := 12) (r := 10) (hi_X8_blame_2 hT) rfl rfl rfl ?_
    refine v_load (v := (2, 10)) (hi_X8_blame_5 hT) rfl rfl ?_
    refine v_getf (v := (0, (i : Int))) (r := 10) (hi_X8_blame_6 hT) rfl rfl (fun _ => hX.at) ?_
    refine v_aldE (t := 0) (r := 12) (w := (τ 0 i)) (hi_X8_blame_9 hT) rfl rfl rfl (hX.k0 i) (fun ha22 hb23 => ?_)
    refine v_push (4) (hi_X8_blame_10 hT) rfl ?_
    refine v_ic (hi_X8_blame_11 hT) (fun hc24 => ?_) (fun hc24 => ?_)
    · have hc24 : (τ 0 i) = 4 := hc24
      refine v_push (1) (hi_X8_blame_14 hT) rfl ?_
      refine v_goto (hi_X8_blame_15 hT) ?_
      refine v_putf (r := 10) hO (hi_X8_blame_19 hT) rfl (fun hf25 => ?_)
      refine v_load (v := (2, 10)) (hi_X8_blame_22 hT) rfl rfl ?_
      refine v_load (v := (2, 10)) (hi_X8_blame_23 hT) rfl rfl ?_
      refine v_getR (c := 13) (r := 10) (hi_X8_blame_24 hT) rfl rfl rfl ?_
      refine v_load (v := (2, 10)) (hi_X8_blame_27 hT) rfl rfl ?_
      refine v_getf (v := (0, (i : Int))) (r := 10) (hi_X8_blame_28 hT) rfl rfl (fun _ => Eq.trans (zset_ne (fun c => absurd c.2 (by decide))) (hX.at)) ?_
      refine v_aldE (t := 0) (r := 13) (w := (τ 1 i)) (hi_X8_blame_31 hT) rfl rfl rfl ((congrArg Prod.snd (zset_ne (fun c => absurd c.1 (by decide)))).trans (hX.k1 i)) (fun ha26 hb27 => ?_)
      refine v_putf (r := 10) hO (hi_X8_blame_32 hT) rfl (fun hf28 => ?_)
      refine v_push (0) (hi_X8_blame_35 hT) rfl ?_
      refine v_ret (hi_X8_blame_36 hT) (Or.inl rfl) ?_
      show vP D T N 124 32 (zset (zset h 10 7 (0, 1)) 10 8 (0, (τ 1 i))) [some (2, 10)] [(0, 0)] _
      refine v_ret (hi_X8_takeStop_32 hT) (Or.inl rfl) ?_
      exact k3 hc3 hc24
    · have hc24 : (τ 0 i) ≠ 4 := hc24
      refine v_load (v := (0, 2)) (hi_X8_blame_18 hT) rfl rfl ?_
      refine v_putf (r := 10) hO (hi_X8_blame_19 hT) rfl (fun hf29 => ?_)
      refine v_load (v := (2, 10)) (hi_X8_blame_22 hT) rfl rfl ?_
      refine v_load (v := (2, 10)) (hi_X8_blame_23 hT) rfl rfl ?_
      refine v_getR (c := 13) (r := 10) (hi_X8_blame_24 hT) rfl rfl rfl ?_
      refine v_load (v := (2, 10)) (hi_X8_blame_27 hT) rfl rfl ?_
      refine v_getf (v := (0, (i : Int))) (r := 10) (hi_X8_blame_28 hT) rfl rfl (fun _ => Eq.trans (zset_ne (fun c => absurd c.2 (by decide))) (hX.at)) ?_
      refine v_aldE (t := 0) (r := 13) (w := (τ 1 i)) (hi_X8_blame_31 hT) rfl rfl rfl ((congrArg Prod.snd (zset_ne (fun c => absurd c.1 (by decide)))).trans (hX.k1 i)) (fun ha30 hb31 => ?_)
      refine v_putf (r := 10) hO (hi_X8_blame_32 hT) rfl (fun hf32 => ?_)
      refine v_push (0) (hi_X8_blame_35 hT) rfl ?_
      refine v_ret (hi_X8_blame_36 hT) (Or.inl rfl) ?_
      show vP D T N 124 32 (zset (zset h 10 7 (0, 2)) 10 8 (0, (τ 1 i))) [some (2, 10)] [(0, 0)] _
      refine v_ret (hi_X8_takeStop_32 hT) (Or.inl rfl) ?_
      exact k4 hc3 hc24
theorem qx_num {D : zD} {T : zT} (hT : hTab T) (hO : vOK T) {N : Nat} {h : zH} {Q : zR → Prop} {B : Nat → Int} {n m i : Nat} {τ : PT} (u v : Int) (hv0 : zHv h) (hX : cX B n m τ i h)
    (k0 : ((τ 0 i) = 2) → ((τ 3 i) < u) → Q (zset (zset h 10 7 (0, 4)) 10 8 (0, (τ 1 i)), some (0, -1)))
    (k1 : ((τ 0 i) = 2) → (u ≤ (τ 3 i)) → (v < (τ 3 i)) → Q (zset (zset h 10 7 (0, 4)) 10 8 (0, (τ 1 i)), some (0, -1)))
    (k2 : ((τ 0 i) = 2) → (u ≤ (τ 3 i)) → ((τ 3 i) ≤ v) → ((i : Int) < 900) → Q (zset h 10 6 (0, ((i : Int) + 1)), some (0, (τ 3 i))))
    (k3 : ((τ 0 i) = 2) → (u ≤ (τ 3 i)) → ((τ 3 i) ≤ v) → (900 ≤ (i : Int)) → Q (h, some (0, (τ 3 i))))
    (k4 : ((τ 0 i) ≠ 2) → ((τ 0 i) = 4) → Q (zset (zset h 10 7 (0, 1)) 10 8 (0, (τ 1 i)), some (0, -1)))
    (k5 : ((τ 0 i) ≠ 2) → ((τ 0 i) ≠ 4) → Q (zset (zset h 10 7 (0, 2)) 10 8 (0, (τ 1 i)), some (0, -1))) :
    vP D T N 123 0 h [some (2, 10), some (0, u), some (0, v), none] [] Q := by
  refine v_load (v := (2, 10)) (hz_X8_takeNumber hT _ _ rfl) rfl rfl ?_
  refine v_getR (c := 15) (r := 10) (hz_X8_takeNumber hT _ _ rfl) rfl rfl rfl ?_
  refine v_load (v := (2, 10)) (hz_X8_takeNumber hT _ _ rfl) rfl rfl ?_
  refine v_getf (v := (0, (i : Int))) (r := 10) (hz_X8_takeNumber hT _ _ rfl) rfl rfl (fun _ => hX.at) ?_
  refine v_aldE (t := 0) (r := 15) (w := (τ 3 i)) (hz_X8_takeNumber hT _ _ rfl) rfl rfl rfl (hX.k3 i) (fun ha1 hb2 => ?_)
  refine v_store1 [some (2, 10), some (0, u), some (0, v), some (0, (τ 3 i))] (hz_X8_takeNumber hT _ _ rfl) ⟨rfl, Nat.ne_of_beq_eq_false rfl⟩ (Nat.le_of_ble_eq_true rfl) rfl ?_
  refine v_load (v := (2, 10)) (hz_X8_takeNumber hT _ _ rfl) rfl rfl ?_
  refine v_getR (c := 12) (r := 10) (hz_X8_takeNumber hT _ _ rfl) rfl rfl rfl ?_
  refine v_load (v := (2, 10)) (hz_X8_takeNumber hT _ _ rfl) rfl rfl ?_
  refine v_getf (v := (0, (i : Int))) (r := 10) (hz_X8_takeNumber hT _ _ rfl) rfl rfl (fun _ => hX.at) ?_
  refine v_aldE (t := 0) (r := 12) (w := (τ 0 i)) (hz_X8_takeNumber hT _ _ rfl) rfl rfl rfl (hX.k0 i) (fun ha3 hb4 => ?_)
  refine v_push (2) (hz_X8_takeNumber hT _ _ rfl) rfl ?_
  refine v_ic (hz_X8_takeNumber hT _ _ rfl) (fun hc5 => ?_) (fun hc5 => ?_)
  · have hc5 : (τ 0 i) = 2 := hc5
    refine v_load (v := (0, (τ 3 i))) (hz_X8_takeNumber hT _ _ rfl) rfl rfl ?_
    refine v_load (v := (0, u)) (hz_X8_takeNumber hT _ _ rfl) rfl rfl ?_
    refine v_ic (hz_X8_takeNumber hT _ _ rfl) (fun hc6 => ?_) (fun hc6 => ?_)
    · have hc6 : (τ 3 i) < u := hc6
      refine v_load (v := (2, 10)) (hi_X8_takeNumber_41 hT) rfl rfl ?_
      refine v_push (4) (hi_X8_takeNumber_42 hT) rfl ?_
      refine v_call (w := 2) [some (2, 10), some (0, 4)] hO (hi_X8_takeNumber_43 hT) rfl rfl ?_
      refine v_load (v := (2, 10)) (hi_X8_blame_0 hT) rfl rfl ?_
      refine v_load (v := (2, 10)) (hi_X8_blame_1 hT) rfl rfl ?_
      refine v_getR (c := 12) (r := 10) (hi_X8_blame_2 hT) rfl rfl rfl ?_
      refine v_load (v := (2, 10)) (hi_X8_blame_5 hT) rfl rfl ?_
      refine v_getf (v := (0, (i : Int))) (r := 10) (hi_X8_blame_6 hT) rfl rfl (fun _ => hX.at) ?_
      refine v_aldE (t := 0) (r := 12) (w := (τ 0 i)) (hi_X8_blame_9 hT) rfl rfl rfl (hX.k0 i) (fun ha7 hb8 => ?_)
      refine v_push (4) (hi_X8_blame_10 hT) rfl ?_
      refine v_ic (hi_X8_blame_11 hT) (fun hc9 => absurd (show (τ 0 i) = 4 from hc9) (by omega)) (fun _ => ?_)
      refine v_load (v := (0, 4)) (hi_X8_blame_18 hT) rfl rfl ?_
      refine v_putf (r := 10) hO (hi_X8_blame_19 hT) rfl (fun hf10 => ?_)
      refine v_load (v := (2, 10)) (hi_X8_blame_22 hT) rfl rfl ?_
      refine v_load (v := (2, 10)) (hi_X8_blame_23 hT) rfl rfl ?_
      refine v_getR (c := 13) (r := 10) (hi_X8_blame_24 hT) rfl rfl rfl ?_
      refine v_load (v := (2, 10)) (hi_X8_blame_27 hT) rfl rfl ?_
      refine v_getf (v := (0, (i : Int))) (r := 10) (hi_X8_blame_28 hT) rfl rfl (fun _ => Eq.trans (zset_ne (fun c => absurd c.2 (by decide))) (hX.at)) ?_
      refine v_aldE (t := 0) (r := 13) (w := (τ 1 i)) (hi_X8_blame_31 hT) rfl rfl rfl ((congrArg Prod.snd (zset_ne (fun c => absurd c.1 (by decide)))).trans (hX.k1 i)) (fun ha11 hb12 => ?_)
      refine v_putf (r := 10) hO (hi_X8_blame_32 hT) rfl (fun hf13 => ?_)
      refine v_push (0) (hi_X8_blame_35 hT) rfl ?_
      refine v_ret (hi_X8_blame_36 hT) (Or.inl rfl) ?_
      show vP D T N 123 46 (zset (zset h 10 7 (0, 4)) 10 8 (0, (τ 1 i))) [some (2, 10), some (0, u), some (0, v), some (0, (τ 3 i))] [(0, 0)] _
      refine v_pop (hi_X8_takeNumber_46 hT) (Nat.ne_of_beq_eq_false rfl) ?_
      refine v_push (-1) (hi_X8_takeNumber_47 hT) rfl ?_
      refine v_ret (hi_X8_takeNumber_48 hT) (Or.inl rfl) ?_
      exact k0 hc5 hc6
    · have hc6 : u ≤ (τ 3 i) := Int.not_lt.mp hc6
      refine v_load (v := (0, (τ 3 i))) (hz_X8_takeNumber hT _ _ rfl) rfl rfl ?_
      refine v_load (v := (0, v)) (hz_X8_takeNumber hT _ _ rfl) rfl rfl ?_
      refine v_ic (hz_X8_takeNumber hT _ _ rfl) (fun hc14 => ?_) (fun hc14 => ?_)
      · have hc14 : v < (τ 3 i) := hc14
        refine v_load (v := (2, 10)) (hi_X8_takeNumber_41 hT) rfl rfl ?_
        refine v_push (4) (hi_X8_takeNumber_42 hT) rfl ?_
        refine v_call (w := 2) [some (2, 10), some (0, 4)] hO (hi_X8_takeNumber_43 hT) rfl rfl ?_
        refine v_load (v := (2, 10)) (hi_X8_blame_0 hT) rfl rfl ?_
        refine v_load (v := (2, 10)) (hi_X8_blame_1 hT) rfl rfl ?_
        refine v_getR (c := 12) (r := 10) (hi_X8_blame_2 hT) rfl rfl rfl ?_
        refine v_load (v := (2, 10)) (hi_X8_blame_5 hT) rfl rfl ?_
        refine v_getf (v := (0, (i : Int))) (r := 10) (hi_X8_blame_6 hT) rfl rfl (fun _ => hX.at) ?_
        refine v_aldE (t := 0) (r := 12) (w := (τ 0 i)) (hi_X8_blame_9 hT) rfl rfl rfl (hX.k0 i) (fun ha15 hb16 => ?_)
        refine v_push (4) (hi_X8_blame_10 hT) rfl ?_
        refine v_ic (hi_X8_blame_11 hT) (fun hc17 => absurd (show (τ 0 i) = 4 from hc17) (by omega)) (fun _ => ?_)
        refine v_load (v := (0, 4)) (hi_X8_blame_18 hT) rfl rfl ?_
        refine v_putf (r := 10) hO (hi_X8_blame_19 hT) rfl (fun hf18 => ?_)
        refine v_load (v := (2, 10)) (hi_X8_blame_22 hT) rfl rfl ?_
        refine v_load (v := (2, 10)) (hi_X8_blame_23 hT) rfl rfl ?_
        refine v_getR (c := 13) (r := 10) (hi_X8_blame_24 hT) rfl rfl rfl ?_
        refine v_load (v := (2, 10)) (hi_X8_blame_27 hT) rfl rfl ?_
        refine v_getf (v := (0, (i : Int))) (r := 10) (hi_X8_blame_28 hT) rfl rfl (fun _ => Eq.trans (zset_ne (fun c => absurd c.2 (by decide))) (hX.at)) ?_
        refine v_aldE (t := 0) (r := 13) (w := (τ 1 i)) (hi_X8_blame_31 hT) rfl rfl rfl ((congrArg Prod.snd (zset_ne (fun c => absurd c.1 (by decide)))).trans (hX.k1 i)) (fun ha19 hb20 => ?_)
        refine v_putf (r := 10) hO (hi_X8_blame_32 hT) rfl (fun hf21 => ?_)
        refine v_push (0) (hi_X8_blame_35 hT) rfl ?_
        refine v_ret (hi_X8_blame_36 hT) (Or.inl rfl) ?_
        show vP D T N 123 46 (zset (zset h 10 7 (0, 4)) 10 8 (0, (τ 1 i))) [some (2, 10), some (0, u), some (0, v), some (0, (τ 3 i))] [(0, 0)] _
        refine v_pop (hi_X8_takeNumber_46 hT) (Nat.ne_of_beq_eq_false rfl) ?_
        refine v_push (-1) (hi_X8_takeNumber_47 hT) rfl ?_
        refine v_ret (hi_X8_takeNumber_48 hT) (Or.inl rfl) ?_
        exact k1 hc5 hc6 hc14
      · have hc14 : (τ 3 i) ≤ v := Int.not_lt.mp hc14
        refine v_load (v := (2, 10)) (hz_X8_takeNumber hT _ _ rfl) rfl rfl ?_
        refine v_call (w := 1) [some (2, 10)] hO (hz_X8_takeNumber hT _ _ rfl) rfl rfl ?_
        refine v_load (v := (2, 10)) (hi_X8_advance_0 hT) rfl rfl ?_
        refine v_getf (v := (0, (i : Int))) (r := 10) (hi_X8_advance_1 hT) rfl rfl (fun _ => hX.at) ?_
        refine v_push (900) (hi_X8_advance_4 hT) rfl ?_
        refine v_ic (hi_X8_advance_7 hT) (fun hc22 => ?_) (fun hc22 => ?_)
        · have hc22 : (i : Int) < 900 := hc22
          refine v_load (v := (2, 10)) (hi_X8_advance_10 hT) rfl rfl ?_
          refine v_getR (c := 12) (r := 10) (hi_X8_advance_11 hT) rfl rfl rfl ?_
          refine v_load (v := (2, 10)) (hi_X8_advance_14 hT) rfl rfl ?_
          refine v_getf (v := (0, (i : Int))) (r := 10) (hi_X8_advance_15 hT) rfl rfl (fun _ => hX.at) ?_
          refine v_aldE (t := 0) (r := 12) (w := (τ 0 i)) (hi_X8_advance_18 hT) rfl rfl rfl (hX.k0 i) (fun ha23 hb24 => ?_)
          refine v_if (hi_X8_advance_19 hT) (fun hc25 => absurd (show (τ 0 i) = 0 from hc25) (by omega)) (fun _ => ?_)
          refine v_load (v := (2, 10)) (hi_X8_advance_22 hT) rfl rfl ?_
          refine v_getR (c := 12) (r := 10) (hi_X8_advance_23 hT) rfl rfl rfl ?_
          refine v_load (v := (2, 10)) (hi_X8_advance_26 hT) rfl rfl ?_
          refine v_getf (v := (0, (i : Int))) (r := 10) (hi_X8_advance_27 hT) rfl rfl (fun _ => hX.at) ?_
          refine v_aldE (t := 0) (r := 12) (w := (τ 0 i)) (hi_X8_advance_30 hT) rfl rfl rfl (hX.k0 i) (fun ha26 hb27 => ?_)
          refine v_push (4) (hi_X8_advance_31 hT) rfl ?_
          refine v_ic (hi_X8_advance_32 hT) (fun hc28 => absurd (show (τ 0 i) = 4 from hc28) (by omega)) (fun _ => ?_)
          refine v_load (v := (2, 10)) (hi_X8_advance_35 hT) rfl rfl ?_
          refine v_dup (hi_X8_advance_36 hT) (Nat.ne_of_beq_eq_false rfl) ?_
          refine v_getf (v := (0, (i : Int))) (r := 10) (hi_X8_advance_37 hT) rfl rfl (fun _ => hX.at) ?_
          refine v_push (1) (hi_X8_advance_40 hT) rfl ?_
          refine v_bin (w := ((i : Int) + 1)) (hi_X8_advance_41 hT) (hq_add (by omega) (by omega)) ?_
          refine v_putf (r := 10) hO (hi_X8_advance_42 hT) rfl (fun hf29 => ?_)
          refine v_ret0 (hi_X8_advance_45 hT) ?_
          show vP D T N 123 53 (zset h 10 6 (0, ((i : Int) + 1))) [some (2, 10), some (0, u), some (0, v), some (0, (τ 3 i))] [] _
          refine v_load (v := (0, (τ 3 i))) (hi_X8_takeNumber_53 hT) rfl rfl ?_
          refine v_ret (hi_X8_takeNumber_54 hT) (Or.inl rfl) ?_
          exact k2 hc5 hc6 hc14 hc22
        · have hc22 : 900 ≤ (i : Int) := Int.not_lt.mp hc22
          refine v_ret0 (hi_X8_advance_45 hT) ?_
          show vP D T N 123 53 h [some (2, 10), some (0, u), some (0, v), some (0, (τ 3 i))] [] _
          refine v_load (v := (0, (τ 3 i))) (hi_X8_takeNumber_53 hT) rfl rfl ?_
          refine v_ret (hi_X8_takeNumber_54 hT) (Or.inl rfl) ?_
          exact k3 hc5 hc6 hc14 hc22
  · have hc5 : (τ 0 i) ≠ 2 := hc5
    refine v_load (v := (2, 10)) (hz_X8_takeNumber hT _ _ rfl) rfl rfl ?_
    refine v_push (2) (hz_X8_takeNumber hT _ _ rfl) rfl ?_
    refine v_call (w := 2) [some (2, 10), some (0, 2)] hO (hz_X8_takeNumber hT _ _ rfl) rfl rfl ?_
    refine v_load (v := (2, 10)) (hi_X8_blame_0 hT) rfl rfl ?_
    refine v_load (v := (2, 10)) (hi_X8_blame_1 hT) rfl rfl ?_
    refine v_getR (c := 12) (r := 10) (hi_X8_blame_2 hT) rfl rfl rfl ?_
    refine v_load (v := (2, 10)) (hi_X8_blame_5 hT) rfl rfl ?_
    refine v_getf (v := (0, (i : Int))) (r := 10) (hi_X8_blame_6 hT) rfl rfl (fun _ => hX.at) ?_
    refine v_aldE (t := 0) (r := 12) (w := (τ 0 i)) (hi_X8_blame_9 hT) rfl rfl rfl (hX.k0 i) (fun ha30 hb31 => ?_)
    refine v_push (4) (hi_X8_blame_10 hT) rfl ?_
    refine v_ic (hi_X8_blame_11 hT) (fun hc32 => ?_) (fun hc32 => ?_)
    · have hc32 : (τ 0 i) = 4 := hc32
      refine v_push (1) (hi_X8_blame_14 hT) rfl ?_
      refine v_goto (hi_X8_blame_15 hT) ?_
      refine v_putf (r := 10) hO (hi_X8_blame_19 hT) rfl (fun hf33 => ?_)
      refine v_load (v := (2, 10)) (hi_X8_blame_22 hT) rfl rfl ?_
      refine v_load (v := (2, 10)) (hi_X8_blame_23 hT) rfl rfl ?_
      refine v_getR (c := 13) (r := 10) (hi_X8_blame_24 hT) rfl rfl rfl ?_
      refine v_load (v := (2, 10)) (hi_X8_blame_27 hT) rfl rfl ?_
      refine v_getf (v := (0, (i : Int))) (r := 10) (hi_X8_blame_28 hT) rfl rfl (fun _ => Eq.trans (zset_ne (fun c => absurd c.2 (by decide))) (hX.at)) ?_
      refine v_aldE (t := 0) (r := 13) (w := (τ 1 i)) (hi_X8_blame_31 hT) rfl rfl rfl ((congrArg Prod.snd (zset_ne (fun c => absurd c.1 (by decide)))).trans (hX.k1 i)) (fun ha34 hb35 => ?_)
      refine v_putf (r := 10) hO (hi_X8_blame_32 hT) rfl (fun hf36 => ?_)
      refine v_push (0) (hi_X8_blame_35 hT) rfl ?_
      refine v_ret (hi_X8_blame_36 hT) (Or.inl rfl) ?_
      show vP D T N 123 28 (zset (zset h 10 7 (0, 1)) 10 8 (0, (τ 1 i))) [some (2, 10), some (0, u), some (0, v), some (0, (τ 3 i))] [(0, 0)] _
      refine v_pop (hi_X8_takeNumber_28 hT) (Nat.ne_of_beq_eq_false rfl) ?_
      refine v_push (-1) (hi_X8_takeNumber_29 hT) rfl ?_
      refine v_ret (hi_X8_takeNumber_30 hT) (Or.inl rfl) ?_
      exact k4 hc5 hc32
    · have hc32 : (τ 0 i) ≠ 4 := hc32
      refine v_load (v := (0, 2)) (hi_X8_blame_18 hT) rfl rfl ?_
      refine v_putf (r := 10) hO (hi_X8_blame_19 hT) rfl (fun hf37 => ?_)
      refine v_load (v := (2, 10)) (hi_X8_blame_22 hT) rfl rfl ?_
      refine v_load (v := (2, 10)) (hi_X8_blame_23 hT) rfl rfl ?_
      refine v_getR (c := 13) (r := 10) (hi_X8_blame_24 hT) rfl rfl rfl ?_
      refine v_load (v := (2, 10)) (hi_X8_blame_27 hT) rfl rfl ?_
      refine v_getf (v := (0, (i : Int))) (r := 10) (hi_X8_blame_28 hT) rfl rfl (fun _ => Eq.trans (zset_ne (fun c => absurd c.2 (by decide))) (hX.at)) ?_
      refine v_aldE (t := 0) (r := 13) (w := (τ 1 i)) (hi_X8_blame_31 hT) rfl rfl rfl ((congrArg Prod.snd (zset_ne (fun c => absurd c.1 (by decide)))).trans (hX.k1 i)) (fun ha38 hb39 => ?_)
      refine v_putf (r := 10) hO (hi_X8_blame_32 hT) rfl (fun hf40 => ?_)
      refine v_push (0) (hi_X8_blame_35 hT) rfl ?_
      refine v_ret (hi_X8_blame_36 hT) (Or.inl rfl) ?_
      show vP D T N 123 28 (zset (zset h 10 7 (0, 2)) 10 8 (0, (τ 1 i))) [some (2, 10), some (0, u), some (0, v), some (0, (τ 3 i))] [(0, 0)] _
      refine v_pop (hi_X8_takeNumber_28 hT) (Nat.ne_of_beq_eq_false rfl) ?_
      refine v_push (-1) (hi_X8_takeNumber_29 hT) rfl ?_
      refine v_ret (hi_X8_takeNumber_30 hT) (Or.inl rfl) ?_
      exact k5 hc5 hc32
theorem qx_cmp {D : zD} {T : zT} (hT : hTab T) (hO : vOK T) {N : Nat} {h : zH} {Q : zR → Prop} {B : Nat → Int} {n m i : Nat} {τ : PT} (hv0 : zHv h) (hX : cX B n m τ i h)
    (k0 : ((τ 0 i) = 3) → ((iC ((τ 3 i))) = 0) → Q (zset (zset h 10 7 (0, 2)) 10 8 (0, (τ 1 i)), some (0, -1)))
    (k1 : ((τ 0 i) = 3) → ((iC ((τ 3 i))) ≠ 0) → ((i : Int) < 900) → Q (zset h 10 6 (0, ((i : Int) + 1)), some (0, (τ 3 i))))
    (k2 : ((τ 0 i) = 3) → ((iC ((τ 3 i))) ≠ 0) → (900 ≤ (i : Int)) → Q (h, some (0, (τ 3 i))))
    (k3 : ((τ 0 i) ≠ 3) → ((τ 0 i) = 4) → Q (zset (zset h 10 7 (0, 1)) 10 8 (0, (τ 1 i)), some (0, -1)))
    (k4 : ((τ 0 i) ≠ 3) → ((τ 0 i) ≠ 4) → Q (zset (zset h 10 7 (0, 2)) 10 8 (0, (τ 1 i)), some (0, -1))) :
    vP D T N 122 0 h [some (2, 10), none] [] Q := by
  refine v_load (v := (2, 10)) (hz_X8_takeCompare hT _ _ rfl) rfl rfl ?_
  refine v_getR (c := 15) (r := 10) (hz_X8_takeCompare hT _ _ rfl) rfl rfl rfl ?_
  refine v_load (v := (2, 10)) (hz_X8_takeCompare hT _ _ rfl) rfl rfl ?_
  refine v_getf (v := (0, (i : Int))) (r := 10) (hz_X8_takeCompare hT _ _ rfl) rfl rfl (fun _ => hX.at) ?_
  refine v_aldE (t := 0) (r := 15) (w := (τ 3 i)) (hz_X8_takeCompare hT _ _ rfl) rfl rfl rfl (hX.k3 i) (fun ha1 hb2 => ?_)
  refine v_store1 [some (2, 10), some (0, (τ 3 i))] (hz_X8_takeCompare hT _ _ rfl) ⟨rfl, Nat.ne_of_beq_eq_false rfl⟩ (Nat.le_of_ble_eq_true rfl) rfl ?_
  refine v_load (v := (2, 10)) (hz_X8_takeCompare hT _ _ rfl) rfl rfl ?_
  refine v_getR (c := 12) (r := 10) (hz_X8_takeCompare hT _ _ rfl) rfl rfl rfl ?_
  refine v_load (v := (2, 10)) (hz_X8_takeCompare hT _ _ rfl) rfl rfl ?_
  refine v_getf (v := (0, (i : Int))) (r := 10) (hz_X8_takeCompare hT _ _ rfl) rfl rfl (fun _ => hX.at) ?_
  refine v_aldE (t := 0) (r := 12) (w := (τ 0 i)) (hz_X8_takeCompare hT _ _ rfl) rfl rfl rfl (hX.k0 i) (fun ha3 hb4 => ?_)
  refine v_push (3) (hz_X8_takeCompare hT _ _ rfl) rfl ?_
  refine v_ic (hz_X8_takeCompare hT _ _ rfl) (fun hc5 => ?_) (fun hc5 => ?_)
  · have hc5 : (τ 0 i) = 3 := hc5
    refine v_load (v := (0, (τ 3 i))) (hz_X8_takeCompare hT _ _ rfl) rfl rfl ?_
    refine v_call (w := 1) [some (0, (τ 3 i))] hO (hz_X8_takeCompare hT _ _ rfl) rfl rfl (b_cmp hT hO ((τ 3 i)) ?_)
    show vP D T N 122 27 h [some (2, 10), some (0, (τ 3 i))] [(0, (iC ((τ 3 i))))] _
    refine v_if (hz_X8_takeCompare hT _ _ rfl) (fun hc6 => ?_) (fun hc6 => ?_)
    · have hc6 : (iC ((τ 3 i))) = 0 := hc6
      refine v_load (v := (2, 10)) (hz_X8_takeCompare hT _ _ rfl) rfl rfl ?_
      refine v_push (2) (hz_X8_takeCompare hT _ _ rfl) rfl ?_
      refine v_call (w := 2) [some (2, 10), some (0, 2)] hO (hz_X8_takeCompare hT _ _ rfl) rfl rfl ?_
      refine v_load (v := (2, 10)) (hi_X8_blame_0 hT) rfl rfl ?_
      refine v_load (v := (2, 10)) (hi_X8_blame_1 hT) rfl rfl ?_
      refine v_getR (c := 12) (r := 10) (hi_X8_blame_2 hT) rfl rfl rfl ?_
      refine v_load (v := (2, 10)) (hi_X8_blame_5 hT) rfl rfl ?_
      refine v_getf (v := (0, (i : Int))) (r := 10) (hi_X8_blame_6 hT) rfl rfl (fun _ => hX.at) ?_
      refine v_aldE (t := 0) (r := 12) (w := (τ 0 i)) (hi_X8_blame_9 hT) rfl rfl rfl (hX.k0 i) (fun ha7 hb8 => ?_)
      refine v_push (4) (hi_X8_blame_10 hT) rfl ?_
      refine v_ic (hi_X8_blame_11 hT) (fun hc9 => absurd (show (τ 0 i) = 4 from hc9) (by omega)) (fun _ => ?_)
      refine v_load (v := (0, 2)) (hi_X8_blame_18 hT) rfl rfl ?_
      refine v_putf (r := 10) hO (hi_X8_blame_19 hT) rfl (fun hf10 => ?_)
      refine v_load (v := (2, 10)) (hi_X8_blame_22 hT) rfl rfl ?_
      refine v_load (v := (2, 10)) (hi_X8_blame_23 hT) rfl rfl ?_
      refine v_getR (c := 13) (r := 10) (hi_X8_blame_24 hT) rfl rfl rfl ?_
      refine v_load (v := (2, 10)) (hi_X8_blame_27 hT) rfl rfl ?_
      refine v_getf (v := (0, (i : Int))) (r := 10) (hi_X8_blame_28 hT) rfl rfl (fun _ => Eq.trans (zset_ne (fun c => absurd c.2 (by decide))) (hX.at)) ?_
      refine v_aldE (t := 0) (r := 13) (w := (τ 1 i)) (hi_X8_blame_31 hT) rfl rfl rfl ((congrArg Prod.snd (zset_ne (fun c => absurd c.1 (by decide)))).trans (hX.k1 i)) (fun ha11 hb12 => ?_)
      refine v_putf (r := 10) hO (hi_X8_blame_32 hT) rfl (fun hf13 => ?_)
      refine v_push (0) (hi_X8_blame_35 hT) rfl ?_
      refine v_ret (hi_X8_blame_36 hT) (Or.inl rfl) ?_
      show vP D T N 122 35 (zset (zset h 10 7 (0, 2)) 10 8 (0, (τ 1 i))) [some (2, 10), some (0, (τ 3 i))] [(0, 0)] _
      refine v_pop (hz_X8_takeCompare hT _ _ rfl) (Nat.ne_of_beq_eq_false rfl) ?_
      refine v_push (-1) (hz_X8_takeCompare hT _ _ rfl) rfl ?_
      refine v_ret (hz_X8_takeCompare hT _ _ rfl) (Or.inl rfl) ?_
      exact k0 hc5 hc6
    · have hc6 : (iC ((τ 3 i))) ≠ 0 := hc6
      refine v_load (v := (2, 10)) (hz_X8_takeCompare hT _ _ rfl) rfl rfl ?_
      refine v_call (w := 1) [some (2, 10)] hO (hz_X8_takeCompare hT _ _ rfl) rfl rfl ?_
      refine v_load (v := (2, 10)) (hi_X8_advance_0 hT) rfl rfl ?_
      refine v_getf (v := (0, (i : Int))) (r := 10) (hi_X8_advance_1 hT) rfl rfl (fun _ => hX.at) ?_
      refine v_push (900) (hi_X8_advance_4 hT) rfl ?_
      refine v_ic (hi_X8_advance_7 hT) (fun hc14 => ?_) (fun hc14 => ?_)
      · have hc14 : (i : Int) < 900 := hc14
        refine v_load (v := (2, 10)) (hi_X8_advance_10 hT) rfl rfl ?_
        refine v_getR (c := 12) (r := 10) (hi_X8_advance_11 hT) rfl rfl rfl ?_
        refine v_load (v := (2, 10)) (hi_X8_advance_14 hT) rfl rfl ?_
        refine v_getf (v := (0, (i : Int))) (r := 10) (hi_X8_advance_15 hT) rfl rfl (fun _ => hX.at) ?_
        refine v_aldE (t := 0) (r := 12) (w := (τ 0 i)) (hi_X8_advance_18 hT) rfl rfl rfl (hX.k0 i) (fun ha15 hb16 => ?_)
        refine v_if (hi_X8_advance_19 hT) (fun hc17 => absurd (show (τ 0 i) = 0 from hc17) (by omega)) (fun _ => ?_)
        refine v_load (v := (2, 10)) (hi_X8_advance_22 hT) rfl rfl ?_
        refine v_getR (c := 12) (r := 10) (hi_X8_advance_23 hT) rfl rfl rfl ?_
        refine v_load (v := (2, 10)) (hi_X8_advance_26 hT) rfl rfl ?_
        refine v_getf (v := (0, (i : Int))) (r := 10) (hi_X8_advance_27 hT) rfl rfl (fun _ => hX.at) ?_
        refine v_aldE (t := 0) (r := 12) (w := (τ 0 i)) (hi_X8_advance_30 hT) rfl rfl rfl (hX.k0 i) (fun ha18 hb19 => ?_)
        refine v_push (4) (hi_X8_advance_31 hT) rfl ?_
        refine v_ic (hi_X8_advance_32 hT) (fun hc20 => absurd (show (τ 0 i) = 4 from hc20) (by omega)) (fun _ => ?_)
        refine v_load (v := (2, 10)) (hi_X8_advance_35 hT) rfl rfl ?_
        refine v_dup (hi_X8_advance_36 hT) (Nat.ne_of_beq_eq_false rfl) ?_
        refine v_getf (v := (0, (i : Int))) (r := 10) (hi_X8_advance_37 hT) rfl rfl (fun _ => hX.at) ?_
        refine v_push (1) (hi_X8_advance_40 hT) rfl ?_
        refine v_bin (w := ((i : Int) + 1)) (hi_X8_advance_41 hT) (hq_add (by omega) (by omega)) ?_
        refine v_putf (r := 10) hO (hi_X8_advance_42 hT) rfl (fun hf21 => ?_)
        refine v_ret0 (hi_X8_advance_45 hT) ?_
        show vP D T N 122 42 (zset h 10 6 (0, ((i : Int) + 1))) [some (2, 10), some (0, (τ 3 i))] [] _
        refine v_load (v := (0, (τ 3 i))) (hz_X8_takeCompare hT _ _ rfl) rfl rfl ?_
        refine v_ret (hz_X8_takeCompare hT _ _ rfl) (Or.inl rfl) ?_
        exact k1 hc5 hc6 hc14
      · have hc14 : 900 ≤ (i : Int) := Int.not_lt.mp hc14
        refine v_ret0 (hi_X8_advance_45 hT) ?_
        show vP D T N 122 42 h [some (2, 10), some (0, (τ 3 i))] [] _
        refine v_load (v := (0, (τ 3 i))) (hz_X8_takeCompare hT _ _ rfl) rfl rfl ?_
        refine v_ret (hz_X8_takeCompare hT _ _ rfl) (Or.inl rfl) ?_
        exact k2 hc5 hc6 hc14
  · have hc5 : (τ 0 i) ≠ 3 := hc5
    refine v_load (v := (2, 10)) (hz_X8_takeCompare hT _ _ rfl) rfl rfl ?_
    refine v_push (2) (hz_X8_takeCompare hT _ _ rfl) rfl ?_
    refine v_call (w := 2) [some (2, 10), some (0, 2)] hO (hz_X8_takeCompare hT _ _ rfl) rfl rfl ?_
    refine v_load (v := (2, 10)) (hi_X8_blame_0 hT) rfl rfl ?_
    refine v_load (v := (2, 10)) (hi_X8_blame_1 hT) rfl rfl ?_
    refine v_getR (c := 12) (r := 10) (hi_X8_blame_2 hT) rfl rfl rfl ?_
    refine v_load (v := (2, 10)) (hi_X8_blame_5 hT) rfl rfl ?_
    refine v_getf (v := (0, (i : Int))) (r := 10) (hi_X8_blame_6 hT) rfl rfl (fun _ => hX.at) ?_
    refine v_aldE (t := 0) (r := 12) (w := (τ 0 i)) (hi_X8_blame_9 hT) rfl rfl rfl (hX.k0 i) (fun ha22 hb23 => ?_)
    refine v_push (4) (hi_X8_blame_10 hT) rfl ?_
    refine v_ic (hi_X8_blame_11 hT) (fun hc24 => ?_) (fun hc24 => ?_)
    · have hc24 : (τ 0 i) = 4 := hc24
      refine v_push (1) (hi_X8_blame_14 hT) rfl ?_
      refine v_goto (hi_X8_blame_15 hT) ?_
      refine v_putf (r := 10) hO (hi_X8_blame_19 hT) rfl (fun hf25 => ?_)
      refine v_load (v := (2, 10)) (hi_X8_blame_22 hT) rfl rfl ?_
      refine v_load (v := (2, 10)) (hi_X8_blame_23 hT) rfl rfl ?_
      refine v_getR (c := 13) (r := 10) (hi_X8_blame_24 hT) rfl rfl rfl ?_
      refine v_load (v := (2, 10)) (hi_X8_blame_27 hT) rfl rfl ?_
      refine v_getf (v := (0, (i : Int))) (r := 10) (hi_X8_blame_28 hT) rfl rfl (fun _ => Eq.trans (zset_ne (fun c => absurd c.2 (by decide))) (hX.at)) ?_
      refine v_aldE (t := 0) (r := 13) (w := (τ 1 i)) (hi_X8_blame_31 hT) rfl rfl rfl ((congrArg Prod.snd (zset_ne (fun c => absurd c.1 (by decide)))).trans (hX.k1 i)) (fun ha26 hb27 => ?_)
      refine v_putf (r := 10) hO (hi_X8_blame_32 hT) rfl (fun hf28 => ?_)
      refine v_push (0) (hi_X8_blame_35 hT) rfl ?_
      refine v_ret (hi_X8_blame_36 hT) (Or.inl rfl) ?_
      show vP D T N 122 35 (zset (zset h 10 7 (0, 1)) 10 8 (0, (τ 1 i))) [some (2, 10), some (0, (τ 3 i))] [(0, 0)] _
      refine v_pop (hz_X8_takeCompare hT _ _ rfl) (Nat.ne_of_beq_eq_false rfl) ?_
      refine v_push (-1) (hz_X8_takeCompare hT _ _ rfl) rfl ?_
      refine v_ret (hz_X8_takeCompare hT _ _ rfl) (Or.inl rfl) ?_
      exact k3 hc5 hc24
    · have hc24 : (τ 0 i) ≠ 4 := hc24
      refine v_load (v := (0, 2)) (hi_X8_blame_18 hT) rfl rfl ?_
      refine v_putf (r := 10) hO (hi_X8_blame_19 hT) rfl (fun hf29 => ?_)
      refine v_load (v := (2, 10)) (hi_X8_blame_22 hT) rfl rfl ?_
      refine v_load (v := (2, 10)) (hi_X8_blame_23 hT) rfl rfl ?_
      refine v_getR (c := 13) (r := 10) (hi_X8_blame_24 hT) rfl rfl rfl ?_
      refine v_load (v := (2, 10)) (hi_X8_blame_27 hT) rfl rfl ?_
      refine v_getf (v := (0, (i : Int))) (r := 10) (hi_X8_blame_28 hT) rfl rfl (fun _ => Eq.trans (zset_ne (fun c => absurd c.2 (by decide))) (hX.at)) ?_
      refine v_aldE (t := 0) (r := 13) (w := (τ 1 i)) (hi_X8_blame_31 hT) rfl rfl rfl ((congrArg Prod.snd (zset_ne (fun c => absurd c.1 (by decide)))).trans (hX.k1 i)) (fun ha30 hb31 => ?_)
      refine v_putf (r := 10) hO (hi_X8_blame_32 hT) rfl (fun hf32 => ?_)
      refine v_push (0) (hi_X8_blame_35 hT) rfl ?_
      refine v_ret (hi_X8_blame_36 hT) (Or.inl rfl) ?_
      show vP D T N 122 35 (zset (zset h 10 7 (0, 2)) 10 8 (0, (τ 1 i))) [some (2, 10), some (0, (τ 3 i))] [(0, 0)] _
      refine v_pop (hz_X8_takeCompare hT _ _ rfl) (Nat.ne_of_beq_eq_false rfl) ?_
      refine v_push (-1) (hz_X8_takeCompare hT _ _ rfl) rfl ?_
      refine v_ret (hz_X8_takeCompare hT _ _ rfl) (Or.inl rfl) ?_
      exact k4 hc5 hc24
theorem q_lto0 {D : zD} {T : zT} (hT : hTab T) (hO : vOK T) {N : Nat} {h : zH} {Q : zR → Prop} (x : Int) (hv0 : zHv h)
    (k0 : vP D T N 50 2 h [some (0, x), some (0, 0)] [] Q) :
    vP D T N 50 0 h [some (0, x), none] [] Q := by
  refine v_push (0) (hz_X2_letterOf hT _ _ rfl) rfl ?_
  refine v_store1 [some (0, x), some (0, 0)] (hz_X2_letterOf hT _ _ rfl) ⟨rfl, Nat.ne_of_beq_eq_false rfl⟩ (Nat.le_of_ble_eq_true rfl) rfl ?_
  exact k0 
theorem q_lto1 {D : zD} {T : zT} (hT : hTab T) (hO : vOK T) {N : Nat} {h : zH} {Q : zR → Prop} (x i : Int) (hv0 : zHv h) (hi : 0 ≤ i ∧ i ≤ 5)
    (k0 : (i < (zlen D 4 : Int)) → (0 ≤ i) → (i < (zlen D 4 : Int)) → ((zat D 4 i.toNat) = x) → Q (h, some (0, i)))
    (k1 : (i < (zlen D 4 : Int)) → (0 ≤ i) → (i < (zlen D 4 : Int)) → ((zat D 4 i.toNat) ≠ x) → vP D T N 50 2 h [some (0, x), some (0, (i + 1))] [] Q)
    (k2 : ((zlen D 4 : Int) ≤ i) → Q (h, some (0, -1))) :
    vP D T (N + 1) 50 2 h [some (0, x), some (0, i)] [] Q := by
  refine v_loadS (v := (0, i)) (hz_X2_letterOf hT _ _ rfl) rfl rfl ?_
  refine v_push (4) (hz_X2_letterOf hT _ _ rfl) rfl ?_
  refine v_slen (j := 4) (hz_X2_letterOf hT _ _ rfl) rfl ?_
  refine v_ic (hz_X2_letterOf hT _ _ rfl) (fun hc1 => ?_) (fun hc1 => ?_)
  · have hc1 : i < (zlen D 4 : Int) := hc1
    refine v_push (4) (hz_X2_letterOf hT _ _ rfl) rfl ?_
    refine v_load (v := (0, i)) (hz_X2_letterOf hT _ _ rfl) rfl rfl ?_
    refine v_char (j := 4) (hz_X2_letterOf hT _ _ rfl) rfl (fun ha2 hb3 => ?_)
    refine v_load (v := (0, x)) (hz_X2_letterOf hT _ _ rfl) rfl rfl ?_
    refine v_ic (hz_X2_letterOf hT _ _ rfl) (fun hc4 => ?_) (fun hc4 => ?_)
    · have hc4 : (zat D 4 i.toNat) = x := hc4
      refine v_load (v := (0, i)) (hz_X2_letterOf hT _ _ rfl) rfl rfl ?_
      refine v_ret (hz_X2_letterOf hT _ _ rfl) (Or.inl rfl) ?_
      exact k0 hc1 ha2 hb3 hc4
    · have hc4 : (zat D 4 i.toNat) ≠ x := hc4
      refine v_iinc (x := i) (u := 1) (w := (i + 1)) [some (0, x), some (0, (i + 1))] (hz_X2_letterOf hT _ _ rfl) rfl rfl (Nat.le_of_ble_eq_true rfl) (vz_inc (by omega) (by omega)) rfl ?_
      refine v_goto (hz_X2_letterOf hT _ _ rfl) ?_
      exact k1 hc1 ha2 hb3 hc4
  · have hc1 : (zlen D 4 : Int) ≤ i := Int.not_lt.mp hc1
    refine v_push (-1) (hz_X2_letterOf hT _ _ rfl) rfl ?_
    refine v_ret (hz_X2_letterOf hT _ _ rfl) (Or.inl rfl) ?_
    exact k2 hc1
/-! THE CLASS'S TAPE: what its methods come to -/
theorem tk_b {B : Nat → Int} {n m i : Nat} {τ : PT} (g : Tks B n m τ) (hi : i ≤ m) : 0 ≤ τ 1 i ∧ τ 1 i ≤ (n : Int) ∧ τ 1 i ≤ τ 2 i ∧ τ 2 i ≤ (n : Int) := by
  obtain ⟨k, s, e, v, h1, _, _, h3, h4, _⟩ := g.2.1 i hi
  have := h1.bd
  omega
theorem tk_n {B : Nat → Int} {n m i : Nat} {τ : PT} (g : Tks B n m τ) (hi : i ≤ m) (h0 : τ 0 i ≠ 0) (h4 : τ 0 i ≠ 4) : i < m := by
  by_cases e : i = m
  · rw [e] at h0 h4
    rcases g.2.2 with c | c
    · exact absurd c h0
    · exact absurd c h4
  · omega
theorem ne_10 {x : Int} (h : x = 1) : x ≠ 0 := by omega
theorem ne_14 {x : Int} (h : x = 1) : x ≠ 4 := by omega
section CT
variable {D : zD} {T : zT} {N : Nat} {h : zH} {Q : zR → Prop} {B : Nat → Int} {n m i : Nat} {τ : PT}
theorem cB_f1 {f : Int} (c : τ 0 i = 4) : cB (eF τ i f) (zset (zset h 10 7 (0, 1)) 10 8 (0, τ 1 i)) := by
  unfold eF
  rw [fk_4 c]
  exact cB_mk
theorem cB_f2 {f : Int} (c : τ 0 i ≠ 4) : cB (eF τ i f) (zset (zset h 10 7 (0, f)) 10 8 (0, τ 1 i)) := by
  unfold eF
  rw [fk_n c]
  exact cB_mk
theorem tF_b {f p : Int} : tF h (zset (zset h 10 7 (0, f)) 10 8 (0, p)) := (tF.rfl.z (by decide) (by decide)).z (by decide) (by decide)
theorem tF_a {p : Int} : tF h (zset h 10 6 (0, p)) := tF.rfl.z (by decide) (by decide)
theorem cx_adv (hT : hTab T) (hO : vOK T) (hX : cX B n m τ i h) (h0 : τ 0 i ≠ 0) (h4 : τ 0 i ≠ 4) (k : ∀ g, tF h g → cX B n m τ (i + 1) g → Q (g, none)) : vP D T N 100 0 h [some (2, 10)] [] Q := by
  have a1 := hX.lst h0 h4
  have a2 := hX.im
  exact vP_hv (fun hv => qx_adv hT hO hv hX (fun _ c => absurd c h0) (fun _ _ c => absurd c h4) (fun _ _ _ => k _ tF_a (hX.next h0 h4)) (fun c => by omega))
theorem cx_blame (hT : hTab T) (hO : vOK T) (f : Int) (hX : cX B n m τ i h) (k : ∀ g, tF h g → cB (eF τ i f) g → Q (g, some (0, 0))) : vP D T N 103 0 h [some (2, 10), some (0, f)] [] Q :=
  vP_hv (fun hv => qx_blame hT hO f hv hX (fun c => k _ tF_b (cB_f1 c)) (fun c => k _ tF_b (cB_f2 c)))
theorem cx_isWord (hT : hTab T) (hO : vOK T) (w : Int) (hX : cX B n m τ i h) (k : Q (h, some (0, bW τ w i))) : vP D T N 114 0 h [some (2, 10), some (0, w)] [] Q := by
  unfold bW at k
  refine vP_hv (fun hv => qx_isWord hT hO w hv hX (fun c d => ?_) (fun c d => ?_) (fun c => ?_))
  · rw [if_pos ⟨c, d⟩] at k; exact k
  · rw [if_neg (fun f => d f.2)] at k; exact k
  · rw [if_neg (fun f => c f.1)] at k; exact k
theorem cx_isEnd (hT : hTab T) (hO : vOK T) (hX : cX B n m τ i h) (k : Q (h, some (0, bEn τ i))) : vP D T N 110 0 h [some (2, 10)] [] Q := by
  unfold bEn at k
  refine vP_hv (fun hv => qx_isEnd hT hO hv hX (fun c => ?_) (fun c => ?_))
  · rw [if_pos c] at k; exact k
  · rw [if_neg c] at k; exact k
theorem cx_isWordOf (hT : hTab T) (hO : vOK T) (w : Int) (hX : cX B n m τ i h) (hK : Tks B n m τ) (k : Q (h, some (0, bL τ w i))) : vP D T N 115 0 h [some (2, 10), some (0, w)] [] Q := by
  have b := tk_b hK hX.im.1
  have b9 := hX.1.1.1.1
  unfold bL at k
  refine vP_hv (fun hv => qx_isWordOf hT hO w hv hX ⟨by omega, by omega⟩ ⟨by omega, by omega⟩ (fun c d => ?_) (fun c d => ?_) (fun c => ?_))
  · rw [if_pos ⟨c, d⟩] at k; exact k
  · rw [if_neg (fun f => d f.2)] at k; exact k
  · rw [if_neg (fun f => c f.1)] at k; exact k
theorem cx_wordHere (hT : hTab T) (hO : vOK T) (hX : cX B n m τ i h) (k : Q (h, some (0, bHw τ i))) : vP D T N 126 0 h [some (2, 10)] [] Q := by
  unfold bHw at k
  refine vP_hv (fun hv => qx_wordHere hT hO hv hX (fun c => ?_) (fun c => ?_))
  · rw [if_pos c] at k; exact k
  · rw [if_neg c] at k; exact k
theorem cx_isName (hT : hTab T) (hO : vOK T) (hX : cX B n m τ i h) (hK : Tks B n m τ) (k : Q (h, some (0, bN τ i))) : vP D T N 112 0 h [some (2, 10)] [] Q := by
  have b := tk_b hK hX.im.1
  have b9 := hX.1.1.1.1
  unfold bN at k
  refine vP_hv (fun hv => qx_isName hT hO hv hX ⟨by omega, by omega⟩ ⟨by omega, by omega⟩ (fun c d e => ?_) (fun c d e => ?_) (fun c d => ?_) (fun c => ?_))
  · rw [if_neg (fun f => by omega)] at k; exact k
  · rw [if_pos ⟨c, d, e⟩] at k; exact k
  · rw [if_neg (fun f => d f.2.1)] at k; exact k
  · rw [if_neg (fun f => c f.1)] at k; exact k
theorem cx_word (hT : hTab T) (hO : vOK T) (w : Int) (hX : cX B n m τ i h) (k1 : ∀ g, tF h g → pWord τ w i = .inr (i + 1) → cX B n m τ (i + 1) g → Q (g, some (0, 1))) (k2 : ∀ g e, tF h g → pWord τ w i = .inl e → cB e g → Q (g, some (0, 0))) : vP D T N 125 0 h [some (2, 10), some (0, w)] [] Q := by
  have a2 := hX.im
  refine vP_hv (fun hv => qx_word hT hO w hv hX (fun c d _ => ?_) (fun c d e => ?_) (fun c d => ?_) (fun c d => ?_) (fun c d => ?_))
  · exact k1 _ tF_a (pWord_y (bW_y.mpr ⟨c, d⟩)) (hX.next (ne_10 c) (ne_14 c))
  · have a1 := hX.lst (ne_10 c) (ne_14 c)
    omega
  · exact k2 _ _ tF_b (pWord_n (fun f => d (bW_y.mp f).2)) (cB_f2 (ne_14 c))
  · exact k2 _ _ tF_b (pWord_n (fun f => c (bW_y.mp f).1)) (cB_f1 d)
  · exact k2 _ _ tF_b (pWord_n (fun f => c (bW_y.mp f).1)) (cB_f2 d)
theorem cx_stop (hT : hTab T) (hO : vOK T) (hX : cX B n m τ i h) (k1 : ∀ g, tF h g → pSg τ 59 i = .inr (i + 1) → cX B n m τ (i + 1) g → Q (g, some (0, 1))) (k2 : ∀ g e, tF h g → pSg τ 59 i = .inl e → cB e g → Q (g, some (0, 0))) : vP D T N 124 0 h [some (2, 10)] [] Q := by
  have a2 := hX.im
  refine vP_hv (fun hv => qx_stop hT hO hv hX (fun c d _ => ?_) (fun c d e => ?_) (fun c d => ?_) (fun c d => ?_) (fun c d => ?_))
  · exact k1 _ tF_a (pSg_y (bG_y.mpr ⟨c, d⟩)) (hX.next (by omega) (by omega))
  · have a1 := hX.lst (by omega) (by omega)
    omega
  · exact k2 _ _ tF_b (pSg_n (fun f => d (bG_y.mp f).2)) (cB_f2 (by omega))
  · exact k2 _ _ tF_b (pSg_n (fun f => c (bG_y.mp f).1)) (cB_f1 d)
  · exact k2 _ _ tF_b (pSg_n (fun f => c (bG_y.mp f).1)) (cB_f2 d)
theorem cx_num (hT : hTab T) (hO : vOK T) (u v : Int) (hX : cX B n m τ i h) (k1 : ∀ g x, tF h g → pNum τ u v i = .inr (x, i + 1) → u ≤ x → x ≤ v → cX B n m τ (i + 1) g → Q (g, some (0, x))) (k2 : ∀ g e, tF h g → pNum τ u v i = .inl e → cB e g → Q (g, some (0, -1))) : vP D T N 123 0 h [some (2, 10), some (0, u), some (0, v), none] [] Q := by
  have a2 := hX.im
  refine vP_hv (fun hv => qx_num hT hO u v hv hX (fun c d => ?_) (fun c d e => ?_) (fun c d e _ => ?_) (fun c d e f => ?_) (fun c d => ?_) (fun c d => ?_))
  · exact k2 _ _ tF_b (pNum_o c (fun f => by omega)) cB_mk
  · exact k2 _ _ tF_b (pNum_o c (fun f => by omega)) cB_mk
  · exact k1 _ _ tF_a (pNum_y c d e) d e (hX.next (by omega) (by omega))
  · have a1 := hX.lst (by omega) (by omega)
    omega
  · exact k2 _ _ tF_b (pNum_n c) (cB_f1 d)
  · exact k2 _ _ tF_b (pNum_n c) (cB_f2 d)
end CT
theorem Tk.word {B : Nat → Int} {n p s e : Nat} (h : Tk B n p 1 s e) : Rn iL B n s e ∧ s < n := by
  obtain ⟨_, ⟨_, c, _⟩ | ⟨h1, ⟨_, _, h2⟩ | ⟨_, _, c, _⟩ | ⟨_, _, c, _⟩⟩⟩ := h
  · exact absurd c (by decide)
  · exact ⟨h2, h1⟩
  · by_cases f : e ≤ s + 4
    · rw [if_pos f] at c; exact absurd c (by decide)
    · rw [if_neg f] at c; exact absurd c (by decide)
  · by_cases f : iS (B s) ≠ 0
    · rw [if_pos f] at c; exact absurd c (by decide)
    · rw [if_neg f] at c; exact absurd c (by decide)
theorem TS.tk {B : Nat → Int} {n : Nat} {k : Int} {s e : Nat} : ∀ {j : Nat}, TS B n j k s e → ∃ p, Tk B n p k s e
  | 0, h => ⟨0, h⟩
  | _ + 1, ⟨_, _, e', _, _, _, h⟩ => ⟨e', h⟩
/-- a word's bytes -/
theorem tk_w {B : Nat → Int} {n m i : Nat} {τ : PT} (g : Tks B n m τ) (hi : i ≤ m) (h1 : τ 0 i = 1) : ∃ s e : Nat, τ 1 i = (s : Int) ∧ τ 2 i = (e : Int) ∧ Rn iL B n s e ∧ s < n ∧ e ≤ n ∧ TS B n i 1 s e ∧ RI B s e (τ 3 i) ∧ τ 4 i = wv B s (e - s) ∧ ∀ x, τ (10 + x) i = lt (B (s + x)) := by
  obtain ⟨k, s, e, v, a1, a2, a3, a4, a5, a6, a7, a8⟩ := g.2.1 i hi
  have ek : k = 1 := a3.symm.trans h1
  subst ek
  obtain ⟨p, hp⟩ := a1.tk
  have w := hp.word
  exact ⟨s, e, a4, a5, w.1, w.2, a1.bd.2.2.2.1, a1, by rw [a6]; exact a2.1 rfl, a7, a8⟩
theorem cx_name {D : zD} {T : zT} {N : Nat} {h : zH} {Q : zR → Prop} {B : Nat → Int} {n m i : Nat} {τ : PT} (hT : hTab T) (hO : vOK T) (hX : cX B n m τ i h) (hK : Tks B n m τ) (hN : bN τ i ≠ 0) (k : Q (h, some (1, τ 4 i))) : vP D T N 116 0 h [some (2, 10), none, none, none] [] Q := by
  obtain ⟨n1, n2, n3⟩ := bN_y.mp hN
  obtain ⟨s, e, w1, w2, w3, w4, w5, _, _, w8, _⟩ := tk_w hK hX.im.1 n1
  have b9 := hX.1.1.1.1
  have hb : ∀ q, s ≤ q → q < e → (h 11 q).2 = B q ∧ 97 ≤ B q ∧ B q ≤ 122 := fun q h1 h2 => ⟨hX.1.1.at (by omega), iL_ne (w3.2.1 q h1 h2).2⟩
  refine vP_hv (fun hv => qx_name0 hT hO hv hX ?_)
  refine vP_loop (fun h' l => h' = h ∧ ∃ j : Nat, j ≤ e - s ∧ l = [some (2, 10), some (1, pv B s j), none, some (0, ((s + j : Nat) : Int))]) ?_ N _ _ ⟨rfl, 0, by omega, by rw [w1]; rfl⟩
  rintro N h' l ⟨rfl, j, hj, rfl⟩ ih
  have hse := w3.1
  have pb := pv_bd (B := B) (s := s) (l := j) (fun q h1 h2 => (hb q h1 (by omega)).2)
  have et : (((s + j : Nat) : Int)).toNat = s + j := Int.toNat_natCast _
  refine vP_hv (fun hv => ?_)
  have p7' : ∀ l, l < 8 → (32 : Int) ^ l ≤ 34359738368 := by decide +kernel
  have hq : j < e - s → (h' 11 (s + j)).2 = B (s + j) ∧ 97 ≤ B (s + j) ∧ B (s + j) ≤ 122 := fun c => hb (s + j) (by omega) (by omega)
  refine qx_name12 hT hO (pv B s j) ((s + j : Nat) : Int) hv hX pb.1 (fun c => ?_) ⟨by omega, by omega⟩ (fun c => ?_) (fun c _ _ => ?_) (fun _ => ?_)
  · have p9 := p7' j (by omega)
    omega
  · rw [et]
    have h1 := hq (by omega)
    rw [h1.1]
    exact h1.2
  · rw [et, (hq (by omega)).1]
    refine ih _ _ ⟨rfl, j + 1, by omega, ?_⟩
    rw [show ((s + j : Nat) : Int) + 1 = ((s + (j + 1) : Nat) : Int) from by omega, show pv B s j * 32 + (B (s + j) - 97 + 1) = pv B s (j + 1) from by
      show _ = 32 * pv B s j + (B (s + j) - 96)
      omega]
  · rw [w8] at k
    unfold wv at k
    rw [if_pos (by omega), show e - s = j from by omega] at k
    exact k
/-! THE CLASS'S LAND THAT IS BEING READ: its content; what the reader may change -/
def cP (r : Nat) (P : PT) (h : zH) : Prop := (h r 0 = (0, P 0 0) ∧ h r 1 = (0, P 0 1) ∧ h r 2 = (0, P 0 2) ∧ h r 3 = (0, P 0 3) ∧ h r 4 = (0, P 0 4)) ∧ (∀ k, k < 48 → h (r + 1) k = (0, P 1 k)) ∧ (∀ k, k < 48 → h (r + 2) k = (0, P 2 k)) ∧ (∀ k, k < 144 → h (r + 3) k = (0, P 3 k)) ∧ (∀ k : Nat, (k : Int) < P 0 3 → h (r + 4) k = (1, P 4 k) ∧ h (r + 5) k = (0, P 5 k) ∧ h (r + 6) k = (0, P 6 k) ∧ h (r + 7) k = (0, P 7 k) ∧ h (r + 8) k = (0, P 8 k) ∧ h (r + 9) k = (0, P 9 k))
def cL (r : Nat) (P : PT) (h : zH) : Prop := cP r P h ∧ h 16 1 = (2, (r : Int)) ∧ h 16 2 = (0, P 0 9)
section CL
variable {r : Nat} {P : PT} {h : zH}
theorem cP.m (g : cP r P h) : h r 3 = (0, P 0 3) := g.1.2.2.2.1
theorem cL.p (g : cL r P h) : cP r P h := g.1
theorem cL.rf (g : cL r P h) : h 16 1 = (2, (r : Int)) := g.2.1
theorem cL.td (g : cL r P h) : h 16 2 = (0, P 0 9) := g.2.2
theorem cL.w (g : cL r P h) : h r 0 = (0, P 0 0) := g.1.1.1
theorem cL.ro (g : cL r P h) : h r 1 = (0, P 0 1) := g.1.1.2.1
theorem cL.c (g : cL r P h) : h r 2 = (0, P 0 2) := g.1.1.2.2.1
theorem cL.m (g : cL r P h) : h r 3 = (0, P 0 3) := g.1.1.2.2.2.1
/-- a content is kept where its cells are -/
theorem cP.eq {h' : zH} (f : ∀ a b, r ≤ a → a ≤ r + 9 → h' a b = h a b) (g : cP r P h) : cP r P h' := by
  obtain ⟨⟨a0, a1, a2, a3, a4⟩, b1, b2, b3, b4⟩ := g
  refine ⟨⟨(f r 0 (by omega) (by omega)).trans a0, (f r 1 (by omega) (by omega)).trans a1, (f r 2 (by omega) (by omega)).trans a2, (f r 3 (by omega) (by omega)).trans a3, (f r 4 (by omega) (by omega)).trans a4⟩, fun k hk => (f _ k (by omega) (by omega)).trans (b1 k hk), fun k hk => (f _ k (by omega) (by omega)).trans (b2 k hk), fun k hk => (f _ k (by omega) (by omega)).trans (b3 k hk), fun k hk => ?_⟩
  obtain ⟨c4, c5, c6, c7, c8, c9⟩ := b4 k hk
  exact ⟨(f _ k (by omega) (by omega)).trans c4, (f _ k (by omega) (by omega)).trans c5, (f _ k (by omega) (by omega)).trans c6, (f _ k (by omega) (by omega)).trans c7, (f _ k (by omega) (by omega)).trans c8, (f _ k (by omega) (by omega)).trans c9⟩
theorem cL.tf {h' : zH} (g : cL r P h) (f : tF h h') (hr : 16 < r := by decide) : cL r P h' := ⟨g.1.eq (fun a b h1 h2 => f a b (fun c => by omega)), (f 16 1 (fun c => by omega)).trans g.2.1, (f 16 2 (fun c => by omega)).trans g.2.2⟩
theorem cL.f {k : Nat} {v : Int} (hk : k < 3) (g : cL r P h) (hr : 16 < r := by decide) : cL r (pset P 0 k v) (zset h r k (0, v)) := by
  obtain ⟨⟨⟨a0, a1, a2, a3, a4⟩, b1, b2, b3, b4⟩, c1, c2⟩ := g
  have z : ∀ a b, ¬ (a = r ∧ b = k) → zset h r k (0, v) a b = h a b := fun a b hn => zset_ne hn
  have fld : ∀ j, h r j = (0, P 0 j) → zset h r k (0, v) r j = (0, pset P 0 k v 0 j) := fun j e => by
    by_cases c : j = k
    · rw [c, zset_same, pset_same]
    · rw [z r j (fun f => c f.2), pset_ne (fun f => c f.2), e]
  have p3 : pset P 0 k v 0 3 = P 0 3 := pset_ne (fun c => by omega)
  refine ⟨⟨⟨fld 0 a0, fld 1 a1, fld 2 a2, fld 3 a3, fld 4 a4⟩, fun j hj => ?_, fun j hj => ?_, fun j hj => ?_, fun j hj => ?_⟩, (z 16 1 (fun c => by omega)).trans c1, (z 16 2 (fun c => by omega)).trans ?_⟩
  · rw [z _ j (fun c => by omega), pset_ne (fun c => by omega)]; exact b1 j hj
  · rw [z _ j (fun c => by omega), pset_ne (fun c => by omega)]; exact b2 j hj
  · rw [z _ j (fun c => by omega), pset_ne (fun c => by omega)]; exact b3 j hj
  · rw [p3] at hj
    rw [z _ j (fun c => by omega), z _ j (fun c => by omega), z _ j (fun c => by omega), z _ j (fun c => by omega), z _ j (fun c => by omega), z _ j (fun c => by omega), pset_ne (fun c => by omega), pset_ne (fun c => by omega), pset_ne (fun c => by omega), pset_ne (fun c => by omega), pset_ne (fun c => by omega), pset_ne (fun c => by omega)]
    exact b4 j hj
  · rw [pset_ne (fun c => by omega)]; exact c2
theorem cL.d {v : Int} (g : cL r P h) (hr : 16 < r := by decide) : cL r (pset P 0 9 v) (zset h 16 2 (0, v)) := by
  obtain ⟨⟨⟨a0, a1, a2, a3, a4⟩, b1, b2, b3, b4⟩, c1, c2⟩ := g
  have z : ∀ a b, a ≠ 16 → zset h 16 2 (0, v) a b = h a b := fun a b hn => zset_ne (fun c => hn c.1)
  have p0 : ∀ a b, b ≠ 9 → pset P 0 9 v a b = P a b := fun a b hb => pset_ne (fun c => hb c.2)
  have p1 : ∀ a b, a ≠ 0 → pset P 0 9 v a b = P a b := fun a b hb => pset_ne (fun c => hb c.1)
  refine ⟨⟨⟨?_, ?_, ?_, ?_, ?_⟩, fun j hj => ?_, fun j hj => ?_, fun j hj => ?_, fun j hj => ?_⟩, (zset_ne (fun c => by omega)).trans c1, ?_⟩
  · rw [z _ _ (by omega), p0 _ _ (by decide)]; exact a0
  · rw [z _ _ (by omega), p0 _ _ (by decide)]; exact a1
  · rw [z _ _ (by omega), p0 _ _ (by decide)]; exact a2
  · rw [z _ _ (by omega), p0 _ _ (by decide)]; exact a3
  · rw [z _ _ (by omega), p0 _ _ (by decide)]; exact a4
  · rw [z _ _ (by omega), p1 _ _ (by decide)]; exact b1 j hj
  · rw [z _ _ (by omega), p1 _ _ (by decide)]; exact b2 j hj
  · rw [z _ _ (by omega), p1 _ _ (by decide)]; exact b3 j hj
  · rw [p0 0 3 (by decide)] at hj
    rw [z _ _ (by omega), z _ _ (by omega), z _ _ (by omega), z _ _ (by omega), z _ _ (by omega), z _ _ (by omega), p1 _ _ (by decide), p1 _ _ (by decide), p1 _ _ (by decide), p1 _ _ (by decide), p1 _ _ (by decide), p1 _ _ (by decide)]
    exact b4 j hj
  · rw [zset_same, pset_same]
theorem cL.a1 {k : Nat} {v : Int} (g : cL r P h) (hr : 16 < r := by decide) : cL r (pset P 1 k v) (zset h (r + 1) k (0, v)) := by
  obtain ⟨⟨⟨a0, a1, a2, a3, a4⟩, b1, b2, b3, b4⟩, c1, c2⟩ := g
  have z : ∀ a b, a ≠ r + 1 → zset h (r + 1) k (0, v) a b = h a b := fun a b hn => zset_ne (fun c => hn c.1)
  have p1 : ∀ a b, a ≠ 1 → pset P 1 k v a b = P a b := fun a b hb => pset_ne (fun c => hb c.1)
  refine ⟨⟨⟨?_, ?_, ?_, ?_, ?_⟩, fun j hj => ?_, fun j hj => ?_, fun j hj => ?_, fun j hj => ?_⟩, (z _ _ (by omega)).trans c1, ?_⟩
  · rw [z _ _ (by omega), p1 _ _ (by decide)]; exact a0
  · rw [z _ _ (by omega), p1 _ _ (by decide)]; exact a1
  · rw [z _ _ (by omega), p1 _ _ (by decide)]; exact a2
  · rw [z _ _ (by omega), p1 _ _ (by decide)]; exact a3
  · rw [z _ _ (by omega), p1 _ _ (by decide)]; exact a4
  · by_cases c : j = k
    · rw [c, zset_same, pset_same]
    · rw [zset_ne (fun f => c f.2), pset_ne (fun f => c f.2)]; exact b1 j hj
  · rw [z _ _ (by omega), p1 _ _ (by decide)]; exact b2 j hj
  · rw [z _ _ (by omega), p1 _ _ (by decide)]; exact b3 j hj
  · rw [p1 0 3 (by decide)] at hj
    rw [z _ _ (by omega), z _ _ (by omega), z _ _ (by omega), z _ _ (by omega), z _ _ (by omega), z _ _ (by omega), p1 _ _ (by decide), p1 _ _ (by decide), p1 _ _ (by decide), p1 _ _ (by decide), p1 _ _ (by decide), p1 _ _ (by decide)]
    exact b4 j hj
  · rw [z _ _ (by omega), p1 _ _ (by decide)]; exact c2
theorem cL.a2 {k : Nat} {v : Int} (g : cL r P h) (hr : 16 < r := by decide) : cL r (pset P 2 k v) (zset h (r + 2) k (0, v)) := by
  obtain ⟨⟨⟨a0, a1, a2, a3, a4⟩, b1, b2, b3, b4⟩, c1, c2⟩ := g
  have z : ∀ a b, a ≠ r + 2 → zset h (r + 2) k (0, v) a b = h a b := fun a b hn => zset_ne (fun c => hn c.1)
  have p1 : ∀ a b, a ≠ 2 → pset P 2 k v a b = P a b := fun a b hb => pset_ne (fun c => hb c.1)
  refine ⟨⟨⟨?_, ?_, ?_, ?_, ?_⟩, fun j hj => ?_, fun j hj => ?_, fun j hj => ?_, fun j hj => ?_⟩, (z _ _ (by omega)).trans c1, ?_⟩
  · rw [z _ _ (by omega), p1 _ _ (by decide)]; exact a0
  · rw [z _ _ (by omega), p1 _ _ (by decide)]; exact a1
  · rw [z _ _ (by omega), p1 _ _ (by decide)]; exact a2
  · rw [z _ _ (by omega), p1 _ _ (by decide)]; exact a3
  · rw [z _ _ (by omega), p1 _ _ (by decide)]; exact a4
  · rw [z _ _ (by omega), p1 _ _ (by decide)]; exact b1 j hj
  · by_cases c : j = k
    · rw [c, zset_same, pset_same]
    · rw [zset_ne (fun f => c f.2), pset_ne (fun f => c f.2)]; exact b2 j hj
  · rw [z _ _ (by omega), p1 _ _ (by decide)]; exact b3 j hj
  · rw [p1 0 3 (by decide)] at hj
    rw [z _ _ (by omega), z _ _ (by omega), z _ _ (by omega), z _ _ (by omega), z _ _ (by omega), z _ _ (by omega), p1 _ _ (by decide), p1 _ _ (by decide), p1 _ _ (by decide), p1 _ _ (by decide), p1 _ _ (by decide), p1 _ _ (by decide)]
    exact b4 j hj
  · rw [z _ _ (by omega), p1 _ _ (by decide)]; exact c2
theorem pAdd_0 {nm hm gl b : Int} {a k : Nat} (h : a ≤ 3) (h3 : ¬ (a = 0 ∧ k = 3)) : pAdd P nm hm gl b a k = P a k := by
  unfold pAdd
  rw [pset_ne h3, pset_ne (fun c => by omega), pset_ne (fun c => by omega), pset_ne (fun c => by omega), pset_ne (fun c => by omega), pset_ne (fun c => by omega), pset_ne (fun c => by omega)]
theorem pAdd_3 {nm hm gl b : Int} : pAdd P nm hm gl b 0 3 = P 0 3 + 1 := by
  unfold pAdd
  exact pset_same
theorem pAdd_n {nm hm gl b : Int} {a k : Nat} (h : k ≠ (P 0 3).toNat) (h3 : a ≠ 0) : pAdd P nm hm gl b a k = P a k := by
  unfold pAdd
  rw [pset_ne (fun c => h3 c.1), pset_ne (fun c => h c.2), pset_ne (fun c => h c.2), pset_ne (fun c => h c.2), pset_ne (fun c => h c.2), pset_ne (fun c => h c.2), pset_ne (fun c => h c.2)]
theorem pAdd_k {nm hm gl b : Int} : pAdd P nm hm gl b 4 (P 0 3).toNat = nm ∧ pAdd P nm hm gl b 5 (P 0 3).toNat = hm ∧ pAdd P nm hm gl b 6 (P 0 3).toNat = hm ∧ pAdd P nm hm gl b 7 (P 0 3).toNat = gl ∧ pAdd P nm hm gl b 8 (P 0 3).toNat = b ∧ pAdd P nm hm gl b 9 (P 0 3).toNat = 0 := by
  unfold pAdd pset
  refine ⟨?_, ?_, ?_, ?_, ?_, ?_⟩ <;> simp
theorem cL.add {nm hm gl b : Int} (g : cL r P h) (hr : 16 < r := by decide) : cL r (pAdd P nm hm gl b) (zset (zset (zset (zset (zset (zset (zset h (r + 4) (P 0 3).toNat (1, nm)) (r + 5) (P 0 3).toNat (0, hm)) (r + 6) (P 0 3).toNat (0, hm)) (r + 7) (P 0 3).toNat (0, gl)) (r + 8) (P 0 3).toNat (0, b)) (r + 9) (P 0 3).toNat (0, 0)) r 3 (0, P 0 3 + 1)) := by
  obtain ⟨⟨⟨a0, a1, a2, a3, a4⟩, b1, b2, b3, b4⟩, c1, c2⟩ := g
  have z : ∀ a j, (a < r + 4 ∨ r + 9 < a) → ¬ (a = r ∧ j = 3) → zset (zset (zset (zset (zset (zset (zset h (r + 4) (P 0 3).toNat (1, nm)) (r + 5) (P 0 3).toNat (0, hm)) (r + 6) (P 0 3).toNat (0, hm)) (r + 7) (P 0 3).toNat (0, gl)) (r + 8) (P 0 3).toNat (0, b)) (r + 9) (P 0 3).toNat (0, 0)) r 3 (0, P 0 3 + 1) a j = h a j := fun a j h1 h2 => by
    rw [zset_ne h2, zset_ne (fun c => by omega), zset_ne (fun c => by omega), zset_ne (fun c => by omega), zset_ne (fun c => by omega), zset_ne (fun c => by omega), zset_ne (fun c => by omega)]
  refine ⟨⟨⟨?_, ?_, ?_, ?_, ?_⟩, fun j hj => ?_, fun j hj => ?_, fun j hj => ?_, fun j hj => ?_⟩, (z _ _ (by omega) (by omega)).trans c1, ?_⟩
  · rw [z _ _ (by omega) (by omega), pAdd_0 (by decide) (by decide)]; exact a0
  · rw [z _ _ (by omega) (by omega), pAdd_0 (by decide) (by decide)]; exact a1
  · rw [z _ _ (by omega) (by omega), pAdd_0 (by decide) (by decide)]; exact a2
  · rw [zset_same, pAdd_3]
  · rw [z _ _ (by omega) (by omega), pAdd_0 (by decide) (by decide)]; exact a4
  · rw [z _ _ (by omega) (by omega), pAdd_0 (by decide) (by omega)]; exact b1 j hj
  · rw [z _ _ (by omega) (by omega), pAdd_0 (by decide) (by omega)]; exact b2 j hj
  · rw [z _ _ (by omega) (by omega), pAdd_0 (by decide) (by omega)]; exact b3 j hj
  · rw [pAdd_3] at hj
    by_cases e : j = (P 0 3).toNat
    · obtain ⟨k4, k5, k6, k7, k8, k9⟩ := pAdd_k (P := P) (nm := nm) (hm := hm) (gl := gl) (b := b)
      rw [e, k4, k5, k6, k7, k8, k9]
      refine ⟨?_, ?_, ?_, ?_, ?_, ?_⟩
      · rw [zset_ne (fun c => by omega), zset_ne (fun c => by omega), zset_ne (fun c => by omega), zset_ne (fun c => by omega), zset_ne (fun c => by omega), zset_ne (fun c => by omega), zset_same]
      · rw [zset_ne (fun c => by omega), zset_ne (fun c => by omega), zset_ne (fun c => by omega), zset_ne (fun c => by omega), zset_ne (fun c => by omega), zset_same]
      · rw [zset_ne (fun c => by omega), zset_ne (fun c => by omega), zset_ne (fun c => by omega), zset_ne (fun c => by omega), zset_same]
      · rw [zset_ne (fun c => by omega), zset_ne (fun c => by omega), zset_ne (fun c => by omega), zset_same]
      · rw [zset_ne (fun c => by omega), zset_ne (fun c => by omega), zset_same]
      · rw [zset_ne (fun c => by omega), zset_same]
    · have q : ∀ a, a ≠ r → zset (zset (zset (zset (zset (zset (zset h (r + 4) (P 0 3).toNat (1, nm)) (r + 5) (P 0 3).toNat (0, hm)) (r + 6) (P 0 3).toNat (0, hm)) (r + 7) (P 0 3).toNat (0, gl)) (r + 8) (P 0 3).toNat (0, b)) (r + 9) (P 0 3).toNat (0, 0)) r 3 (0, P 0 3 + 1) a j = h a j := fun a ha => by
        rw [zset_ne (fun c => ha c.1), zset_ne (fun c => e c.2), zset_ne (fun c => e c.2), zset_ne (fun c => e c.2), zset_ne (fun c => e c.2), zset_ne (fun c => e c.2), zset_ne (fun c => e c.2)]
      rw [q _ (by omega), q _ (by omega), q _ (by omega), q _ (by omega), q _ (by omega), q _ (by omega), pAdd_n e (by decide), pAdd_n e (by decide), pAdd_n e (by decide), pAdd_n e (by decide), pAdd_n e (by decide), pAdd_n e (by decide)]
      exact b4 j (by omega)
  · rw [z _ _ (by omega) (by omega), pAdd_0 (by decide) (by decide)]; exact c2
end CL
def lF (r : Nat) (h0 h : zH) : Prop := ∀ a b, ¬ ((a = 10 ∧ 6 ≤ b ∧ b ≤ 8) ∨ (r ≤ a ∧ a ≤ r + 9) ∨ a = 16) → h a b = h0 a b
theorem lF.rfl {r : Nat} {h : zH} : lF r h h := fun _ _ _ => Eq.refl _
theorem lF.t {r : Nat} {h0 h h' : zH} (g : lF r h0 h) (f : tF h h') : lF r h0 h' := fun a b hn => (f a b (fun c => hn (Or.inl c))).trans (g a b hn)
theorem lF.z {r a b : Nat} {v : zV} {h0 h : zH} (ha : (r ≤ a ∧ a ≤ r + 9) ∨ a = 16) (g : lF r h0 h) : lF r h0 (zset h a b v) := fun x y hn => (zset_ne (fun c => hn (by omega))).trans (g x y hn)
theorem lF.trans {r : Nat} {h0 h h' : zH} (g : lF r h0 h) (f : lF r h h') : lF r h0 h' := fun a b hn => (f a b hn).trans (g a b hn)
def lB (P : PT) : Prop := (0 ≤ P 0 0 ∧ P 0 0 ≤ 8) ∧ (0 ≤ P 0 1 ∧ P 0 1 ≤ 6) ∧ (0 ≤ P 0 2 ∧ P 0 2 ≤ 3) ∧ (0 ≤ P 0 3 ∧ P 0 3 ≤ 6)
def cRd (B : Nat → Int) (n m : Nat) (τ : PT) (r : Nat) (F : Er ⊕ (PT × Nat)) (h0 : zH) (x : zR) : Prop := (∃ e, F = .inl e ∧ x.2 = some (0, 0) ∧ cB e x.1 ∧ lF r h0 x.1) ∨ (∃ P j, F = .inr (P, j) ∧ x.2 = some (0, 1) ∧ cX B n m τ j x.1 ∧ cL r P x.1 ∧ lF r h0 x.1 ∧ lB P)
section CR
variable {B : Nat → Int} {n m : Nat} {τ : PT} {r : Nat} {F : Er ⊕ (PT × Nat)} {h0 g : zH}
theorem cRd_n {e : Er} (hF : F = .inl e) (hc : cB e g) (hf : lF r h0 g) : cRd B n m τ r F h0 (g, some (0, 0)) := Or.inl ⟨e, hF, rfl, hc, hf⟩
theorem cRd_y {P : PT} {j : Nat} (hF : F = .inr (P, j)) (hX : cX B n m τ j g) (hL : cL r P g) (hf : lF r h0 g) (hb : lB P) : cRd B n m τ r F h0 (g, some (0, 1)) := Or.inr ⟨P, j, hF, rfl, hX, hL, hf, hb⟩
theorem cRd_k {D : zD} {T : zT} {N mi pc : Nat} {l : List (Option zV)} {S : List zV} {Q : zR → Prop} (H : vP D T N mi pc g l S (cRd B n m τ r F g)) (k1 : ∀ g' P j, lF r g g' → F = .inr (P, j) → cX B n m τ j g' → cL r P g' → lB P → Q (g', some (0, 1))) (k2 : ∀ g' e, lF r g g' → F = .inl e → cB e g' → Q (g', some (0, 0))) : vP D T N mi pc g l S Q := vP_Q (fun x hx => by
  obtain ⟨g', v⟩ := x
  rcases hx with ⟨e, h1, h2, h3, h4⟩ | ⟨P, j, h1, h2, h3, h4, h5, h6⟩
  · have h2 : v = some (0, 0) := h2
    subst h2
    exact k2 g' e h4 h1 h3
  · have h2 : v = some (0, 1) := h2
    subst h2
    exact k1 g' P j h5 h1 h3 h4 h6) H
end CR
/-- what the reading of a LAND's text comes to -/
def xFr (r : Nat) (h0 h : zH) : Prop := ∀ a b, ¬ ((a = 10 ∧ 6 ≤ b ∧ b ≤ 8) ∨ (12 ≤ a ∧ a ≤ 15) ∨ (r ≤ a ∧ a ≤ r + 10) ∨ a = 16) → h a b = h0 a b
def cTx (B : Nat → Int) (n r : Nat) (h0 : zH) (x : zR) : Prop := ∃ m τ, Tks B n m τ ∧ ((∃ e, pLand τ = .inl e ∧ x.2 = some (0, 0) ∧ cB e x.1) ∨ (∃ P, pLand τ = .inr P ∧ x.2 = some (0, 1) ∧ cP r P x.1 ∧ lB P ∧ x.1 10 7 = (0, 0) ∧ x.1 10 8 = (0, -1) ∧ x.1 (r + 10) 0 = (0, -1) ∧ x.1 (r + 10) 1 = (0, 0))) ∧ xFr r h0 x.1
/-! small things of the pure readers -/
theorem lt_ge {x : Int} (h : lt x ≠ -1) : 0 ≤ lt x := by
  unfold lt at h ⊢
  omega
theorem pS_i {α : Type} {τ : PT} {x : Er ⊕ (α × Nat)} {a : α} {j : Nat} (h : pS τ x = .inr (a, j)) : ∃ j', x = .inr (a, j') ∧ j = j' + 1 := by
  unfold pS at h
  cases x with
  | inl e => cases h
  | inr y =>
    have h : eb (pSg τ 59 y.2) (fun j => .inr (y.1, j)) = .inr (a, j) := h
    unfold pSg at h
    by_cases c : bG τ 59 y.2 ≠ 0
    · rw [if_pos c] at h
      cases h
      exact ⟨y.2, rfl, rfl⟩
    · rw [if_neg c] at h
      cases h
theorem pRowL_r {τ P P' : PT} {i j : Nat} (h : pS τ (pRowL τ P i) = .inr (P', j)) : P' 0 1 = P 0 1 + 1 := by
  obtain ⟨j', h1, _⟩ := pS_i h
  unfold pRowL at h1
  by_cases c : bL τ (P 0 0) i ≠ 0 ∧ pAll τ i (P 0 0).toNat = true
  · rw [if_pos c] at h1
    cases h1
    exact pset_same
  · rw [if_neg c] at h1
    cases h1
theorem pWide_r {τ P P' : PT} {i j : Nat} (h : pWide τ P i = .inr (P', j)) : P' 0 1 = P 0 1 := by
  unfold pWide pWord at h
  by_cases c : bW τ 0 i ≠ 0
  · rw [if_pos c, eb_r] at h
    cases hn : pNum τ 2 8 (i + 1) with
    | inl e => rw [hn] at h; cases h
    | inr w =>
      rw [hn, eb_r] at h
      unfold pSg at h
      by_cases d : bG τ 59 w.2 ≠ 0
      · rw [if_pos d, eb_r] at h
        cases h
        exact pset_ne (fun c => absurd c.2 (by decide))
      · rw [if_neg d] at h; cases h
  · rw [if_neg c] at h; cases h
theorem eb_i {α β : Type} {x : Er ⊕ α} {k : α → Er ⊕ β} {b : β} (h : eb x k = .inr b) : ∃ a, x = .inr a ∧ k a = .inr b := by
  cases x with
  | inl e => cases h
  | inr a => exact ⟨a, rfl, h⟩
/-- each part goes on by a token at least -/
theorem pNum_i {τ : PT} {u v x : Int} {i j : Nat} (h : pNum τ u v i = .inr (x, j)) : j = i + 1 := by
  unfold pNum at h
  by_cases c : τ 0 i = 2
  · rw [if_pos c] at h
    by_cases d : u ≤ τ 3 i ∧ τ 3 i ≤ v
    · rw [if_pos d] at h; cases h; rfl
    · rw [if_neg d] at h; cases h
  · rw [if_neg c] at h; cases h
theorem c_letter {D : zD} {T : zT} {N : Nat} {h : zH} {Q : zR → Prop} (hT : hTab T) (hO : vOK T) (x : Int) (k : Q (h, some (0, lt x))) : vP D T N 50 0 h [some (0, x), none] [] Q := by
  have hz : ((zlen D 4 : Nat) : Int) = 5 := congrArg Int.ofNat (by decide +kernel : (zTx 4).length = 5)
  have ha : ∀ j, zat D 4 j = (zTx 4).getD j 0 := fun j => rfl
  have a0 : (zTx 4).getD 0 0 = 112 := by decide +kernel
  have a1 : (zTx 4).getD 1 0 = 114 := by decide +kernel
  have a2 : (zTx 4).getD 2 0 = 104 := by decide +kernel
  have a3 : (zTx 4).getD 3 0 = 119 := by decide +kernel
  have a4 : (zTx 4).getD 4 0 = 102 := by decide +kernel
  refine vP_hv (fun hv => q_lto0 hT hO x hv ?_)
  refine vP_loop (fun h' l => h' = h ∧ ∃ j : Nat, l = [some (0, x), some (0, (j : Int))] ∧ j ≤ 5 ∧ ∀ y, y < j → (zTx 4).getD y 0 ≠ x) ?_ N _ _ ⟨rfl, 0, rfl, by decide, fun y hy => absurd hy (by omega)⟩
  rintro N h' l ⟨rfl, j, rfl, hj, hy⟩ ih
  have ej : ((j : Int)).toNat = j := Int.toNat_natCast j
  refine vP_hv (fun hv => q_lto1 hT hO x j hv ⟨by omega, by omega⟩ ?_ ?_ ?_)
  · intro c1 _ _ c2
    rw [hz] at c1
    rw [ej, ha] at c2
    have c1 : j < 5 := by omega
    have y0 := hy 0
    have y1 := hy 1
    have y2 := hy 2
    have y3 := hy 3
    rw [a0] at y0; rw [a1] at y1; rw [a2] at y2; rw [a3] at y3
    have el : lt x = (j : Int) := by
      unfold lt
      match j, c1, c2 with
      | 0, _, c2 => rw [a0] at c2; omega
      | 1, _, c2 => rw [a1] at c2; omega
      | 2, _, c2 => rw [a2] at c2; omega
      | 3, _, c2 => rw [a3] at c2; omega
      | 4, _, c2 => rw [a4] at c2; omega
    rw [el] at k
    exact k
  · intro c1 _ _ c2
    rw [hz] at c1
    rw [ej, ha] at c2
    refine ih _ _ ⟨rfl, j + 1, rfl, by omega, fun y hy' => ?_⟩
    by_cases e : y = j
    · rw [e]; exact c2
    · exact hy y (by omega)
  · intro c1
    rw [hz] at c1
    have e5 : j = 5 := by omega
    subst e5
    have y0 := hy 0 (by decide)
    have y1 := hy 1 (by decide)
    have y2 := hy 2 (by decide)
    have y3 := hy 3 (by decide)
    have y4 := hy 4 (by decide)
    rw [a0] at y0; rw [a1] at y1; rw [a2] at y2; rw [a3] at y3; rw [a4] at y4
    have el : lt x = -1 := by
      unfold lt
      omega
    rw [el] at k
    exact k
theorem TXc.e {B : Nat → Int} {n : Nat} {h h' : zH} (f : ∀ q, h' 11 q = h 11 q) (hx : TXc B n h) : TXc B n h' := ⟨hx.1, fun q hq => (f q).trans (hx.2 q hq)⟩
theorem Rw.eq {B : Nat → Int} {n j : Nat} {h : zH} (a : Rw B n j h) : ∃ k s e v, TS B n j k s e ∧ VC B k s e v ∧ (h 12 j).2 = k ∧ (h 13 j).2 = (s : Int) ∧ (h 14 j).2 = (e : Int) ∧ (h 15 j).2 = v := by
  obtain ⟨k, s, e, v, a1, a2, a3, a4, a5, a6⟩ := a
  exact ⟨k, s, e, v, a1, a2, congrArg Prod.snd a3, congrArg Prod.snd a4, congrArg Prod.snd a5, congrArg Prod.snd a6⟩
/-- the table that beginText leaves -/
def τT (B : Nat → Int) (h : zH) : PT := fun a j => match a with
  | 0 => (h 12 j).2
  | 1 => (h 13 j).2
  | 2 => (h 14 j).2
  | 3 => (h 15 j).2
  | 4 => wv B (h 13 j).2.toNat ((h 14 j).2.toNat - (h 13 j).2.toNat)
  | a => lt (B ((h 13 j).2.toNat + (a - 10)))
theorem cx_begin {D : zD} {T : zT} {N : Nat} {h : zH} {Q : zR → Prop} {B : Nat → Int} {n : Nat} (hT : hTab T) (hO : vOK T) (hx : TXc B n h) (hn : (n : Int) ≤ (h 10 1).2) (k : ∀ g m τ, bF h g → Tks B n m τ → cX B n m τ 0 g → Q (g, none)) : vP D T N 102 0 h [some (2, 10), some (0, (n : Int)), none, none, none] [] Q := by
  refine vP_Q (fun r hr => ?_) (c_begin hT hO hx hn)
  obtain ⟨g, v⟩ := r
  obtain ⟨h1, m, h2, h3, h4, h5, h6⟩ := hr
  have h1 : v = none := h1
  subst h1
  have h2 : Txt B n m g := h2
  refine k g m (τT B g) h3 ⟨h2.1, fun j hj => ?_, h2.2.2⟩ ⟨⟨⟨hx.1, fun q hq => (h3 11 q (fun c => by omega)).trans (hx.2 q hq)⟩, h2, Nat.zero_le _, h4, h5, h6⟩, fun _ => rfl, fun _ => rfl, fun _ => rfl, fun _ => rfl⟩
  obtain ⟨k', s, e, v, a1, a2, a3, a4, a5, a6⟩ := (h2.2.1 j hj).eq
  refine ⟨k', s, e, v, a1, a2, a3, a4, a5, a6, ?_, fun x => ?_⟩
  · show wv B (g 13 j).2.toNat ((g 14 j).2.toNat - (g 13 j).2.toNat) = _
    rw [a4, a5, Int.toNat_natCast, Int.toNat_natCast]
  · match x with
    | x =>
      have e10 : τT B g (10 + x) j = lt (B ((g 13 j).2.toNat + (10 + x - 10))) := by
        rw [show 10 + x = x + 10 from Nat.add_comm _ _]
        rfl
      rw [e10, a4, Int.toNat_natCast, Nat.add_sub_cancel_left]
theorem pWord_i {τ : PT} {w : Int} {i j : Nat} (h : pWord τ w i = .inr j) : j = i + 1 := by
  unfold pWord at h
  by_cases c : bW τ w i ≠ 0
  · rw [if_pos c] at h; cases h; rfl
  · rw [if_neg c] at h; cases h
theorem pSg_i {τ : PT} {w : Int} {i j : Nat} (h : pSg τ w i = .inr j) : j = i + 1 := by
  unfold pSg at h
  by_cases c : bG τ w i ≠ 0
  · rw [if_pos c] at h; cases h; rfl
  · rw [if_neg c] at h; cases h
theorem pNum_j {τ : PT} {u v : Int} {i : Nat} {a : Int × Nat} (h : pNum τ u v i = .inr a) : a.2 = i + 1 := pNum_i (x := a.1) h
theorem pCell_i {τ : PT} {w r : Int} {i : Nat} {a : Int × Int × Nat} (h : pCell τ w r i = .inr a) : a.2.2 = i + 1 + 1 := by
  obtain ⟨b, h1, h⟩ := eb_i h
  obtain ⟨c, h2, h⟩ := eb_i h
  cases h
  have e1 := pNum_j h1
  have e2 := pNum_j h2
  show c.2 = _
  omega
theorem pBy_i {τ : PT} {c : Int} {i : Nat} {a : Int × Nat} (h : pBy τ c i = .inr a) : i ≤ a.2 := by
  unfold pBy at h
  by_cases d : bW τ 3 i ≠ 0
  · rw [if_pos d] at h
    have := pNum_j h
    omega
  · rw [if_neg d] at h
    cases h
    exact Nat.le_refl _
theorem pPart_i {τ P P' : PT} {i j : Nat} (h : pPart τ P i = .inr (P', j)) : i ≤ j := by
  unfold pPart at h
  by_cases c2 : bW τ 2 i ≠ 0
  · rw [if_pos c2] at h
    obtain ⟨a, h1, h⟩ := eb_i h
    obtain ⟨b, h2, h⟩ := eb_i h
    obtain ⟨c, h3, h⟩ := eb_i h
    cases h
    have e1 := pCell_i h1
    have e2 := pWord_i h2
    have e3 := pNum_j h3
    omega
  · rw [if_neg c2] at h
    by_cases c4 : bW τ 4 i ≠ 0
    · rw [if_pos c4] at h
      unfold pCopies at h
      by_cases c : P 0 9 ≠ 0
      · rw [if_pos c] at h; cases h
      · rw [if_neg c] at h
        obtain ⟨a, h1, h⟩ := eb_i h
        cases h
        have e1 := pNum_j h1
        omega
    · rw [if_neg c4] at h
      by_cases c5 : bW τ 5 i ≠ 0
      · rw [if_pos c5] at h
        unfold pCompany at h
        by_cases c : 6 ≤ P 0 3
        · rw [if_pos c] at h; cases h
        · rw [if_neg c] at h
          by_cases d : bN τ (i + 1) ≠ 0
          · rw [if_pos d] at h
            by_cases e : pIx (P 4) (τ 4 (i + 1)) (P 0 3).toNat 0 ≠ -1
            · rw [if_pos e] at h; cases h
            · rw [if_neg e] at h
              obtain ⟨a1, h1, h⟩ := eb_i h
              obtain ⟨a2, h2, h⟩ := eb_i h
              obtain ⟨a3, h3, h⟩ := eb_i h
              obtain ⟨a4, h4, h⟩ := eb_i h
              obtain ⟨a5, h5, h⟩ := eb_i h
              cases h
              have e1 := pWord_i h1
              have e2 := pCell_i h2
              have e3 := pWord_i h3
              have e4 := pCell_i h4
              have e5 := pBy_i h5
              omega
          · rw [if_neg d] at h; cases h
      · rw [if_neg c5] at h; cases h
theorem pWide_i {τ P P' : PT} {i j : Nat} (h : pWide τ P i = .inr (P', j)) : i < j := by
  obtain ⟨a, h1, h⟩ := eb_i h
  obtain ⟨b, h2, h⟩ := eb_i h
  obtain ⟨c, h3, h⟩ := eb_i h
  cases h
  have e1 := pWord_i h1
  have e2 := pNum_j h2
  have e3 := pSg_i h3
  omega
theorem pRows_i {τ P' : PT} {j : Nat} : ∀ {f : Nat} {P : PT} {i : Nat}, pRows τ f P i = .inr (P', j) → i ≤ j
  | 0, _, _, h => by cases h
  | f + 1, P, i, h => by
    unfold pRows at h
    by_cases c : bW τ 1 i ≠ 0
    · rw [if_pos c] at h
      obtain ⟨a, h1, h⟩ := eb_i h
      have e2 := pRows_i h
      obtain ⟨j', h3, h4⟩ := pS_i (a := a.1) (j := a.2) h1
      unfold pRow at h3
      by_cases d : 6 ≤ P 0 1
      · rw [if_pos d] at h3; cases h3
      · rw [if_neg d] at h3
        unfold pRowL at h3
        by_cases e : bL τ (P 0 0) (i + 1) ≠ 0 ∧ pAll τ (i + 1) (P 0 0).toNat = true
        · rw [if_pos e] at h3
          have h5 : i + 1 + 1 = j' := congrArg (fun x : PT × Nat => x.2) (Sum.inr.inj h3)
          omega
        · rw [if_neg e] at h3; cases h3
    · rw [if_neg c] at h
      by_cases d : 0 < P 0 1
      · rw [if_pos d] at h; cases h; exact Nat.le_refl _
      · rw [if_neg d] at h; cases h
end
