/-! WORDS: by their index, and as one number -/
theorem pv_inj {B C : Nat → Int} {s t : Nat} : ∀ {l m : Nat}, (∀ q, s ≤ q → q < s + l → 97 ≤ B q ∧ B q ≤ 122) → (∀ q, t ≤ q → q < t + m → 97 ≤ C q ∧ C q ≤ 122) → pv B s l = pv C t m → l = m ∧ ∀ j, j < l → B (s + j) = C (t + j)
  | 0, 0, _, _, _ => ⟨rfl, fun j h => absurd h (by omega)⟩
  | 0, m + 1, _, hc, e => by
    have b := pv_bd (l := m) (fun q h1 h2 => hc q h1 (by omega))
    have d := hc (t + m) (by omega) (by omega)
    have e : 0 = 32 * pv C t m + (C (t + m) - 96) := e
    omega
  | l + 1, 0, hb, _, e => by
    have b := pv_bd (l := l) (fun q h1 h2 => hb q h1 (by omega))
    have d := hb (s + l) (by omega) (by omega)
    have e : 32 * pv B s l + (B (s + l) - 96) = 0 := e
    omega
  | l + 1, m + 1, hb, hc, e => by
    have e : 32 * pv B s l + (B (s + l) - 96) = 32 * pv C t m + (C (t + m) - 96) := e
    have d1 := hb (s + l) (by omega) (by omega)
    have d2 := hc (t + m) (by omega) (by omega)
    have e1 : pv B s l = pv C t m := by omega
    have e2 : B (s + l) = C (t + m) := by omega
    obtain ⟨h1, h2⟩ := pv_inj (l := l) (m := m) (fun q g1 g2 => hb q g1 (by omega)) (fun q g1 g2 => hc q g1 (by omega)) e1
    subst h1
    refine ⟨rfl, fun j hj => ?_⟩
    by_cases c : j = l
    · rw [c]; exact e2
    · exact h2 j (by omega)
theorem pv_congr {B C : Nat → Int} {s t : Nat} : ∀ {k : Nat}, (∀ j, j < k → B (s + j) = C (t + j)) → pv B s k = pv C t k
  | 0, _ => rfl
  | k + 1, h => by
    show 32 * pv B s k + (B (s + k) - 96) = 32 * pv C t k + (C (t + k) - 96)
    rw [pv_congr (fun j hj => h j (by omega)), h k (by omega)]
def pw (l : List Int) : Int := pv (fun j => l.getD j 0) 0 l.length
def RWk (l : List Int) : Bool := decide (l.length ≤ 8) && (List.range l.length).all (fun j => decide (97 ≤ l.getD j 0) && decide (l.getD j 0 ≤ 122))
theorem RW_ok : RW.all RWk = true := by decide +kernel
theorem RW_at {l : List Int} (hl : l ∈ RW) : l.length ≤ 8 ∧ ∀ j, j < l.length → 97 ≤ l.getD j 0 ∧ l.getD j 0 ≤ 122 := by
  have h := List.all_eq_true.mp RW_ok l hl
  unfold RWk at h
  rw [Bool.and_eq_true, decide_eq_true_eq] at h
  refine ⟨h.1, fun j hj => ?_⟩
  have g : (decide (97 ≤ l.getD j 0) && decide (l.getD j 0 ≤ 122)) = true := List.all_eq_true.mp h.2 j (List.mem_range.mpr hj)
  rw [Bool.and_eq_true, decide_eq_true_eq, decide_eq_true_eq] at g
  exact g
theorem word_iff {B : Nat → Int} {n s e : Nat} {l : List Int} (hl : l ∈ RW) (hR : Rn iL B n s e) : wv B s (e - s) = pw l ↔ Mw B s e l := by
  have hse := hR.1
  obtain ⟨h8, hlt⟩ := RW_at hl
  have hB : ∀ q, s ≤ q → q < s + (e - s) → 97 ≤ B q ∧ B q ≤ 122 := fun q h1 h2 => iL_ne (hR.2.1 q h1 (by omega)).2
  have hC : ∀ q, 0 ≤ q → q < 0 + l.length → 97 ≤ l.getD q 0 ∧ l.getD q 0 ≤ 122 := fun q _ h2 => hlt q (by omega)
  constructor
  · intro h
    unfold wv at h
    by_cases c : e - s ≤ 8
    · rw [if_pos c] at h
      obtain ⟨h1, h2⟩ := pv_inj (t := 0) hB hC h
      refine ⟨by omega, fun j hj => ?_⟩
      have := h2 j (by omega)
      rw [Nat.zero_add] at this
      exact this
    · rw [if_neg c] at h
      have b := pv_bd hC
      unfold pw at h
      omega
  · rintro ⟨h1, h2⟩
    unfold wv
    rw [if_pos (by omega), show e - s = l.length from by omega]
    exact pv_congr (fun j hj => by rw [Nat.zero_add]; exact h2 j hj)
def RWd : Bool := (List.range 22).all fun i => (List.range 22).all fun j => decide (i = j) || decide ((RW.map pw)[i]? ≠ (RW.map pw)[j]?)
theorem RWd_ok : RWd = true := by decide +kernel
theorem RI_word {B : Nat → Int} {n s e w : Nat} {v : Int} {l : List Int} (hR : Rn iL B n s e) (hv : RI B s e v) (hw : RW[w]? = some l) : v = (w : Int) ↔ Mw B s e l := by
  have hwl := (List.getElem?_eq_some_iff.mp hw).1
  have hln := RWp_len.2.2
  constructor
  · intro h
    rcases hv with ⟨w', l', g1, g2, g3⟩ | ⟨g1, _⟩
    · have e1 : w' = w := by omega
      rw [e1, hw] at g1
      cases g1
      exact g3
    · omega
  · intro h
    rcases hv with ⟨w', l', g1, g2, g3⟩ | ⟨_, g2⟩
    · have hw' := (List.getElem?_eq_some_iff.mp g1).1
      have p1 := (word_iff (List.mem_of_getElem? hw) hR).mpr h
      have p2 := (word_iff (List.mem_of_getElem? g1) hR).mpr g3
      have d := RWd_ok
      unfold RWd at d
      have d1 : ((List.range 22).all fun j => decide (w' = j) || decide ((RW.map pw)[w']? ≠ (RW.map pw)[j]?)) = true := List.all_eq_true.mp d w' (List.mem_range.mpr (by omega))
      have d2 : (decide (w' = w) || decide ((RW.map pw)[w']? ≠ (RW.map pw)[w]?)) = true := List.all_eq_true.mp d1 w (List.mem_range.mpr (by omega))
      rw [Bool.or_eq_true, decide_eq_true_eq, decide_eq_true_eq] at d2
      rcases d2 with c | c
      · rw [g2, c]
      · refine absurd ?_ c
        rw [List.getElem?_map, List.getElem?_map, g1, hw]
        show some (pw l') = some (pw l)
        rw [← p1, ← p2]
    · exact absurd h (g2 l (List.mem_of_getElem? hw))
/-- what one side sees by index, the other sees as a number -/
theorem word_same {B : Nat → Int} {n s e w : Nat} {v : Int} {l : List Int} (hR : Rn iL B n s e) (hv : RI B s e v) (hw : RW[w]? = some l) : v = (w : Int) ↔ wv B s (e - s) = pw l := (RI_word hR hv hw).trans (word_iff (List.mem_of_getElem? hw) hR).symm
