/-! TOKENS: what both readers see of a text. B: the bytes; n: how many -/
def iB (x : Int) : Int := if x = 10 ∨ x = 32 then 1 else 0
def iL (x : Int) : Int := if 97 ≤ x ∧ x ≤ 122 then 1 else 0
def iD (x : Int) : Int := if 48 ≤ x ∧ x ≤ 57 then 1 else 0
def iC (x : Int) : Int := if x = 60 ∨ x = 62 ∨ x = 61 then 1 else 0
def iS (x : Int) : Int := if x = 59 ∨ x = 60 ∨ x = 62 ∨ x = 61 then 1 else 0
/-- the bytes from p to s are of the kind, that at s isn't (or none is there) -/
def Rn (f : Int → Int) (B : Nat → Int) (n p s : Nat) : Prop := p ≤ s ∧ (∀ q, p ≤ q → q < s → q < n ∧ f (B q) ≠ 0) ∧ (s < n → f (B s) = 0)
theorem Rn.uniq {f : Int → Int} {B : Nat → Int} {n p s t : Nat} (a : Rn f B n p s) (b : Rn f B n p t) : s = t := by
  obtain ⟨a1, a2, a3⟩ := a
  obtain ⟨b1, b2, b3⟩ := b
  rcases Nat.lt_trichotomy s t with h | h | h
  · have := b2 s a1 h
    exact absurd (a3 this.1) this.2
  · exact h
  · have := a2 t b1 h
    exact absurd (b3 this.1) this.2
theorem Rn.le {f : Int → Int} {B : Nat → Int} {n p s : Nat} (a : Rn f B n p s) (hp : p ≤ n) : s ≤ n := by
  by_cases h : s ≤ p
  · omega
  · have := (a.2.1 (s - 1) (by omega) (by omega)).1
    omega
theorem Rn.lt {f : Int → Int} {B : Nat → Int} {n p s : Nat} (a : Rn f B n p s) (hp : p < n) (hf : f (B p) ≠ 0) : p < s := by
  rcases Nat.lt_or_ge p s with h | h
  · exact h
  · have e : s = p := Nat.le_antisymm h a.1
    subst e
    exact absurd (a.2.2 hp) hf
/-- the token that begins at p or behind: its kind (0 the end, 1 a word, 2 a number, 3 a sign, 4 none), from s to e -/
def Tk (B : Nat → Int) (n p : Nat) (k : Int) (s e : Nat) : Prop := Rn iB B n p s ∧ ((n ≤ s ∧ k = 0 ∧ e = s) ∨ (s < n ∧ ((iL (B s) ≠ 0 ∧ k = 1 ∧ Rn iL B n s e) ∨ (iL (B s) = 0 ∧ iD (B s) ≠ 0 ∧ k = (if e ≤ s + 4 then 2 else 4) ∧ Rn iD B n s e) ∨ (iL (B s) = 0 ∧ iD (B s) = 0 ∧ k = (if iS (B s) ≠ 0 then 3 else 4) ∧ e = s + 1))))
theorem Tk.uniq {B : Nat → Int} {n p : Nat} {k k' : Int} {s s' e e' : Nat} (a : Tk B n p k s e) (b : Tk B n p k' s' e') : k = k' ∧ s = s' ∧ e = e' := by
  obtain ⟨a1, a2⟩ := a
  obtain ⟨b1, b2⟩ := b
  have hs := a1.uniq b1
  subst hs
  rcases a2 with ⟨x1, x2, x3⟩ | ⟨x1, x⟩ <;> rcases b2 with ⟨y1, y2, y3⟩ | ⟨y1, y⟩
  · exact ⟨by rw [x2, y2], rfl, by rw [x3, y3]⟩
  · omega
  · omega
  · rcases x with ⟨u1, u2, u3⟩ | ⟨u1, u2, u3, u4⟩ | ⟨u1, u2, u3, u4⟩ <;> rcases y with ⟨v1, v2, v3⟩ | ⟨v1, v2, v3, v4⟩ | ⟨v1, v2, v3, v4⟩
    · exact ⟨by rw [u2, v2], rfl, u3.uniq v3⟩
    · exact absurd v1 u1
    · exact absurd v1 u1
    · exact absurd u1 v1
    · have he := u4.uniq v4
      subst he
      exact ⟨by rw [u3, v3], rfl, rfl⟩
    · exact absurd v2 u2
    · exact absurd u1 v1
    · exact absurd u2 v2
    · exact ⟨by rw [u3, v3], rfl, by rw [u4, v4]⟩
theorem Tk.se {B : Nat → Int} {n p : Nat} {k : Int} {s e : Nat} (a : Tk B n p k s e) (hp : p ≤ n) : p ≤ s ∧ s ≤ n ∧ s ≤ e ∧ e ≤ n ∧ (k ≠ 0 → s < e) := by
  obtain ⟨a1, a2⟩ := a
  have h1 := a1.1
  have h2 := a1.le hp
  rcases a2 with ⟨x1, x2, x3⟩ | ⟨x1, ⟨u1, u2, u3⟩ | ⟨u1, u2, u3, u4⟩ | ⟨u1, u2, u3, u4⟩⟩
  · exact ⟨h1, h2, by omega, by omega, fun h => absurd x2 h⟩
  · exact ⟨h1, h2, u3.1, u3.le h2, fun _ => u3.lt x1 u1⟩
  · exact ⟨h1, h2, u4.1, u4.le h2, fun _ => u4.lt x1 u2⟩
  · exact ⟨h1, h2, by omega, by omega, fun _ => by omega⟩
/-- a number's digits; a word's letters, five bits each -/
def nv (B : Nat → Int) (s : Nat) : Nat → Int
  | 0 => 0
  | l + 1 => 10 * nv B s l + (B (s + l) - 48)
def pv (B : Nat → Int) (s : Nat) : Nat → Int
  | 0 => 0
  | l + 1 => 32 * pv B s l + (B (s + l) - 96)
theorem iD_ne {x : Int} (h : iD x ≠ 0) : 48 ≤ x ∧ x ≤ 57 := by
  unfold iD at h
  by_cases c : 48 ≤ x ∧ x ≤ 57
  · exact c
  · rw [if_neg c] at h; exact absurd rfl h
theorem iL_ne {x : Int} (h : iL x ≠ 0) : 97 ≤ x ∧ x ≤ 122 := by
  unfold iL at h
  by_cases c : 97 ≤ x ∧ x ≤ 122
  · exact c
  · rw [if_neg c] at h; exact absurd rfl h
theorem p10_le : ∀ l, l < 5 → (10 : Int) ^ l ≤ 10000 := by decide +kernel
theorem p32_le : ∀ l, l < 9 → (32 : Int) ^ l ≤ 1099511627776 := by decide +kernel
theorem nv_bd {B : Nat → Int} {s : Nat} : ∀ {l : Nat}, (∀ q, s ≤ q → q < s + l → 48 ≤ B q ∧ B q ≤ 57) → 0 ≤ nv B s l ∧ nv B s l + 1 ≤ (10 : Int) ^ l
  | 0, _ => ⟨Int.le_refl _, (by decide : (0 : Int) + 1 ≤ (10 : Int) ^ 0)⟩
  | l + 1, h => by
    have ih := nv_bd (l := l) (fun q h1 h2 => h q h1 (by omega))
    have d := h (s + l) (by omega) (by omega)
    show 0 ≤ 10 * nv B s l + (B (s + l) - 48) ∧ 10 * nv B s l + (B (s + l) - 48) + 1 ≤ (10 : Int) ^ (l + 1)
    rw [Int.pow_succ]
    omega
theorem pv_bd {B : Nat → Int} {s : Nat} : ∀ {l : Nat}, (∀ q, s ≤ q → q < s + l → 97 ≤ B q ∧ B q ≤ 122) → 0 ≤ pv B s l ∧ pv B s l + 1 ≤ (32 : Int) ^ l
  | 0, _ => ⟨Int.le_refl _, (by decide : (0 : Int) + 1 ≤ (32 : Int) ^ 0)⟩
  | l + 1, h => by
    have ih := pv_bd (l := l) (fun q h1 h2 => h q h1 (by omega))
    have d := h (s + l) (by omega) (by omega)
    show 0 ≤ 32 * pv B s l + (B (s + l) - 96) ∧ 32 * pv B s l + (B (s + l) - 96) + 1 ≤ (32 : Int) ^ (l + 1)
    rw [Int.pow_succ]
    omega
/-- a word's letters as one number; -1 of a long word -/
def wv (B : Nat → Int) (s l : Nat) : Int := if l ≤ 8 then pv B s l else -1
theorem wv_bd {B : Nat → Int} {s l : Nat} (h : ∀ q, s ≤ q → q < s + l → 97 ≤ B q ∧ B q ≤ 122) : -1 ≤ wv B s l ∧ wv B s l ≤ 1099511627776 := by
  unfold wv
  by_cases c : l ≤ 8
  · rw [if_pos c]
    have := pv_bd h
    have := p32_le l (by omega)
    omega
  · rw [if_neg c]
    omega
/-! the words that are kept -/
def RW : List (List Int) := [[119, 105, 100, 101], [114, 111, 119], [114, 105, 115, 101], [98, 121], [99, 111, 112, 105, 101, 115], [99, 111, 109, 112, 97, 110, 121], [97, 116], [116, 111], [98, 105, 116, 101], [109, 111, 117, 108, 100], [104, 111, 110, 101, 121], [115, 116, 101, 97, 109], [109, 111, 117, 115, 101], [109, 97, 114, 99, 104], [104, 111, 109, 101], [119, 104, 101, 110], [101, 97, 116, 101, 110], [97, 114, 114, 105, 118, 101, 115], [99, 114, 117, 109, 98, 115], [108, 111, 111, 112], [101, 110, 100], [115, 116, 111, 112]]
def Mw (B : Nat → Int) (s e : Nat) (l : List Int) : Prop := e = s + l.length ∧ ∀ j, j < l.length → B (s + j) = l.getD j 0
def RI (B : Nat → Int) (s e : Nat) (v : Int) : Prop := (∃ (w : Nat) (l : List Int), RW[w]? = some l ∧ v = (w : Int) ∧ Mw B s e l) ∨ (v = -1 ∧ ∀ l ∈ RW, ¬ Mw B s e l)
-- the place of each byte of the row of words: which word, where in it
def RWp : List (Nat × Nat) := (RW.zipIdx.map fun x => (List.range (x.1.length + 1)).map fun o => (x.2, o)).flatten
def RWc (i : Nat) : Bool := match RWp[i]? with
  | some q => (match RW[q.1]? with
    | some l => (decide ((zTx 3).getD i 0 = 32) && (decide (q.2 = l.length) && (decide (i = 117) || decide (RWp[i + 1]? = some (q.1 + 1, 0))))) || (decide ((zTx 3).getD i 0 ≠ 32) && (decide (q.2 < l.length) && (decide (l.getD q.2 0 = (zTx 3).getD i 0) && decide (RWp[i + 1]? = some (q.1, q.2 + 1)))))
    | none => false)
  | none => false
theorem RWp_ok : (List.range 118).all RWc = true := by decide +kernel
theorem RWp_last : RWp[117]? = some (21, 4) := by decide +kernel
theorem RWp_at {i w o : Nat} (hi : i < 118) (h1 : RWp[i]? = some (w, o)) : ∃ l, RW[w]? = some l ∧ (((zTx 3).getD i 0 = 32 ∧ o = l.length ∧ (i = 117 ∨ RWp[i + 1]? = some (w + 1, 0))) ∨ ((zTx 3).getD i 0 ≠ 32 ∧ o < l.length ∧ l.getD o 0 = (zTx 3).getD i 0 ∧ RWp[i + 1]? = some (w, o + 1))) := by
  have h := List.all_eq_true.mp RWp_ok i (List.mem_range.mpr hi)
  unfold RWc at h
  rw [h1] at h
  cases hl : RW[w]? with
  | none =>
    have h : (match RW[w]? with
      | some l => (decide ((zTx 3).getD i 0 = 32) && (decide (o = l.length) && (decide (i = 117) || decide (RWp[i + 1]? = some (w + 1, 0))))) || (decide ((zTx 3).getD i 0 ≠ 32) && (decide (o < l.length) && (decide (l.getD o 0 = (zTx 3).getD i 0) && decide (RWp[i + 1]? = some (w, o + 1)))))
      | none => false) = true := h
    rw [hl] at h
    cases h
  | some l =>
    have h : (match RW[w]? with
      | some l => (decide ((zTx 3).getD i 0 = 32) && (decide (o = l.length) && (decide (i = 117) || decide (RWp[i + 1]? = some (w + 1, 0))))) || (decide ((zTx 3).getD i 0 ≠ 32) && (decide (o < l.length) && (decide (l.getD o 0 = (zTx 3).getD i 0) && decide (RWp[i + 1]? = some (w, o + 1)))))
      | none => false) = true := h
    rw [hl] at h
    have h : ((decide ((zTx 3).getD i 0 = 32) && (decide (o = l.length) && (decide (i = 117) || decide (RWp[i + 1]? = some (w + 1, 0))))) || (decide ((zTx 3).getD i 0 ≠ 32) && (decide (o < l.length) && (decide (l.getD o 0 = (zTx 3).getD i 0) && decide (RWp[i + 1]? = some (w, o + 1)))))) = true := h
    rw [Bool.or_eq_true, Bool.and_eq_true, Bool.and_eq_true, Bool.or_eq_true, Bool.and_eq_true, Bool.and_eq_true, Bool.and_eq_true, decide_eq_true_eq, decide_eq_true_eq, decide_eq_true_eq, decide_eq_true_eq, decide_eq_true_eq, decide_eq_true_eq, decide_eq_true_eq, decide_eq_true_eq] at h
    exact ⟨l, rfl, h⟩
theorem RWp_len : RWp.length = 118 ∧ (zTx 3).length = 118 ∧ RW.length = 22 := by decide +kernel
