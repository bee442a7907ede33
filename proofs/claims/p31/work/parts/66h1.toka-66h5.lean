section
/-! TOKENS: what both readers see of a text. B: the bytes; n: how many -/
def iB (x : Int) : Int := if x = 10 ∨ x = 32 then 1 else 0
def iL (x : Int) : Int := if 97 ≤ x ∧ x ≤ 122 then 1 else 0
def iD (x : Int) : Int := if 48 ≤ x ∧ x ≤ 57 then 1 else 0
def iC (x : Int) : Int := if x = 60 ∨ x = 62 ∨ x = 61 then 1 else 0
def iS (x : Int) : Int := if x = 59 ∨ x = 60 ∨ x = 62 ∨ x = 61 then 1 else 0
/-- the bytes from p to s are of the kind, that at s isn't (or none is there) -/
def Rn (f : Int → Int) (B : Nat → Int) (n p s : Nat) : Prop := p ≤ s ∧ (∀ q, p ≤ q → q < s → q < n ∧ f (B q) ≠ 0) ∧ (s < n → f (B s) = 0)
theorem Rn.uniq {f : Int → Int} {B : Nat → Int} {n p s t : Nat} (a : Rn f B n p s) (b : Rn f B n p t) : s = t := by
  obtain ⟨a1, a2, a3⟩ := a
  obtain ⟨b1, b2, b3⟩ := b
  rcases Nat.lt_trichotomy s t with h | h | h
  · have := b2 s a1 h
    exact absurd (a3 this.1) this.2
  · exact h
  · have := a2 t b1 h
    exact absurd (b3 this.1) this.2
theorem Rn.le {f : Int → Int} {B : Nat → Int} {n p s : Nat} (a : Rn f B n p s) (hp : p ≤ n) : s ≤ n := by
  by_cases h : s ≤ p
  · omega
  · have := (a.2.1 (s - 1) (by omega) (by omega)).1
    omega
theorem Rn.lt {f : Int → Int} {B : Nat → Int} {n p s : Nat} (a : Rn f B n p s) (hp : p < n) (hf : f (B p) ≠ 0) : p < s := by
  rcases Nat.lt_or_ge p s with h | h
  · exact h
  · have e : s = p := Nat.le_antisymm h a.1
    subst e
    exact absurd (a.2.2 hp) hf
/-- the token that begins at p or behind: its kind (0 the end, 1 a word, 2 a number, 3 a sign, 4 none), from s to e -/
def Tk (B : Nat → Int) (n p : Nat) (k : Int) (s e : Nat) : Prop := Rn iB B n p s ∧ ((n ≤ s ∧ k = 0 ∧ e = s) ∨ (s < n ∧ ((iL (B s) ≠ 0 ∧ k = 1 ∧ Rn iL B n s e) ∨ (iL (B s) = 0 ∧ iD (B s) ≠ 0 ∧ k = (if e ≤ s + 4 then 2 else 4) ∧ Rn iD B n s e) ∨ (iL (B s) = 0 ∧ iD (B s) = 0 ∧ k = (if iS (B s) ≠ 0 then 3 else 4) ∧ e = s + 1))))
theorem Tk.uniq {B : Nat → Int} {n p : Nat} {k k' : Int} {s s' e e' : Nat} (a : Tk B n p k s e) (b : Tk B n p k' s' e') : k = k' ∧ s = s' ∧ e = e' := by
  obtain ⟨a1, a2⟩ := a
  obtain ⟨b1, b2⟩ := b
  have hs := a1.uniq b1
  subst hs
  rcases a2 with ⟨x1, x2, x3⟩ | ⟨x1, x⟩ <;> rcases b2 with ⟨y1, y2, y3⟩ | ⟨y1, y⟩
  · exact ⟨by rw [x2, y2], rfl, by rw [x3, y3]⟩
  · omega
  · omega
  · rcases x with ⟨u1, u2, u3⟩ | ⟨u1, u2, u3, u4⟩ | ⟨u1, u2, u3, u4⟩ <;> rcases y with ⟨v1, v2, v3⟩ | ⟨v1, v2, v3, v4⟩ | ⟨v1, v2, v3, v4⟩
    · exact ⟨by rw [u2, v2], rfl, u3.uniq v3⟩
    · exact absurd v1 u1
    · exact absurd v1 u1
    · exact absurd u1 v1
    · have he := u4.uniq v4
      subst he
      exact ⟨by rw [u3, v3], rfl, rfl⟩
    · exact absurd v2 u2
    · exact absurd u1 v1
    · exact absurd u2 v2
    · exact ⟨by rw [u3, v3], rfl, by rw [u4, v4]⟩
theorem Tk.se {B : Nat → Int} {n p : Nat} {k : Int} {s e : Nat} (a : Tk B n p k s e) (hp : p ≤ n) : p ≤ s ∧ s ≤ n ∧ s ≤ e ∧ e ≤ n ∧ (k ≠ 0 → s < e) := by
  obtain ⟨a1, a2⟩ := a
  have h1 := a1.1
  have h2 := a1.le hp
  rcases a2 with ⟨x1, x2, x3⟩ | ⟨x1, ⟨u1, u2, u3⟩ | ⟨u1, u2, u3, u4⟩ | ⟨u1, u2, u3, u4⟩⟩
  · exact ⟨h1, h2, by omega, by omega, fun h => absurd x2 h⟩
  · exact ⟨h1, h2, u3.1, u3.le h2, fun _ => u3.lt x1 u1⟩
  · exact ⟨h1, h2, u4.1, u4.le h2, fun _ => u4.lt x1 u2⟩
  · exact ⟨h1, h2, by omega, by omega, fun _ => by omega⟩
/-- a number's digits; a word's letters, five bits each -/
def nv (B : Nat → Int) (s : Nat) : Nat → Int
  | 0 => 0
  | l + 1 => 10 * nv B s l + (B (s + l) - 48)
def pv (B : Nat → Int) (s : Nat) : Nat → Int
  | 0 => 0
  | l + 1 => 32 * pv B s l + (B (s + l) - 96)
theorem iD_ne {x : Int} (h : iD x ≠ 0) : 48 ≤ x ∧ x ≤ 57 := by
  unfold iD at h
  by_cases c : 48 ≤ x ∧ x ≤ 57
  · exact c
  · rw [if_neg c] at h; exact absurd rfl h
theorem iL_ne {x : Int} (h : iL x ≠ 0) : 97 ≤ x ∧ x ≤ 122 := by
  unfold iL at h
  by_cases c : 97 ≤ x ∧ x ≤ 122
  · exact c
  · rw [if_neg c] at h; exact absurd rfl h
theorem p10_le : ∀ l, l < 5 → (10 : Int) ^ l ≤ 10000 := by decide +kernel
theorem p32_le : ∀ l, l < 9 → (32 : Int) ^ l ≤ 1099511627776 := by decide +kernel
theorem nv_bd {B : Nat → Int} {s : Nat} : ∀ {l : Nat}, (∀ q, s ≤ q → q < s + l → 48 ≤ B q ∧ B q ≤ 57) → 0 ≤ nv B s l ∧ nv B s l + 1 ≤ (10 : Int) ^ l
  | 0, _ => ⟨Int.le_refl _, (by decide : (0 : Int) + 1 ≤ (10 : Int) ^ 0)⟩
  | l + 1, h => by
    have ih := nv_bd (l := l) (fun q h1 h2 => h q h1 (by omega))
    have d := h (s + l) (by omega) (by omega)
    show 0 ≤ 10 * nv B s l + (B (s + l) - 48) ∧ 10 * nv B s l + (B (s + l) - 48) + 1 ≤ (10 : Int) ^ (l + 1)
    rw [Int.pow_succ]
    omega
theorem pv_bd {B : Nat → Int} {s : Nat} : ∀ {l : Nat}, (∀ q, s ≤ q → q < s + l → 97 ≤ B q ∧ B q ≤ 122) → 0 ≤ pv B s l ∧ pv B s l + 1 ≤ (32 : Int) ^ l
  | 0, _ => ⟨Int.le_refl _, (by decide : (0 : Int) + 1 ≤ (32 : Int) ^ 0)⟩
  | l + 1, h => by
    have ih := pv_bd (l := l) (fun q h1 h2 => h q h1 (by omega))
    have d := h (s + l) (by omega) (by omega)
    show 0 ≤ 32 * pv B s l + (B (s + l) - 96) ∧ 32 * pv B s l + (B (s + l) - 96) + 1 ≤ (32 : Int) ^ (l + 1)
    rw [Int.pow_succ]
    omega
/-- a word's letters as one number; -1 of a long word -/
def wv (B : Nat → Int) (s l : Nat) : Int := if l ≤ 8 then pv B s l else -1
theorem wv_bd {B : Nat → Int} {s l : Nat} (h : ∀ q, s ≤ q → q < s + l → 97 ≤ B q ∧ B q ≤ 122) : -1 ≤ wv B s l ∧ wv B s l ≤ 1099511627776 := by
  unfold wv
  by_cases c : l ≤ 8
  · rw [if_pos c]
    have := pv_bd h
    have := p32_le l (by omega)
    omega
  · rw [if_neg c]
    omega
/-! the words that are kept -/
def RW : List (List Int) := [[119, 105, 100, 101], [114, 111, 119], [114, 105, 115, 101], [98, 121], [99, 111, 112, 105, 101, 115], [99, 111, 109, 112, 97, 110, 121], [97, 116], [116, 111], [98, 105, 116, 101], [109, 111, 117, 108, 100], [104, 111, 110, 101, 121], [115, 116, 101, 97, 109], [109, 111, 117, 115, 101], [109, 97, 114, 99, 104], [104, 111, 109, 101], [119, 104, 101, 110], [101, 97, 116, 101, 110], [97, 114, 114, 105, 118, 101, 115], [99, 114, 117, 109, 98, 115], [108, 111, 111, 112], [101, 110, 100], [115, 116, 111, 112]]
def Mw (B : Nat → Int) (s e : Nat) (l : List Int) : Prop := e = s + l.length ∧ ∀ j, j < l.length → B (s + j) = l.getD j 0
def RI (B : Nat → Int) (s e : Nat) (v : Int) : Prop := (∃ (w : Nat) (l : List Int), RW[w]? = some l ∧ v = (w : Int) ∧ Mw B s e l) ∨ (v = -1 ∧ ∀ l ∈ RW, ¬ Mw B s e l)
-- the place of each byte of the row of words: which word, where in it
def RWp : List (Nat × Nat) := (RW.zipIdx.map fun x => (List.range (x.1.length + 1)).map fun o => (x.2, o)).flatten
def RWc (i : Nat) : Bool := match RWp[i]? with
  | some q => (match RW[q.1]? with
    | some l => (decide ((zTx 3).getD i 0 = 32) && (decide (q.2 = l.length) && (decide (i = 117) || decide (RWp[i + 1]? = some (q.1 + 1, 0))))) || (decide ((zTx 3).getD i 0 ≠ 32) && (decide (q.2 < l.length) && (decide (l.getD q.2 0 = (zTx 3).getD i 0) && decide (RWp[i + 1]? = some (q.1, q.2 + 1)))))
    | none => false)
  | none => false
theorem RWp_ok : (List.range 118).all RWc = true := by decide +kernel
theorem RWp_last : RWp[117]? = some (21, 4) := by decide +kernel
theorem RWp_at {i w o : Nat} (hi : i < 118) (h1 : RWp[i]? = some (w, o)) : ∃ l, RW[w]? = some l ∧ (((zTx 3).getD i 0 = 32 ∧ o = l.length ∧ (i = 117 ∨ RWp[i + 1]? = some (w + 1, 0))) ∨ ((zTx 3).getD i 0 ≠ 32 ∧ o < l.length ∧ l.getD o 0 = (zTx 3).getD i 0 ∧ RWp[i + 1]? = some (w, o + 1))) := by
  have h := List.all_eq_true.mp RWp_ok i (List.mem_range.mpr hi)
  unfold RWc at h
  rw [h1] at h
  cases hl : RW[w]? with
  | none =>
    have h : (match RW[w]? with
      | some l => (decide ((zTx 3).getD i 0 = 32) && (decide (o = l.length) && (decide (i = 117) || decide (RWp[i + 1]? = some (w + 1, 0))))) || (decide ((zTx 3).getD i 0 ≠ 32) && (decide (o < l.length) && (decide (l.getD o 0 = (zTx 3).getD i 0) && decide (RWp[i + 1]? = some (w, o + 1)))))
      | none => false) = true := h
    rw [hl] at h
    cases h
  | some l =>
    have h : (match RW[w]? with
      | some l => (decide ((zTx 3).getD i 0 = 32) && (decide (o = l.length) && (decide (i = 117) || decide (RWp[i + 1]? = some (w + 1, 0))))) || (decide ((zTx 3).getD i 0 ≠ 32) && (decide (o < l.length) && (decide (l.getD o 0 = (zTx 3).getD i 0) && decide (RWp[i + 1]? = some (w, o + 1)))))
      | none => false) = true := h
    rw [hl] at h
    have h : ((decide ((zTx 3).getD i 0 = 32) && (decide (o = l.length) && (decide (i = 117) || decide (RWp[i + 1]? = some (w + 1, 0))))) || (decide ((zTx 3).getD i 0 ≠ 32) && (decide (o < l.length) && (decide (l.getD o 0 = (zTx 3).getD i 0) && decide (RWp[i + 1]? = some (w, o + 1)))))) = true := h
    rw [Bool.or_eq_true, Bool.and_eq_true, Bool.and_eq_true, Bool.or_eq_true, Bool.and_eq_true, Bool.and_eq_true, Bool.and_eq_true, decide_eq_true_eq, decide_eq_true_eq, decide_eq_true_eq, decide_eq_true_eq, decide_eq_true_eq, decide_eq_true_eq, decide_eq_true_eq, decide_eq_true_eq] at h
    exact ⟨l, rfl, h⟩
theorem RWp_len : RWp.length = 118 ∧ (zTx 3).length = 118 ∧ RW.length = 22 := by decide +kernel
end
section
/-! TOKENS: the bytes as the reference reads them -/
def vU (x : Int) : Int := if x < 0 then x + 256 else x
theorem vU_all : ∀ i : Fin 256, v32 3 ((i.val : Int) - 128) 255 = vU ((i.val : Int) - 128) := by decide +kernel
theorem vU_and {x : Int} (h1 : -128 ≤ x) (h2 : x ≤ 127) : v32 3 x 255 = vU x := by
  have h := vU_all ⟨(x + 128).toNat, by omega⟩
  have e : (((x + 128).toNat : Int) - 128) = x := by omega
  have h : v32 3 (((x + 128).toNat : Int) - 128) 255 = vU (((x + 128).toNat : Int) - 128) := h
  rw [e] at h
  exact h
theorem vU_nn {x : Int} (h : 0 ≤ x) : vU x = x := if_neg (by omega)
def lk (B : Nat → Int) (n : Nat) (p : Int) : Int := if 0 ≤ p ∧ p < (n : Int) then vU (B p.toNat) else 0
def BB (B : Nat → Int) (n : Nat) : Prop := n ≤ 900 ∧ ∀ q, q < n → -128 ≤ B q ∧ B q ≤ 127
def TXr (B : Nat → Int) (n : Nat) (h : zH) : Prop := h 121 9 = (0, (n : Int)) ∧ BB B n ∧ ∀ q, q < n → h 125 q = (0, B q)
theorem TXr.z {B : Nat → Int} {n : Nat} {h : zH} {k : Nat} {v : zV} (hk : k ≠ 9) (hx : TXr B n h) : TXr B n (zset h 121 k v) := ⟨(zset_ne (fun c => hk c.2.symm)).trans hx.1, hx.2.1, fun q hq => (zset_ne (fun c => absurd c.1 (by decide))).trans (hx.2.2 q hq)⟩
theorem lk_bd {B : Nat → Int} {n : Nat} (hb : BB B n) (p : Int) : 0 ≤ lk B n p ∧ lk B n p ≤ 255 := by
  unfold lk
  by_cases c : 0 ≤ p ∧ p < (n : Int)
  · rw [if_pos c]
    have := hb.2 p.toNat (by omega)
    unfold vU
    by_cases d : B p.toNat < 0
    · rw [if_pos d]; omega
    · rw [if_neg d]; omega
  · rw [if_neg c]; omega
theorem lk_in {B : Nat → Int} {n p : Nat} (hp : p < n) : lk B n (p : Int) = vU (B p) := by
  unfold lk
  rw [if_pos ⟨by omega, by omega⟩, Int.toNat_natCast]
theorem lk_out {B : Nat → Int} {n p : Nat} (hp : n ≤ p) : lk B n (p : Int) = 0 := if_neg (fun c => by omega)
theorem vU_of {f : Int → Int} (hf : ∀ x, 128 ≤ x → x ≤ 255 → f x = 0) (hg : ∀ x, -128 ≤ x → x < 0 → f x = 0) {x : Int} (h1 : -128 ≤ x) (h2 : x ≤ 127) : f (vU x) = f x := by
  unfold vU
  by_cases c : x < 0
  · rw [if_pos c, hf _ (by omega) (by omega), hg _ h1 c]
  · rw [if_neg c]
theorem iL_vU {x : Int} : -128 ≤ x → x ≤ 127 → iL (vU x) = iL x := vU_of (fun x h1 h2 => by unfold iL; exact if_neg (by omega)) (fun x h1 h2 => by unfold iL; exact if_neg (by omega))
theorem iD_vU {x : Int} : -128 ≤ x → x ≤ 127 → iD (vU x) = iD x := vU_of (fun x h1 h2 => by unfold iD; exact if_neg (by omega)) (fun x h1 h2 => by unfold iD; exact if_neg (by omega))
theorem iB_vU {x : Int} : -128 ≤ x → x ≤ 127 → iB (vU x) = iB x := vU_of (fun x h1 h2 => by unfold iB; exact if_neg (by omega)) (fun x h1 h2 => by unfold iB; exact if_neg (by omega))
theorem iS_vU {x : Int} : -128 ≤ x → x ≤ 127 → iS (vU x) = iS x := vU_of (fun x h1 h2 => by unfold iS; exact if_neg (by omega)) (fun x h1 h2 => by unfold iS; exact if_neg (by omega))
theorem lk_iff {f : Int → Int} (hf : ∀ x, -128 ≤ x → x ≤ 127 → f (vU x) = f x) (h0 : f 0 = 0) {B : Nat → Int} {n p : Nat} (hb : BB B n) : f (lk B n (p : Int)) ≠ 0 ↔ p < n ∧ f (B p) ≠ 0 := by
  rcases Nat.lt_or_ge p n with hp | hp
  · rw [lk_in hp, hf _ (hb.2 p hp).1 (hb.2 p hp).2]
    exact ⟨fun h => ⟨hp, h⟩, fun h => h.2⟩
  · rw [lk_out hp]
    exact ⟨fun h => absurd h0 h, fun h => absurd h.1 (by omega)⟩
theorem kL {B : Nat → Int} {n p : Nat} (hb : BB B n) : iL (lk B n (p : Int)) ≠ 0 ↔ p < n ∧ iL (B p) ≠ 0 := lk_iff (fun _ => iL_vU) (by decide) hb
theorem kD {B : Nat → Int} {n p : Nat} (hb : BB B n) : iD (lk B n (p : Int)) ≠ 0 ↔ p < n ∧ iD (B p) ≠ 0 := lk_iff (fun _ => iD_vU) (by decide) hb
theorem q_b_blank {D : zD} {T : zT} (hT : hTab T) (hO : vOK T) {N : Nat} {h : zH} {Q : zR → Prop} (x : Int)
    (k0 : (x = 10) → Q (h, some (0, 1)))
    (k1 : (x ≠ 10) → (x = 32) → Q (h, some (0, 1)))
    (k2 : (x ≠ 10) → (x ≠ 32) → Q (h, some (0, 0))) :
    vP D T N 107 0 h [some (0, x)] [] Q := by
  refine v_load (v := (0, x)) (hz_X8_isBlank hT _ _ rfl) rfl rfl ?_
  refine v_push (10) (hz_X8_isBlank hT _ _ rfl) rfl ?_
  refine v_ic (hz_X8_isBlank hT _ _ rfl) (fun hc1 => ?_) (fun hc1 => ?_)
  · have hc1 : x = 10 := hc1
    refine v_push (1) (hz_X8_isBlank hT _ _ rfl) rfl ?_
    refine v_goto (hz_X8_isBlank hT _ _ rfl) ?_
    refine v_ret (hz_X8_isBlank hT _ _ rfl) (Or.inl rfl) ?_
    exact k0 hc1
  · have hc1 : x ≠ 10 := hc1
    refine v_load (v := (0, x)) (hz_X8_isBlank hT _ _ rfl) rfl rfl ?_
    refine v_push (32) (hz_X8_isBlank hT _ _ rfl) rfl ?_
    refine v_ic (hz_X8_isBlank hT _ _ rfl) (fun hc2 => ?_) (fun hc2 => ?_)
    · have hc2 : x = 32 := hc2
      refine v_push (1) (hz_X8_isBlank hT _ _ rfl) rfl ?_
      refine v_goto (hz_X8_isBlank hT _ _ rfl) ?_
      refine v_ret (hz_X8_isBlank hT _ _ rfl) (Or.inl rfl) ?_
      exact k1 hc1 hc2
    · have hc2 : x ≠ 32 := hc2
      refine v_push (0) (hz_X8_isBlank hT _ _ rfl) rfl ?_
      refine v_ret (hz_X8_isBlank hT _ _ rfl) (Or.inl rfl) ?_
      exact k2 hc1 hc2
theorem b_blank {D : zD} {T : zT} (hT : hTab T) (hO : vOK T) {N : Nat} {h : zH} {Q : zR → Prop} (x : Int) (k : Q (h, some (0, iB x))) : vP D T N 107 0 h [some (0, x)] [] Q := by
  refine q_b_blank hT hO x ?_ ?_ ?_ <;> intros <;> first | (rw [show iB x = 1 from if_pos (by omega)] at k; exact k) | (rw [show iB x = 0 from if_neg (by omega)] at k; exact k)
theorem q_b_letter {D : zD} {T : zT} (hT : hTab T) (hO : vOK T) {N : Nat} {h : zH} {Q : zR → Prop} (x : Int)
    (k0 : (x < 97) → Q (h, some (0, 0)))
    (k1 : (97 ≤ x) → (122 < x) → Q (h, some (0, 0)))
    (k2 : (97 ≤ x) → (x ≤ 122) → Q (h, some (0, 1))) :
    vP D T N 111 0 h [some (0, x)] [] Q := by
  refine v_load (v := (0, x)) (hz_X8_isLetter hT _ _ rfl) rfl rfl ?_
  refine v_push (97) (hz_X8_isLetter hT _ _ rfl) rfl ?_
  refine v_ic (hz_X8_isLetter hT _ _ rfl) (fun hc1 => ?_) (fun hc1 => ?_)
  · have hc1 : x < 97 := hc1
    refine v_push (0) (hz_X8_isLetter hT _ _ rfl) rfl ?_
    refine v_ret (hz_X8_isLetter hT _ _ rfl) (Or.inl rfl) ?_
    exact k0 hc1
  · have hc1 : 97 ≤ x := Int.not_lt.mp hc1
    refine v_load (v := (0, x)) (hz_X8_isLetter hT _ _ rfl) rfl rfl ?_
    refine v_push (122) (hz_X8_isLetter hT _ _ rfl) rfl ?_
    refine v_ic (hz_X8_isLetter hT _ _ rfl) (fun hc2 => ?_) (fun hc2 => ?_)
    · have hc2 : 122 < x := hc2
      refine v_push (0) (hz_X8_isLetter hT _ _ rfl) rfl ?_
      refine v_ret (hz_X8_isLetter hT _ _ rfl) (Or.inl rfl) ?_
      exact k1 hc1 hc2
    · have hc2 : x ≤ 122 := Int.not_lt.mp hc2
      refine v_push (1) (hz_X8_isLetter hT _ _ rfl) rfl ?_
      refine v_goto (hz_X8_isLetter hT _ _ rfl) ?_
      refine v_ret (hz_X8_isLetter hT _ _ rfl) (Or.inl rfl) ?_
      exact k2 hc1 hc2
theorem b_letter {D : zD} {T : zT} (hT : hTab T) (hO : vOK T) {N : Nat} {h : zH} {Q : zR → Prop} (x : Int) (k : Q (h, some (0, iL x))) : vP D T N 111 0 h [some (0, x)] [] Q := by
  refine q_b_letter hT hO x ?_ ?_ ?_ <;> intros <;> first | (rw [show iL x = 1 from if_pos (by omega)] at k; exact k) | (rw [show iL x = 0 from if_neg (by omega)] at k; exact k)
theorem q_b_digit {D : zD} {T : zT} (hT : hTab T) (hO : vOK T) {N : Nat} {h : zH} {Q : zR → Prop} (x : Int)
    (k0 : (x < 48) → Q (h, some (0, 0)))
    (k1 : (48 ≤ x) → (57 < x) → Q (h, some (0, 0)))
    (k2 : (48 ≤ x) → (x ≤ 57) → Q (h, some (0, 1))) :
    vP D T N 109 0 h [some (0, x)] [] Q := by
  refine v_load (v := (0, x)) (hz_X8_isDigit hT _ _ rfl) rfl rfl ?_
  refine v_push (48) (hz_X8_isDigit hT _ _ rfl) rfl ?_
  refine v_ic (hz_X8_isDigit hT _ _ rfl) (fun hc1 => ?_) (fun hc1 => ?_)
  · have hc1 : x < 48 := hc1
    refine v_push (0) (hz_X8_isDigit hT _ _ rfl) rfl ?_
    refine v_ret (hz_X8_isDigit hT _ _ rfl) (Or.inl rfl) ?_
    exact k0 hc1
  · have hc1 : 48 ≤ x := Int.not_lt.mp hc1
    refine v_load (v := (0, x)) (hz_X8_isDigit hT _ _ rfl) rfl rfl ?_
    refine v_push (57) (hz_X8_isDigit hT _ _ rfl) rfl ?_
    refine v_ic (hz_X8_isDigit hT _ _ rfl) (fun hc2 => ?_) (fun hc2 => ?_)
    · have hc2 : 57 < x := hc2
      refine v_push (0) (hz_X8_isDigit hT _ _ rfl) rfl ?_
      refine v_ret (hz_X8_isDigit hT _ _ rfl) (Or.inl rfl) ?_
      exact k1 hc1 hc2
    · have hc2 : x ≤ 57 := Int.not_lt.mp hc2
      refine v_push (1) (hz_X8_isDigit hT _ _ rfl) rfl ?_
      refine v_goto (hz_X8_isDigit hT _ _ rfl) ?_
      refine v_ret (hz_X8_isDigit hT _ _ rfl) (Or.inl rfl) ?_
      exact k2 hc1 hc2
theorem b_digit {D : zD} {T : zT} (hT : hTab T) (hO : vOK T) {N : Nat} {h : zH} {Q : zR → Prop} (x : Int) (k : Q (h, some (0, iD x))) : vP D T N 109 0 h [some (0, x)] [] Q := by
  refine q_b_digit hT hO x ?_ ?_ ?_ <;> intros <;> first | (rw [show iD x = 1 from if_pos (by omega)] at k; exact k) | (rw [show iD x = 0 from if_neg (by omega)] at k; exact k)
theorem q_b_sign {D : zD} {T : zT} (hT : hTab T) (hO : vOK T) {N : Nat} {h : zH} {Q : zR → Prop} (x : Int)
    (k0 : (x = 59) → Q (h, some (0, 1)))
    (k1 : (x ≠ 59) → (x = 60) → Q (h, some (0, 1)))
    (k2 : (x ≠ 59) → (x ≠ 60) → (x = 62) → Q (h, some (0, 1)))
    (k3 : (x ≠ 59) → (x ≠ 60) → (x ≠ 62) → (x = 61) → Q (h, some (0, 1)))
    (k4 : (x ≠ 59) → (x ≠ 60) → (x ≠ 62) → (x ≠ 61) → Q (h, some (0, 0))) :
    vP D T N 113 0 h [some (0, x)] [] Q := by
  refine v_load (v := (0, x)) (hz_X8_isSign hT _ _ rfl) rfl rfl ?_
  refine v_push (59) (hz_X8_isSign hT _ _ rfl) rfl ?_
  refine v_ic (hz_X8_isSign hT _ _ rfl) (fun hc1 => ?_) (fun hc1 => ?_)
  · have hc1 : x = 59 := hc1
    refine v_push (1) (hi_X8_isSign_13 hT) rfl ?_
    refine v_goto (hi_X8_isSign_14 hT) ?_
    refine v_ret (hi_X8_isSign_18 hT) (Or.inl rfl) ?_
    exact k0 hc1
  · have hc1 : x ≠ 59 := hc1
    refine v_load (v := (0, x)) (hz_X8_isSign hT _ _ rfl) rfl rfl ?_
    refine v_call (w := 1) [some (0, x)] hO (hz_X8_isSign hT _ _ rfl) rfl rfl ?_
    refine v_load (v := (0, x)) (hz_X8_isCompare hT _ _ rfl) rfl rfl ?_
    refine v_push (60) (hz_X8_isCompare hT _ _ rfl) rfl ?_
    refine v_ic (hz_X8_isCompare hT _ _ rfl) (fun hc2 => ?_) (fun hc2 => ?_)
    · have hc2 : x = 60 := hc2
      refine v_push (1) (hi_X8_isCompare_18 hT) rfl ?_
      refine v_goto (hi_X8_isCompare_19 hT) ?_
      refine v_ret (hi_X8_isCompare_23 hT) (Or.inl rfl) ?_
      show vP D T N 113 10 h [some (0, x)] [(0, 1)] _
      refine v_if (hi_X8_isSign_10 hT) (fun hc3 => absurd (show (1 : Int) = 0 from hc3) (by decide)) (fun _ => ?_)
      refine v_push (1) (hi_X8_isSign_13 hT) rfl ?_
      refine v_goto (hi_X8_isSign_14 hT) ?_
      refine v_ret (hi_X8_isSign_18 hT) (Or.inl rfl) ?_
      exact k1 hc1 hc2
    · have hc2 : x ≠ 60 := hc2
      refine v_load (v := (0, x)) (hz_X8_isCompare hT _ _ rfl) rfl rfl ?_
      refine v_push (62) (hz_X8_isCompare hT _ _ rfl) rfl ?_
      refine v_ic (hz_X8_isCompare hT _ _ rfl) (fun hc4 => ?_) (fun hc4 => ?_)
      · have hc4 : x = 62 := hc4
        refine v_push (1) (hi_X8_isCompare_18 hT) rfl ?_
        refine v_goto (hi_X8_isCompare_19 hT) ?_
        refine v_ret (hi_X8_isCompare_23 hT) (Or.inl rfl) ?_
        show vP D T N 113 10 h [some (0, x)] [(0, 1)] _
        refine v_if (hi_X8_isSign_10 hT) (fun hc5 => absurd (show (1 : Int) = 0 from hc5) (by decide)) (fun _ => ?_)
        refine v_push (1) (hi_X8_isSign_13 hT) rfl ?_
        refine v_goto (hi_X8_isSign_14 hT) ?_
        refine v_ret (hi_X8_isSign_18 hT) (Or.inl rfl) ?_
        exact k2 hc1 hc2 hc4
      · have hc4 : x ≠ 62 := hc4
        refine v_load (v := (0, x)) (hz_X8_isCompare hT _ _ rfl) rfl rfl ?_
        refine v_push (61) (hz_X8_isCompare hT _ _ rfl) rfl ?_
        refine v_ic (hz_X8_isCompare hT _ _ rfl) (fun hc6 => ?_) (fun hc6 => ?_)
        · have hc6 : x = 61 := hc6
          refine v_push (1) (hi_X8_isCompare_18 hT) rfl ?_
          refine v_goto (hi_X8_isCompare_19 hT) ?_
          refine v_ret (hi_X8_isCompare_23 hT) (Or.inl rfl) ?_
          show vP D T N 113 10 h [some (0, x)] [(0, 1)] _
          refine v_if (hi_X8_isSign_10 hT) (fun hc7 => absurd (show (1 : Int) = 0 from hc7) (by decide)) (fun _ => ?_)
          refine v_push (1) (hi_X8_isSign_13 hT) rfl ?_
          refine v_goto (hi_X8_isSign_14 hT) ?_
          refine v_ret (hi_X8_isSign_18 hT) (Or.inl rfl) ?_
          exact k3 hc1 hc2 hc4 hc6
        · have hc6 : x ≠ 61 := hc6
          refine v_push (0) (hz_X8_isCompare hT _ _ rfl) rfl ?_
          refine v_ret (hi_X8_isCompare_23 hT) (Or.inl rfl) ?_
          show vP D T N 113 10 h [some (0, x)] [(0, 0)] _
          refine v_if (hi_X8_isSign_10 hT) (fun _ => ?_) (fun hc8 => absurd (show (0 : Int) = 0 from (by decide)) hc8)
          refine v_push (0) (hz_X8_isSign hT _ _ rfl) rfl ?_
          refine v_ret (hi_X8_isSign_18 hT) (Or.inl rfl) ?_
          exact k4 hc1 hc2 hc4 hc6
theorem b_sign {D : zD} {T : zT} (hT : hTab T) (hO : vOK T) {N : Nat} {h : zH} {Q : zR → Prop} (x : Int) (k : Q (h, some (0, iS x))) : vP D T N 113 0 h [some (0, x)] [] Q := by
  refine q_b_sign hT hO x ?_ ?_ ?_ ?_ ?_ <;> intros <;> first | (rw [show iS x = 1 from if_pos (by omega)] at k; exact k) | (rw [show iS x = 0 from if_neg (by omega)] at k; exact k)
theorem q_b_cmp {D : zD} {T : zT} (hT : hTab T) (hO : vOK T) {N : Nat} {h : zH} {Q : zR → Prop} (x : Int)
    (k0 : (x = 60) → Q (h, some (0, 1)))
    (k1 : (x ≠ 60) → (x = 62) → Q (h, some (0, 1)))
    (k2 : (x ≠ 60) → (x ≠ 62) → (x = 61) → Q (h, some (0, 1)))
    (k3 : (x ≠ 60) → (x ≠ 62) → (x ≠ 61) → Q (h, some (0, 0))) :
    vP D T N 108 0 h [some (0, x)] [] Q := by
  refine v_load (v := (0, x)) (hz_X8_isCompare hT _ _ rfl) rfl rfl ?_
  refine v_push (60) (hz_X8_isCompare hT _ _ rfl) rfl ?_
  refine v_ic (hz_X8_isCompare hT _ _ rfl) (fun hc1 => ?_) (fun hc1 => ?_)
  · have hc1 : x = 60 := hc1
    refine v_push (1) (hi_X8_isCompare_18 hT) rfl ?_
    refine v_goto (hi_X8_isCompare_19 hT) ?_
    refine v_ret (hi_X8_isCompare_23 hT) (Or.inl rfl) ?_
    exact k0 hc1
  · have hc1 : x ≠ 60 := hc1
    refine v_load (v := (0, x)) (hz_X8_isCompare hT _ _ rfl) rfl rfl ?_
    refine v_push (62) (hz_X8_isCompare hT _ _ rfl) rfl ?_
    refine v_ic (hz_X8_isCompare hT _ _ rfl) (fun hc2 => ?_) (fun hc2 => ?_)
    · have hc2 : x = 62 := hc2
      refine v_push (1) (hi_X8_isCompare_18 hT) rfl ?_
      refine v_goto (hi_X8_isCompare_19 hT) ?_
      refine v_ret (hi_X8_isCompare_23 hT) (Or.inl rfl) ?_
      exact k1 hc1 hc2
    · have hc2 : x ≠ 62 := hc2
      refine v_load (v := (0, x)) (hz_X8_isCompare hT _ _ rfl) rfl rfl ?_
      refine v_push (61) (hz_X8_isCompare hT _ _ rfl) rfl ?_
      refine v_ic (hz_X8_isCompare hT _ _ rfl) (fun hc3 => ?_) (fun hc3 => ?_)
      · have hc3 : x = 61 := hc3
        refine v_push (1) (hi_X8_isCompare_18 hT) rfl ?_
        refine v_goto (hi_X8_isCompare_19 hT) ?_
        refine v_ret (hi_X8_isCompare_23 hT) (Or.inl rfl) ?_
        exact k2 hc1 hc2 hc3
      · have hc3 : x ≠ 61 := hc3
        refine v_push (0) (hz_X8_isCompare hT _ _ rfl) rfl ?_
        refine v_ret (hi_X8_isCompare_23 hT) (Or.inl rfl) ?_
        exact k3 hc1 hc2 hc3
theorem b_cmp {D : zD} {T : zT} (hT : hTab T) (hO : vOK T) {N : Nat} {h : zH} {Q : zR → Prop} (x : Int) (k : Q (h, some (0, iC x))) : vP D T N 108 0 h [some (0, x)] [] Q := by
  refine q_b_cmp hT hO x ?_ ?_ ?_ ?_ <;> intros <;> first | (rw [show iC x = 1 from if_pos (by omega)] at k; exact k) | (rw [show iC x = 0 from if_neg (by omega)] at k; exact k)
theorem q_r_letter {D : zD} {T : zT} (hT : hTab T) (hO : vOK T) {N : Nat} {h : zH} {Q : zR → Prop} (x : Int)
    (k0 : (x < 97) → Q (h, some (0, 0)))
    (k1 : (97 ≤ x) → (122 < x) → Q (h, some (0, 0)))
    (k2 : (97 ≤ x) → (x ≤ 122) → Q (h, some (0, 1))) :
    vP D T N 254 0 h [some (0, x)] [] Q := by
  refine v_load (v := (0, x)) (hz_X12_isLetter hT _ _ rfl) rfl rfl ?_
  refine v_push (97) (hz_X12_isLetter hT _ _ rfl) rfl ?_
  refine v_ic (hz_X12_isLetter hT _ _ rfl) (fun hc1 => ?_) (fun hc1 => ?_)
  · have hc1 : x < 97 := hc1
    refine v_push (0) (hz_X12_isLetter hT _ _ rfl) rfl ?_
    refine v_ret (hz_X12_isLetter hT _ _ rfl) (Or.inl rfl) ?_
    exact k0 hc1
  · have hc1 : 97 ≤ x := Int.not_lt.mp hc1
    refine v_load (v := (0, x)) (hz_X12_isLetter hT _ _ rfl) rfl rfl ?_
    refine v_push (122) (hz_X12_isLetter hT _ _ rfl) rfl ?_
    refine v_ic (hz_X12_isLetter hT _ _ rfl) (fun hc2 => ?_) (fun hc2 => ?_)
    · have hc2 : 122 < x := hc2
      refine v_push (0) (hz_X12_isLetter hT _ _ rfl) rfl ?_
      refine v_ret (hz_X12_isLetter hT _ _ rfl) (Or.inl rfl) ?_
      exact k1 hc1 hc2
    · have hc2 : x ≤ 122 := Int.not_lt.mp hc2
      refine v_push (1) (hz_X12_isLetter hT _ _ rfl) rfl ?_
      refine v_goto (hz_X12_isLetter hT _ _ rfl) ?_
      refine v_ret (hz_X12_isLetter hT _ _ rfl) (Or.inl rfl) ?_
      exact k2 hc1 hc2
theorem r_letter {D : zD} {T : zT} (hT : hTab T) (hO : vOK T) {N : Nat} {h : zH} {Q : zR → Prop} (x : Int) (k : Q (h, some (0, iL x))) : vP D T N 254 0 h [some (0, x)] [] Q := by
  refine q_r_letter hT hO x ?_ ?_ ?_ <;> intros <;> first | (rw [show iL x = 1 from if_pos (by omega)] at k; exact k) | (rw [show iL x = 0 from if_neg (by omega)] at k; exact k)
theorem q_r_digit {D : zD} {T : zT} (hT : hTab T) (hO : vOK T) {N : Nat} {h : zH} {Q : zR → Prop} (x : Int)
    (k0 : (x < 48) → Q (h, some (0, 0)))
    (k1 : (48 ≤ x) → (57 < x) → Q (h, some (0, 0)))
    (k2 : (48 ≤ x) → (x ≤ 57) → Q (h, some (0, 1))) :
    vP D T N 249 0 h [some (0, x)] [] Q := by
  refine v_load (v := (0, x)) (hz_X12_isDigit hT _ _ rfl) rfl rfl ?_
  refine v_push (48) (hz_X12_isDigit hT _ _ rfl) rfl ?_
  refine v_ic (hz_X12_isDigit hT _ _ rfl) (fun hc1 => ?_) (fun hc1 => ?_)
  · have hc1 : x < 48 := hc1
    refine v_push (0) (hz_X12_isDigit hT _ _ rfl) rfl ?_
    refine v_ret (hz_X12_isDigit hT _ _ rfl) (Or.inl rfl) ?_
    exact k0 hc1
  · have hc1 : 48 ≤ x := Int.not_lt.mp hc1
    refine v_load (v := (0, x)) (hz_X12_isDigit hT _ _ rfl) rfl rfl ?_
    refine v_push (57) (hz_X12_isDigit hT _ _ rfl) rfl ?_
    refine v_ic (hz_X12_isDigit hT _ _ rfl) (fun hc2 => ?_) (fun hc2 => ?_)
    · have hc2 : 57 < x := hc2
      refine v_push (0) (hz_X12_isDigit hT _ _ rfl) rfl ?_
      refine v_ret (hz_X12_isDigit hT _ _ rfl) (Or.inl rfl) ?_
      exact k1 hc1 hc2
    · have hc2 : x ≤ 57 := Int.not_lt.mp hc2
      refine v_push (1) (hz_X12_isDigit hT _ _ rfl) rfl ?_
      refine v_goto (hz_X12_isDigit hT _ _ rfl) ?_
      refine v_ret (hz_X12_isDigit hT _ _ rfl) (Or.inl rfl) ?_
      exact k2 hc1 hc2
theorem r_digit {D : zD} {T : zT} (hT : hTab T) (hO : vOK T) {N : Nat} {h : zH} {Q : zR → Prop} (x : Int) (k : Q (h, some (0, iD x))) : vP D T N 249 0 h [some (0, x)] [] Q := by
  refine q_r_digit hT hO x ?_ ?_ ?_ <;> intros <;> first | (rw [show iD x = 1 from if_pos (by omega)] at k; exact k) | (rw [show iD x = 0 from if_neg (by omega)] at k; exact k)
theorem q_r_sign {D : zD} {T : zT} (hT : hTab T) (hO : vOK T) {N : Nat} {h : zH} {Q : zR → Prop} (x : Int)
    (k0 : (x = 59) → Q (h, some (0, 1)))
    (k1 : (x ≠ 59) → (x = 60) → Q (h, some (0, 1)))
    (k2 : (x ≠ 59) → (x ≠ 60) → (x = 62) → Q (h, some (0, 1)))
    (k3 : (x ≠ 59) → (x ≠ 60) → (x ≠ 62) → (x = 61) → Q (h, some (0, 1)))
    (k4 : (x ≠ 59) → (x ≠ 60) → (x ≠ 62) → (x ≠ 61) → Q (h, some (0, 0))) :
    vP D T N 260 0 h [some (2, 121), some (0, x)] [] Q := by
  refine v_load (v := (0, x)) (hz_X12_isSignByte hT _ _ rfl) rfl rfl ?_
  refine v_push (59) (hz_X12_isSignByte hT _ _ rfl) rfl ?_
  refine v_ic (hz_X12_isSignByte hT _ _ rfl) (fun hc1 => ?_) (fun hc1 => ?_)
  · have hc1 : x = 59 := hc1
    refine v_push (1) (hi_X12_isSignByte_24 hT) rfl ?_
    refine v_goto (hi_X12_isSignByte_25 hT) ?_
    refine v_ret (hi_X12_isSignByte_29 hT) (Or.inl rfl) ?_
    exact k0 hc1
  · have hc1 : x ≠ 59 := hc1
    refine v_load (v := (0, x)) (hz_X12_isSignByte hT _ _ rfl) rfl rfl ?_
    refine v_push (60) (hz_X12_isSignByte hT _ _ rfl) rfl ?_
    refine v_ic (hz_X12_isSignByte hT _ _ rfl) (fun hc2 => ?_) (fun hc2 => ?_)
    · have hc2 : x = 60 := hc2
      refine v_push (1) (hi_X12_isSignByte_24 hT) rfl ?_
      refine v_goto (hi_X12_isSignByte_25 hT) ?_
      refine v_ret (hi_X12_isSignByte_29 hT) (Or.inl rfl) ?_
      exact k1 hc1 hc2
    · have hc2 : x ≠ 60 := hc2
      refine v_load (v := (0, x)) (hz_X12_isSignByte hT _ _ rfl) rfl rfl ?_
      refine v_push (62) (hz_X12_isSignByte hT _ _ rfl) rfl ?_
      refine v_ic (hz_X12_isSignByte hT _ _ rfl) (fun hc3 => ?_) (fun hc3 => ?_)
      · have hc3 : x = 62 := hc3
        refine v_push (1) (hi_X12_isSignByte_24 hT) rfl ?_
        refine v_goto (hi_X12_isSignByte_25 hT) ?_
        refine v_ret (hi_X12_isSignByte_29 hT) (Or.inl rfl) ?_
        exact k2 hc1 hc2 hc3
      · have hc3 : x ≠ 62 := hc3
        refine v_load (v := (0, x)) (hz_X12_isSignByte hT _ _ rfl) rfl rfl ?_
        refine v_push (61) (hz_X12_isSignByte hT _ _ rfl) rfl ?_
        refine v_ic (hz_X12_isSignByte hT _ _ rfl) (fun hc4 => ?_) (fun hc4 => ?_)
        · have hc4 : x = 61 := hc4
          refine v_push (1) (hi_X12_isSignByte_24 hT) rfl ?_
          refine v_goto (hi_X12_isSignByte_25 hT) ?_
          refine v_ret (hi_X12_isSignByte_29 hT) (Or.inl rfl) ?_
          exact k3 hc1 hc2 hc3 hc4
        · have hc4 : x ≠ 61 := hc4
          refine v_push (0) (hz_X12_isSignByte hT _ _ rfl) rfl ?_
          refine v_ret (hi_X12_isSignByte_29 hT) (Or.inl rfl) ?_
          exact k4 hc1 hc2 hc3 hc4
theorem r_sign {D : zD} {T : zT} (hT : hTab T) (hO : vOK T) {N : Nat} {h : zH} {Q : zR → Prop} (x : Int) (k : Q (h, some (0, iS x))) : vP D T N 260 0 h [some (2, 121), some (0, x)] [] Q := by
  refine q_r_sign hT hO x ?_ ?_ ?_ ?_ ?_ <;> intros <;> first | (rw [show iS x = 1 from if_pos (by omega)] at k; exact k) | (rw [show iS x = 0 from if_neg (by omega)] at k; exact k)
theorem q_look {D : zD} {T : zT} (hT : hTab T) (hO : vOK T) {N : Nat} {h : zH} {Q : zR → Prop} (p : Int) (hv0 : zHv h)
    (k0 : (p < (h 121 9).2) → (0 ≤ p) → (p < 900) → Q (h, some (0, (v32 3 ((h 125 p.toNat).2) 255))))
    (k1 : ((h 121 9).2 ≤ p) → Q (h, some (0, 0))) :
    vP D T N 272 0 h [some (2, 121), some (0, p)] [] Q := by
  refine v_load (v := (0, p)) (hz_X12_look2 hT _ _ rfl) rfl rfl ?_
  refine v_load (v := (2, 121)) (hz_X12_look2 hT _ _ rfl) rfl rfl ?_
  refine v_getI (t := 0) (r := 121) (hz_X12_look2 hT _ _ rfl) rfl rfl rfl ?_
  refine v_ic (hz_X12_look2 hT _ _ rfl) (fun hc1 => ?_) (fun hc1 => ?_)
  · have hc1 : p < (h 121 9).2 := hc1
    refine v_load (v := (2, 121)) (hz_X12_look2 hT _ _ rfl) rfl rfl ?_
    refine v_getR (c := 125) (r := 121) (hz_X12_look2 hT _ _ rfl) rfl rfl rfl ?_
    refine v_load (v := (0, p)) (hz_X12_look2 hT _ _ rfl) rfl rfl ?_
    refine v_ald (t := 0) (r := 125) (hz_X12_look2 hT _ _ rfl) rfl rfl rfl (fun ha2 hb3 => ?_)
    refine v_push (255) (hz_X12_look2 hT _ _ rfl) rfl ?_
    refine v_bin (w := (v32 3 ((h 125 p.toNat).2) 255)) (hz_X12_look2 hT _ _ rfl) rfl ?_
    refine v_goto (hz_X12_look2 hT _ _ rfl) ?_
    refine v_ret (hz_X12_look2 hT _ _ rfl) (Or.inl rfl) ?_
    exact k0 hc1 ha2 hb3
  · have hc1 : (h 121 9).2 ≤ p := Int.not_lt.mp hc1
    refine v_push (0) (hz_X12_look2 hT _ _ rfl) rfl ?_
    refine v_ret (hz_X12_look2 hT _ _ rfl) (Or.inl rfl) ?_
    exact k1 hc1

theorem r_look {D : zD} {T : zT} (hT : hTab T) (hO : vOK T) {N : Nat} {h : zH} {Q : zR → Prop} {B : Nat → Int} {n : Nat} (hx : TXr B n h) (p : Int) (k : Q (h, some (0, lk B n p))) : vP D T N 272 0 h [some (2, 121), some (0, p)] [] Q := by
  refine vP_hv (fun hv => q_look hT hO p hv ?_ ?_)
  · intro c1 c2 c3
    rw [hx.1] at c1
    have c1 : p < (n : Int) := c1
    have b := hx.2.1.2 p.toNat (by omega)
    rw [hx.2.2 p.toNat (by omega)]
    show Q (h, some (0, v32 3 (B p.toNat) 255))
    rw [vU_and b.1 b.2]
    have e : lk B n p = vU (B p.toNat) := if_pos ⟨c2, c1⟩
    rw [e] at k
    exact k
  · intro c1
    rw [hx.1] at c1
    have c1 : (n : Int) ≤ p := c1
    have e : lk B n p = 0 := if_neg (fun c => by omega)
    rw [e] at k
    exact k
theorem q_next0 {D : zD} {T : zT} (hT : hTab T) (hO : vOK T) {N : Nat} {h : zH} {Q : zR → Prop} (B : Nat → Int) (n : Nat) (hv0 : zHv h) (hx : TXr B n h)
    (k0 : vP D T N 284 8 (zset h 121 15 (0, (h 121 16).2)) [some (2, 121), none] [] Q) :
    vP D T N 284 0 h [some (2, 121), none] [] Q := by
  refine v_load (v := (2, 121)) (hz_X12_next hT _ _ rfl) rfl rfl ?_
  refine v_load (v := (2, 121)) (hz_X12_next hT _ _ rfl) rfl rfl ?_
  refine v_getI (t := 0) (r := 121) (hz_X12_next hT _ _ rfl) rfl rfl rfl ?_
  refine v_putf (r := 121) hO (hz_X12_next hT _ _ rfl) rfl (fun hf1 => ?_)
  exact k0 
theorem q_next8 {D : zD} {T : zT} (hT : hTab T) (hO : vOK T) {N : Nat} {h : zH} {Q : zR → Prop} (B : Nat → Int) (n : Nat) (hv0 : zHv h) (hx : TXr B n h) (b15 : 0 ≤ (h 121 15).2 ∧ (h 121 15).2 ≤ 900)
    (k0 : ((h 121 15).2 < (h 121 9).2) → ((lk B n ((h 121 15).2)) = 10) → vP D T N 284 8 (zset h 121 15 (0, ((h 121 15).2 + 1))) [some (2, 121), none] [] Q)
    (k1 : ((h 121 15).2 < (h 121 9).2) → ((lk B n ((h 121 15).2)) ≠ 10) → ((lk B n ((h 121 15).2)) = 32) → vP D T N 284 8 (zset h 121 15 (0, ((h 121 15).2 + 1))) [some (2, 121), none] [] Q)
    (k2 : ((h 121 15).2 < (h 121 9).2) → ((lk B n ((h 121 15).2)) ≠ 10) → ((lk B n ((h 121 15).2)) ≠ 32) → ((iL ((lk B n ((h 121 15).2)))) = 0) → ((iD ((lk B n ((h 121 15).2)))) = 0) → ((iS ((lk B n ((h 121 15).2)))) = 0) → Q (zset (zset (zset (zset h 121 16 (0, (h 121 15).2)) 121 16 (0, ((h 121 15).2 + 1))) 121 17 (0, (lk B n ((h 121 15).2)))) 121 14 (0, 4), none))
    (k3 : ((h 121 15).2 < (h 121 9).2) → ((lk B n ((h 121 15).2)) ≠ 10) → ((lk B n ((h 121 15).2)) ≠ 32) → ((iL ((lk B n ((h 121 15).2)))) = 0) → ((iD ((lk B n ((h 121 15).2)))) = 0) → ((iS ((lk B n ((h 121 15).2)))) ≠ 0) → Q (zset (zset (zset (zset h 121 16 (0, (h 121 15).2)) 121 16 (0, ((h 121 15).2 + 1))) 121 17 (0, (lk B n ((h 121 15).2)))) 121 14 (0, 3), none))
    (k4 : ((h 121 15).2 < (h 121 9).2) → ((lk B n ((h 121 15).2)) ≠ 10) → ((lk B n ((h 121 15).2)) ≠ 32) → ((iL ((lk B n ((h 121 15).2)))) = 0) → ((iD ((lk B n ((h 121 15).2)))) ≠ 0) → vP D T N 284 210 (zset (zset h 121 16 (0, (h 121 15).2)) 121 17 (0, 0)) [some (2, 121), some (0, (lk B n ((h 121 15).2)))] [] Q)
    (k5 : ((h 121 15).2 < (h 121 9).2) → ((lk B n ((h 121 15).2)) ≠ 10) → ((lk B n ((h 121 15).2)) ≠ 32) → ((iL ((lk B n ((h 121 15).2)))) ≠ 0) → vP D T N 284 109 (zset (zset (zset h 121 16 (0, (h 121 15).2)) 121 14 (0, 1)) 121 19 (1, 0)) [some (2, 121), some (0, (lk B n ((h 121 15).2)))] [] Q)
    (k6 : ((h 121 9).2 ≤ (h 121 15).2) → Q (zset (zset h 121 16 (0, (h 121 15).2)) 121 14 (0, 0), none)) :
    vP D T (N + 1) 284 8 h [some (2, 121), none] [] Q := by
  refine v_loadS (v := (2, 121)) (hz_X12_next hT _ _ rfl) rfl rfl ?_
  refine v_getI (t := 0) (r := 121) (hz_X12_next hT _ _ rfl) rfl rfl rfl ?_
  refine v_load (v := (2, 121)) (hz_X12_next hT _ _ rfl) rfl rfl ?_
  refine v_getI (t := 0) (r := 121) (hz_X12_next hT _ _ rfl) rfl rfl rfl ?_
  refine v_ic (hz_X12_next hT _ _ rfl) (fun hc1 => ?_) (fun hc1 => ?_)
  · have hc1 : (h 121 15).2 < (h 121 9).2 := hc1
    refine v_load (v := (2, 121)) (hz_X12_next hT _ _ rfl) rfl rfl ?_
    refine v_load (v := (2, 121)) (hz_X12_next hT _ _ rfl) rfl rfl ?_
    refine v_getI (t := 0) (r := 121) (hz_X12_next hT _ _ rfl) rfl rfl rfl ?_
    refine v_call (w := 2) [some (2, 121), some (0, (h 121 15).2)] hO (hz_X12_next hT _ _ rfl) rfl rfl (r_look hT hO hx ((h 121 15).2) ?_)
    show vP D T N 284 27 h [some (2, 121), none] [(0, (lk B n ((h 121 15).2)))] _
    refine v_push (10) (hz_X12_next hT _ _ rfl) rfl ?_
    refine v_ic (hz_X12_next hT _ _ rfl) (fun hc2 => ?_) (fun hc2 => ?_)
    · have hc2 : (lk B n ((h 121 15).2)) = 10 := hc2
      refine v_load (v := (2, 121)) (hz_X12_next hT _ _ rfl) rfl rfl ?_
      refine v_dup (hz_X12_next hT _ _ rfl) (Nat.ne_of_beq_eq_false rfl) ?_
      refine v_getI (t := 0) (r := 121) (hz_X12_next hT _ _ rfl) rfl rfl rfl ?_
      refine v_push (1) (hz_X12_next hT _ _ rfl) rfl ?_
      refine v_bin (w := ((h 121 15).2 + 1)) (hz_X12_next hT _ _ rfl) (hq_add (by omega) (by omega)) ?_
      refine v_putf (r := 121) hO (hz_X12_next hT _ _ rfl) rfl (fun hf3 => ?_)
      refine v_goto (hz_X12_next hT _ _ rfl) ?_
      exact k0 hc1 hc2
    · have hc2 : (lk B n ((h 121 15).2)) ≠ 10 := hc2
      refine v_load (v := (2, 121)) (hz_X12_next hT _ _ rfl) rfl rfl ?_
      refine v_load (v := (2, 121)) (hz_X12_next hT _ _ rfl) rfl rfl ?_
      refine v_getI (t := 0) (r := 121) (hz_X12_next hT _ _ rfl) rfl rfl rfl ?_
      refine v_call (w := 2) [some (2, 121), some (0, (h 121 15).2)] hO (hz_X12_next hT _ _ rfl) rfl rfl (r_look hT hO hx ((h 121 15).2) ?_)
      show vP D T N 284 40 h [some (2, 121), none] [(0, (lk B n ((h 121 15).2)))] _
      refine v_push (32) (hz_X12_next hT _ _ rfl) rfl ?_
      refine v_ic (hz_X12_next hT _ _ rfl) (fun hc4 => ?_) (fun hc4 => ?_)
      · have hc4 : (lk B n ((h 121 15).2)) = 32 := hc4
        refine v_load (v := (2, 121)) (hz_X12_next hT _ _ rfl) rfl rfl ?_
        refine v_dup (hz_X12_next hT _ _ rfl) (Nat.ne_of_beq_eq_false rfl) ?_
        refine v_getI (t := 0) (r := 121) (hz_X12_next hT _ _ rfl) rfl rfl rfl ?_
        refine v_push (1) (hz_X12_next hT _ _ rfl) rfl ?_
        refine v_bin (w := ((h 121 15).2 + 1)) (hz_X12_next hT _ _ rfl) (hq_add (by omega) (by omega)) ?_
        refine v_putf (r := 121) hO (hz_X12_next hT _ _ rfl) rfl (fun hf5 => ?_)
        refine v_goto (hz_X12_next hT _ _ rfl) ?_
        exact k1 hc1 hc2 hc4
      · have hc4 : (lk B n ((h 121 15).2)) ≠ 32 := hc4
        refine v_load (v := (2, 121)) (hz_X12_next hT _ _ rfl) rfl rfl ?_
        refine v_load (v := (2, 121)) (hz_X12_next hT _ _ rfl) rfl rfl ?_
        refine v_getI (t := 0) (r := 121) (hz_X12_next hT _ _ rfl) rfl rfl rfl ?_
        refine v_putf (r := 121) hO (hz_X12_next hT _ _ rfl) rfl (fun hf6 => ?_)
        refine v_load (v := (2, 121)) (hz_X12_next hT _ _ rfl) rfl rfl ?_
        refine v_getf (v := (0, (h 121 15).2)) (r := 121) (hz_X12_next hT _ _ rfl) rfl rfl (fun hv_ => Eq.trans (zset_ne (fun c => absurd c.2 (by decide))) (hv0.at rfl)) ?_
        refine v_load (v := (2, 121)) (hz_X12_next hT _ _ rfl) rfl rfl ?_
        refine v_getf (v := (0, (h 121 9).2)) (r := 121) (hz_X12_next hT _ _ rfl) rfl rfl (fun hv_ => Eq.trans (zset_ne (fun c => absurd c.2 (by decide))) (hv0.at rfl)) ?_
        refine v_ic (hz_X12_next hT _ _ rfl) (fun _ => ?_) (fun hc7 => absurd (show (h 121 15).2 < (h 121 9).2 from hc1) hc7)
        refine v_load (v := (2, 121)) (hz_X12_next hT _ _ rfl) rfl rfl ?_
        refine v_load (v := (2, 121)) (hz_X12_next hT _ _ rfl) rfl rfl ?_
        refine v_getf (v := (0, (h 121 15).2)) (r := 121) (hz_X12_next hT _ _ rfl) rfl rfl (fun hv_ => Eq.trans (zset_ne (fun c => absurd c.2 (by decide))) (hv0.at rfl)) ?_
        refine v_call (w := 2) [some (2, 121), some (0, (h 121 15).2)] hO (hz_X12_next hT _ _ rfl) rfl rfl (r_look hT hO (TXr.z (k := 16) (v := (0, (h 121 15).2)) (by decide) hx) ((h 121 15).2) ?_)
        show vP D T N 284 91 (zset h 121 16 (0, (h 121 15).2)) [some (2, 121), none] [(0, (lk B n ((h 121 15).2)))] _
        refine v_store1 [some (2, 121), some (0, (lk B n ((h 121 15).2)))] (hz_X12_next hT _ _ rfl) ⟨rfl, Nat.ne_of_beq_eq_false rfl⟩ (Nat.le_of_ble_eq_true rfl) rfl ?_
        refine v_load (v := (0, (lk B n ((h 121 15).2)))) (hz_X12_next hT _ _ rfl) rfl rfl ?_
        refine v_call (w := 1) [some (0, (lk B n ((h 121 15).2)))] hO (hz_X12_next hT _ _ rfl) rfl rfl (r_letter hT hO ((lk B n ((h 121 15).2))) ?_)
        show vP D T N 284 96 (zset h 121 16 (0, (h 121 15).2)) [some (2, 121), some (0, (lk B n ((h 121 15).2)))] [(0, (iL ((lk B n ((h 121 15).2)))))] _
        refine v_if (hz_X12_next hT _ _ rfl) (fun hc8 => ?_) (fun hc8 => ?_)
        · have hc8 : (iL ((lk B n ((h 121 15).2)))) = 0 := hc8
          refine v_load (v := (0, (lk B n ((h 121 15).2)))) (hz_X12_next hT _ _ rfl) rfl rfl ?_
          refine v_call (w := 1) [some (0, (lk B n ((h 121 15).2)))] hO (hz_X12_next hT _ _ rfl) rfl rfl (r_digit hT hO ((lk B n ((h 121 15).2))) ?_)
          show vP D T N 284 202 (zset h 121 16 (0, (h 121 15).2)) [some (2, 121), some (0, (lk B n ((h 121 15).2)))] [(0, (iD ((lk B n ((h 121 15).2)))))] _
          refine v_if (hz_X12_next hT _ _ rfl) (fun hc9 => ?_) (fun hc9 => ?_)
          · have hc9 : (iD ((lk B n ((h 121 15).2)))) = 0 := hc9
            refine v_load (v := (2, 121)) (hz_X12_next hT _ _ rfl) rfl rfl ?_
            refine v_load (v := (2, 121)) (hz_X12_next hT _ _ rfl) rfl rfl ?_
            refine v_getf (v := (0, (h 121 15).2)) (r := 121) (hz_X12_next hT _ _ rfl) rfl rfl (fun hv_ => Eq.trans (zset_ne (fun c => absurd c.2 (by decide))) (hv0.at rfl)) ?_
            refine v_push (1) (hz_X12_next hT _ _ rfl) rfl ?_
            refine v_bin (w := ((h 121 15).2 + 1)) (hz_X12_next hT _ _ rfl) (hq_add (by omega) (by omega)) ?_
            refine v_putf (r := 121) hO (hz_X12_next hT _ _ rfl) rfl (fun hf10 => ?_)
            refine v_load (v := (2, 121)) (hz_X12_next hT _ _ rfl) rfl rfl ?_
            refine v_load (v := (0, (lk B n ((h 121 15).2)))) (hz_X12_next hT _ _ rfl) rfl rfl ?_
            refine v_putf (r := 121) hO (hz_X12_next hT _ _ rfl) rfl (fun hf11 => ?_)
            refine v_load (v := (2, 121)) (hz_X12_next hT _ _ rfl) rfl rfl ?_
            refine v_load (v := (2, 121)) (hz_X12_next hT _ _ rfl) rfl rfl ?_
            refine v_load (v := (0, (lk B n ((h 121 15).2)))) (hz_X12_next hT _ _ rfl) rfl rfl ?_
            refine v_call (w := 2) [some (2, 121), some (0, (lk B n ((h 121 15).2)))] hO (hz_X12_next hT _ _ rfl) rfl rfl (r_sign hT hO ((lk B n ((h 121 15).2))) ?_)
            show vP D T N 284 319 (zset (zset (zset h 121 16 (0, (h 121 15).2)) 121 16 (0, ((h 121 15).2 + 1))) 121 17 (0, (lk B n ((h 121 15).2)))) [some (2, 121), some (0, (lk B n ((h 121 15).2)))] [(0, (iS ((lk B n ((h 121 15).2))))), (2, 121)] _
            refine v_if (hz_X12_next hT _ _ rfl) (fun hc12 => ?_) (fun hc12 => ?_)
            · have hc12 : (iS ((lk B n ((h 121 15).2)))) = 0 := hc12
              refine v_push (4) (hz_X12_next hT _ _ rfl) rfl ?_
              refine v_putf (r := 121) hO (hz_X12_next hT _ _ rfl) rfl (fun hf13 => ?_)
              refine v_ret0 (hi_X12_next_330 hT) ?_
              exact k2 hc1 hc2 hc4 hc8 hc9 hc12
            · have hc12 : (iS ((lk B n ((h 121 15).2)))) ≠ 0 := hc12
              refine v_push (3) (hz_X12_next hT _ _ rfl) rfl ?_
              refine v_goto (hz_X12_next hT _ _ rfl) ?_
              refine v_putf (r := 121) hO (hz_X12_next hT _ _ rfl) rfl (fun hf14 => ?_)
              refine v_ret0 (hi_X12_next_330 hT) ?_
              exact k3 hc1 hc2 hc4 hc8 hc9 hc12
          · have hc9 : (iD ((lk B n ((h 121 15).2)))) ≠ 0 := hc9
            refine v_load (v := (2, 121)) (hz_X12_next hT _ _ rfl) rfl rfl ?_
            refine v_push (0) (hz_X12_next hT _ _ rfl) rfl ?_
            refine v_putf (r := 121) hO (hz_X12_next hT _ _ rfl) rfl (fun hf15 => ?_)
            exact k4 hc1 hc2 hc4 hc8 hc9
        · have hc8 : (iL ((lk B n ((h 121 15).2)))) ≠ 0 := hc8
          refine v_load (v := (2, 121)) (hz_X12_next hT _ _ rfl) rfl rfl ?_
          refine v_push (1) (hz_X12_next hT _ _ rfl) rfl ?_
          refine v_putf (r := 121) hO (hz_X12_next hT _ _ rfl) rfl (fun hf16 => ?_)
          refine v_load (v := (2, 121)) (hz_X12_next hT _ _ rfl) rfl rfl ?_
          refine v_push (0) (hz_X12_next hT _ _ rfl) rfl ?_
          refine v_putf (r := 121) hO (hz_X12_next hT _ _ rfl) rfl (fun hf17 => ?_)
          exact k5 hc1 hc2 hc4 hc8
  · have hc1 : (h 121 9).2 ≤ (h 121 15).2 := Int.not_lt.mp hc1
    refine v_load (v := (2, 121)) (hz_X12_next hT _ _ rfl) rfl rfl ?_
    refine v_load (v := (2, 121)) (hz_X12_next hT _ _ rfl) rfl rfl ?_
    refine v_getI (t := 0) (r := 121) (hz_X12_next hT _ _ rfl) rfl rfl rfl ?_
    refine v_putf (r := 121) hO (hz_X12_next hT _ _ rfl) rfl (fun hf18 => ?_)
    refine v_load (v := (2, 121)) (hz_X12_next hT _ _ rfl) rfl rfl ?_
    refine v_getf (v := (0, (h 121 15).2)) (r := 121) (hz_X12_next hT _ _ rfl) rfl rfl (fun hv_ => Eq.trans (zset_ne (fun c => absurd c.2 (by decide))) (hv0.at rfl)) ?_
    refine v_load (v := (2, 121)) (hz_X12_next hT _ _ rfl) rfl rfl ?_
    refine v_getf (v := (0, (h 121 9).2)) (r := 121) (hz_X12_next hT _ _ rfl) rfl rfl (fun hv_ => Eq.trans (zset_ne (fun c => absurd c.2 (by decide))) (hv0.at rfl)) ?_
    refine v_ic (hz_X12_next hT _ _ rfl) (fun hc19 => absurd (show (h 121 15).2 < (h 121 9).2 from hc19) (by omega)) (fun _ => ?_)
    refine v_load (v := (2, 121)) (hz_X12_next hT _ _ rfl) rfl rfl ?_
    refine v_push (0) (hz_X12_next hT _ _ rfl) rfl ?_
    refine v_putf (r := 121) hO (hz_X12_next hT _ _ rfl) rfl (fun hf20 => ?_)
    refine v_ret0 (hz_X12_next hT _ _ rfl) ?_
    exact k6 hc1
theorem q_next109 {D : zD} {T : zT} (hT : hTab T) (hO : vOK T) {N : Nat} {h : zH} {Q : zR → Prop} (B : Nat → Int) (n : Nat) (x : Int) (hv0 : zHv h) (hx : TXr B n h) (b16 : 0 ≤ (h 121 16).2 ∧ (h 121 16).2 ≤ 900) (b15 : 0 ≤ (h 121 15).2 ∧ (h 121 15).2 ≤ 900) (bl : 0 ≤ lk B n ((h 121 16).2) ∧ lk B n ((h 121 16).2) ≤ 255) (b19 : -1 ≤ (h 121 19).2 ∧ (h 121 19).2 ≤ 1099511627776)
    (k0 : ((iL ((lk B n ((h 121 16).2)))) = 0) → Q (zset h 121 18 (0, ((h 121 16).2 - (h 121 15).2)), none))
    (k1 : ((iL ((lk B n ((h 121 16).2)))) ≠ 0) → (((h 121 16).2 - (h 121 15).2) < 8) → vP D T N 284 109 (zset (zset h 121 19 (1, ((((h 121 19).2 * 32) + (lk B n ((h 121 16).2))) - 96))) 121 16 (0, ((h 121 16).2 + 1))) [some (2, 121), some (0, x)] [] Q)
    (k2 : ((iL ((lk B n ((h 121 16).2)))) ≠ 0) → (8 ≤ ((h 121 16).2 - (h 121 15).2)) → vP D T N 284 109 (zset (zset h 121 19 (1, -1)) 121 16 (0, ((h 121 16).2 + 1))) [some (2, 121), some (0, x)] [] Q) :
    vP D T (N + 1) 284 109 h [some (2, 121), some (0, x)] [] Q := by
  refine v_loadS (v := (2, 121)) (hz_X12_next hT _ _ rfl) rfl rfl ?_
  refine v_load (v := (2, 121)) (hz_X12_next hT _ _ rfl) rfl rfl ?_
  refine v_getI (t := 0) (r := 121) (hz_X12_next hT _ _ rfl) rfl rfl rfl ?_
  refine v_call (w := 2) [some (2, 121), some (0, (h 121 16).2)] hO (hz_X12_next hT _ _ rfl) rfl rfl (r_look hT hO hx ((h 121 16).2) ?_)
  show vP D T N 284 117 h [some (2, 121), some (0, x)] [(0, (lk B n ((h 121 16).2)))] _
  refine v_call (w := 1) [some (0, (lk B n ((h 121 16).2)))] hO (hz_X12_next hT _ _ rfl) rfl rfl (r_letter hT hO ((lk B n ((h 121 16).2))) ?_)
  show vP D T N 284 120 h [some (2, 121), some (0, x)] [(0, (iL ((lk B n ((h 121 16).2)))))] _
  refine v_if (hz_X12_next hT _ _ rfl) (fun hc1 => ?_) (fun hc1 => ?_)
  · have hc1 : (iL ((lk B n ((h 121 16).2)))) = 0 := hc1
    refine v_load (v := (2, 121)) (hz_X12_next hT _ _ rfl) rfl rfl ?_
    refine v_load (v := (2, 121)) (hz_X12_next hT _ _ rfl) rfl rfl ?_
    refine v_getI (t := 0) (r := 121) (hz_X12_next hT _ _ rfl) rfl rfl rfl ?_
    refine v_load (v := (2, 121)) (hz_X12_next hT _ _ rfl) rfl rfl ?_
    refine v_getI (t := 0) (r := 121) (hz_X12_next hT _ _ rfl) rfl rfl rfl ?_
    refine v_bin (w := ((h 121 16).2 - (h 121 15).2)) (hz_X12_next hT _ _ rfl) (hq_sub (by omega) (by omega)) ?_
    refine v_putf (r := 121) hO (hz_X12_next hT _ _ rfl) rfl (fun hf2 => ?_)
    refine v_goto (hz_X12_next hT _ _ rfl) ?_
    refine v_ret0 (hi_X12_next_330 hT) ?_
    exact k0 hc1
  · have hc1 : (iL ((lk B n ((h 121 16).2)))) ≠ 0 := hc1
    refine v_load (v := (2, 121)) (hz_X12_next hT _ _ rfl) rfl rfl ?_
    refine v_load (v := (2, 121)) (hz_X12_next hT _ _ rfl) rfl rfl ?_
    refine v_getI (t := 0) (r := 121) (hz_X12_next hT _ _ rfl) rfl rfl rfl ?_
    refine v_load (v := (2, 121)) (hz_X12_next hT _ _ rfl) rfl rfl ?_
    refine v_getI (t := 0) (r := 121) (hz_X12_next hT _ _ rfl) rfl rfl rfl ?_
    refine v_bin (w := ((h 121 16).2 - (h 121 15).2)) (hz_X12_next hT _ _ rfl) (hq_sub (by omega) (by omega)) ?_
    refine v_push (8) (hz_X12_next hT _ _ rfl) rfl ?_
    refine v_ic (hz_X12_next hT _ _ rfl) (fun hc3 => ?_) (fun hc3 => ?_)
    · have hc3 : ((h 121 16).2 - (h 121 15).2) < 8 := hc3
      refine v_load (v := (2, 121)) (hz_X12_next hT _ _ rfl) rfl rfl ?_
      refine v_getI (t := 1) (r := 121) (hz_X12_next hT _ _ rfl) rfl rfl rfl ?_
      refine v_push (32) (hz_X12_next hT _ _ rfl) rfl ?_
      refine v_bin64 (w := ((h 121 19).2 * 32)) (hz_X12_next hT _ _ rfl) (vz_mulL (by omega) (by omega)) ?_
      refine v_load (v := (2, 121)) (hz_X12_next hT _ _ rfl) rfl rfl ?_
      refine v_load (v := (2, 121)) (hz_X12_next hT _ _ rfl) rfl rfl ?_
      refine v_getI (t := 0) (r := 121) (hz_X12_next hT _ _ rfl) rfl rfl rfl ?_
      refine v_call (w := 2) [some (2, 121), some (0, (h 121 16).2)] hO (hz_X12_next hT _ _ rfl) rfl rfl (r_look hT hO hx ((h 121 16).2) ?_)
      show vP D T N 284 154 h [some (2, 121), some (0, x)] [(0, (lk B n ((h 121 16).2))), (1, ((h 121 19).2 * 32)), (2, 121)] _
      refine v_i2l (hz_X12_next hT _ _ rfl) ?_
      refine v_bin64 (w := (((h 121 19).2 * 32) + (lk B n ((h 121 16).2)))) (hz_X12_next hT _ _ rfl) (vz_addL (by omega) (by omega)) ?_
      refine v_push (96) (hz_X12_next hT _ _ rfl) rfl ?_
      refine v_bin64 (w := ((((h 121 19).2 * 32) + (lk B n ((h 121 16).2))) - 96)) (hz_X12_next hT _ _ rfl) (vz_subL (by omega) (by omega)) ?_
      refine v_goto (hz_X12_next hT _ _ rfl) ?_
      refine v_putf (r := 121) hO (hz_X12_next hT _ _ rfl) rfl (fun hf4 => ?_)
      refine v_load (v := (2, 121)) (hz_X12_next hT _ _ rfl) rfl rfl ?_
      refine v_dup (hz_X12_next hT _ _ rfl) (Nat.ne_of_beq_eq_false rfl) ?_
      refine v_getf (v := (0, (h 121 16).2)) (r := 121) (hz_X12_next hT _ _ rfl) rfl rfl (fun hv_ => Eq.trans (zset_ne (fun c => absurd c.2 (by decide))) (hv0.at rfl)) ?_
      refine v_push (1) (hz_X12_next hT _ _ rfl) rfl ?_
      refine v_bin (w := ((h 121 16).2 + 1)) (hz_X12_next hT _ _ rfl) (hq_add (by omega) (by omega)) ?_
      refine v_putf (r := 121) hO (hz_X12_next hT _ _ rfl) rfl (fun hf5 => ?_)
      refine v_goto (hz_X12_next hT _ _ rfl) ?_
      exact k1 hc1 hc3
    · have hc3 : 8 ≤ ((h 121 16).2 - (h 121 15).2) := Int.not_lt.mp hc3
      refine v_push (-1) (hz_X12_next hT _ _ rfl) rfl ?_
      refine v_putf (r := 121) hO (hz_X12_next hT _ _ rfl) rfl (fun hf6 => ?_)
      refine v_load (v := (2, 121)) (hz_X12_next hT _ _ rfl) rfl rfl ?_
      refine v_dup (hz_X12_next hT _ _ rfl) (Nat.ne_of_beq_eq_false rfl) ?_
      refine v_getf (v := (0, (h 121 16).2)) (r := 121) (hz_X12_next hT _ _ rfl) rfl rfl (fun hv_ => Eq.trans (zset_ne (fun c => absurd c.2 (by decide))) (hv0.at rfl)) ?_
      refine v_push (1) (hz_X12_next hT _ _ rfl) rfl ?_
      refine v_bin (w := ((h 121 16).2 + 1)) (hz_X12_next hT _ _ rfl) (hq_add (by omega) (by omega)) ?_
      refine v_putf (r := 121) hO (hz_X12_next hT _ _ rfl) rfl (fun hf7 => ?_)
      refine v_goto (hz_X12_next hT _ _ rfl) ?_
      exact k2 hc1 hc3
theorem q_next210 {D : zD} {T : zT} (hT : hTab T) (hO : vOK T) {N : Nat} {h : zH} {Q : zR → Prop} (B : Nat → Int) (n : Nat) (x : Int) (hv0 : zHv h) (hx : TXr B n h) (b16 : 0 ≤ (h 121 16).2 ∧ (h 121 16).2 ≤ 900) (b15 : 0 ≤ (h 121 15).2 ∧ (h 121 15).2 ≤ 900) (bl : 0 ≤ lk B n ((h 121 16).2) ∧ lk B n ((h 121 16).2) ≤ 255) (b17 : 0 ≤ (h 121 17).2 ∧ (h 121 17).2 ≤ 9999)
    (k0 : ((iD ((lk B n ((h 121 16).2)))) = 0) → (4 < ((h 121 16).2 - (h 121 15).2)) → Q (zset h 121 14 (0, 4), none))
    (k1 : ((iD ((lk B n ((h 121 16).2)))) = 0) → (((h 121 16).2 - (h 121 15).2) ≤ 4) → Q (zset h 121 14 (0, 2), none))
    (k2 : ((iD ((lk B n ((h 121 16).2)))) ≠ 0) → (((h 121 16).2 - (h 121 15).2) < 4) → vP D T N 284 210 (zset (zset h 121 17 (0, (((10 * (h 121 17).2) + (lk B n ((h 121 16).2))) - 48))) 121 16 (0, ((h 121 16).2 + 1))) [some (2, 121), some (0, x)] [] Q)
    (k3 : ((iD ((lk B n ((h 121 16).2)))) ≠ 0) → (4 ≤ ((h 121 16).2 - (h 121 15).2)) → vP D T N 284 210 (zset h 121 16 (0, ((h 121 16).2 + 1))) [some (2, 121), some (0, x)] [] Q) :
    vP D T (N + 1) 284 210 h [some (2, 121), some (0, x)] [] Q := by
  refine v_loadS (v := (2, 121)) (hz_X12_next hT _ _ rfl) rfl rfl ?_
  refine v_load (v := (2, 121)) (hz_X12_next hT _ _ rfl) rfl rfl ?_
  refine v_getI (t := 0) (r := 121) (hz_X12_next hT _ _ rfl) rfl rfl rfl ?_
  refine v_call (w := 2) [some (2, 121), some (0, (h 121 16).2)] hO (hz_X12_next hT _ _ rfl) rfl rfl (r_look hT hO hx ((h 121 16).2) ?_)
  show vP D T N 284 218 h [some (2, 121), some (0, x)] [(0, (lk B n ((h 121 16).2)))] _
  refine v_call (w := 1) [some (0, (lk B n ((h 121 16).2)))] hO (hz_X12_next hT _ _ rfl) rfl rfl (r_digit hT hO ((lk B n ((h 121 16).2))) ?_)
  show vP D T N 284 221 h [some (2, 121), some (0, x)] [(0, (iD ((lk B n ((h 121 16).2)))))] _
  refine v_if (hz_X12_next hT _ _ rfl) (fun hc1 => ?_) (fun hc1 => ?_)
  · have hc1 : (iD ((lk B n ((h 121 16).2)))) = 0 := hc1
    refine v_load (v := (2, 121)) (hz_X12_next hT _ _ rfl) rfl rfl ?_
    refine v_load (v := (2, 121)) (hz_X12_next hT _ _ rfl) rfl rfl ?_
    refine v_getI (t := 0) (r := 121) (hz_X12_next hT _ _ rfl) rfl rfl rfl ?_
    refine v_load (v := (2, 121)) (hz_X12_next hT _ _ rfl) rfl rfl ?_
    refine v_getI (t := 0) (r := 121) (hz_X12_next hT _ _ rfl) rfl rfl rfl ?_
    refine v_bin (w := ((h 121 16).2 - (h 121 15).2)) (hz_X12_next hT _ _ rfl) (hq_sub (by omega) (by omega)) ?_
    refine v_push (4) (hz_X12_next hT _ _ rfl) rfl ?_
    refine v_ic (hz_X12_next hT _ _ rfl) (fun hc2 => ?_) (fun hc2 => ?_)
    · have hc2 : 4 < ((h 121 16).2 - (h 121 15).2) := hc2
      refine v_push (4) (hz_X12_next hT _ _ rfl) rfl ?_
      refine v_goto (hz_X12_next hT _ _ rfl) ?_
      refine v_putf (r := 121) hO (hz_X12_next hT _ _ rfl) rfl (fun hf3 => ?_)
      refine v_goto (hz_X12_next hT _ _ rfl) ?_
      refine v_ret0 (hi_X12_next_330 hT) ?_
      exact k0 hc1 hc2
    · have hc2 : ((h 121 16).2 - (h 121 15).2) ≤ 4 := Int.not_lt.mp hc2
      refine v_push (2) (hz_X12_next hT _ _ rfl) rfl ?_
      refine v_putf (r := 121) hO (hz_X12_next hT _ _ rfl) rfl (fun hf4 => ?_)
      refine v_goto (hz_X12_next hT _ _ rfl) ?_
      refine v_ret0 (hi_X12_next_330 hT) ?_
      exact k1 hc1 hc2
  · have hc1 : (iD ((lk B n ((h 121 16).2)))) ≠ 0 := hc1
    refine v_load (v := (2, 121)) (hz_X12_next hT _ _ rfl) rfl rfl ?_
    refine v_getI (t := 0) (r := 121) (hz_X12_next hT _ _ rfl) rfl rfl rfl ?_
    refine v_load (v := (2, 121)) (hz_X12_next hT _ _ rfl) rfl rfl ?_
    refine v_getI (t := 0) (r := 121) (hz_X12_next hT _ _ rfl) rfl rfl rfl ?_
    refine v_bin (w := ((h 121 16).2 - (h 121 15).2)) (hz_X12_next hT _ _ rfl) (hq_sub (by omega) (by omega)) ?_
    refine v_push (4) (hz_X12_next hT _ _ rfl) rfl ?_
    refine v_ic (hz_X12_next hT _ _ rfl) (fun hc5 => ?_) (fun hc5 => ?_)
    · have hc5 : ((h 121 16).2 - (h 121 15).2) < 4 := hc5
      refine v_load (v := (2, 121)) (hz_X12_next hT _ _ rfl) rfl rfl ?_
      refine v_push (10) (hz_X12_next hT _ _ rfl) rfl ?_
      refine v_load (v := (2, 121)) (hz_X12_next hT _ _ rfl) rfl rfl ?_
      refine v_getI (t := 0) (r := 121) (hz_X12_next hT _ _ rfl) rfl rfl rfl ?_
      refine v_bin (w := (10 * (h 121 17).2)) (hz_X12_next hT _ _ rfl) (hq_mul (by omega) (by omega)) ?_
      refine v_load (v := (2, 121)) (hz_X12_next hT _ _ rfl) rfl rfl ?_
      refine v_load (v := (2, 121)) (hz_X12_next hT _ _ rfl) rfl rfl ?_
      refine v_getI (t := 0) (r := 121) (hz_X12_next hT _ _ rfl) rfl rfl rfl ?_
      refine v_call (w := 2) [some (2, 121), some (0, (h 121 16).2)] hO (hz_X12_next hT _ _ rfl) rfl rfl (r_look hT hO hx ((h 121 16).2) ?_)
      show vP D T N 284 253 h [some (2, 121), some (0, x)] [(0, (lk B n ((h 121 16).2))), (0, (10 * (h 121 17).2)), (2, 121)] _
      refine v_bin (w := ((10 * (h 121 17).2) + (lk B n ((h 121 16).2)))) (hz_X12_next hT _ _ rfl) (hq_add (by omega) (by omega)) ?_
      refine v_push (48) (hz_X12_next hT _ _ rfl) rfl ?_
      refine v_bin (w := (((10 * (h 121 17).2) + (lk B n ((h 121 16).2))) - 48)) (hz_X12_next hT _ _ rfl) (hq_sub (by omega) (by omega)) ?_
      refine v_putf (r := 121) hO (hz_X12_next hT _ _ rfl) rfl (fun hf6 => ?_)
      refine v_load (v := (2, 121)) (hz_X12_next hT _ _ rfl) rfl rfl ?_
      refine v_dup (hz_X12_next hT _ _ rfl) (Nat.ne_of_beq_eq_false rfl) ?_
      refine v_getf (v := (0, (h 121 16).2)) (r := 121) (hz_X12_next hT _ _ rfl) rfl rfl (fun hv_ => Eq.trans (zset_ne (fun c => absurd c.2 (by decide))) (hv0.at rfl)) ?_
      refine v_push (1) (hz_X12_next hT _ _ rfl) rfl ?_
      refine v_bin (w := ((h 121 16).2 + 1)) (hz_X12_next hT _ _ rfl) (hq_add (by omega) (by omega)) ?_
      refine v_putf (r := 121) hO (hz_X12_next hT _ _ rfl) rfl (fun hf7 => ?_)
      refine v_goto (hz_X12_next hT _ _ rfl) ?_
      exact k2 hc1 hc5
    · have hc5 : 4 ≤ ((h 121 16).2 - (h 121 15).2) := Int.not_lt.mp hc5
      refine v_load (v := (2, 121)) (hz_X12_next hT _ _ rfl) rfl rfl ?_
      refine v_dup (hz_X12_next hT _ _ rfl) (Nat.ne_of_beq_eq_false rfl) ?_
      refine v_getI (t := 0) (r := 121) (hz_X12_next hT _ _ rfl) rfl rfl rfl ?_
      refine v_push (1) (hz_X12_next hT _ _ rfl) rfl ?_
      refine v_bin (w := ((h 121 16).2 + 1)) (hz_X12_next hT _ _ rfl) (hq_add (by omega) (by omega)) ?_
      refine v_putf (r := 121) hO (hz_X12_next hT _ _ rfl) rfl (fun hf8 => ?_)
      refine v_goto (hz_X12_next hT _ _ rfl) ?_
      exact k3 hc1 hc5

/-! the reference's next(): what it leaves, and that it changes nothing else -/
def nF (h0 h : zH) : Prop := ∀ a b, ¬ (a = 121 ∧ 14 ≤ b ∧ b ≤ 19) → h a b = h0 a b
theorem nF.rfl {h : zH} : nF h h := fun _ _ _ => Eq.refl _
theorem nF.z {h0 h : zH} {k : Nat} {v : zV} (h1 : 14 ≤ k) (h2 : k ≤ 19) (g : nF h0 h) : nF h0 (zset h 121 k v) := fun a b hn => (zset_ne (fun c => hn ⟨c.1, by omega, by omega⟩)).trans (g a b hn)
def NT (B : Nat → Int) (k : Int) (s e : Nat) (h : zH) : Prop := h 121 14 = (0, k) ∧ h 121 15 = (0, (s : Int)) ∧ h 121 16 = (0, (e : Int)) ∧ (k = 1 → h 121 18 = (0, (e : Int) - (s : Int)) ∧ h 121 19 = (1, wv B s (e - s))) ∧ (k = 2 → h 121 17 = (0, nv B s (e - s))) ∧ (k = 3 → h 121 17 = (0, B s))
def Nx (B : Nat → Int) (n p : Nat) (h0 : zH) (r : zR) : Prop := r.2 = none ∧ ∃ k s e, Tk B n p k s e ∧ NT B k s e r.1 ∧ nF h0 r.1
theorem Nx_mk {B : Nat → Int} {n p : Nat} {h0 h : zH} {k : Int} {s e : Nat} (hT : Tk B n p k s e) (hN : NT B k s e h) (hF : nF h0 h) : Nx B n p h0 (h, none) := ⟨rfl, k, s, e, hT, hN, hF⟩
def NW (B : Nat → Int) (n s : Nat) (h0 : zH) (j : Nat) (h : zH) : Prop := TXr B n h ∧ nF h0 h ∧ h 121 14 = (0, 1) ∧ h 121 15 = (0, (s : Int)) ∧ h 121 16 = (0, ((s + j : Nat) : Int)) ∧ h 121 19 = (1, wv B s j) ∧ ∀ q, s ≤ q → q < s + j → q < n ∧ iL (B q) ≠ 0
def NN (B : Nat → Int) (n s : Nat) (h0 : zH) (j : Nat) (h : zH) : Prop := TXr B n h ∧ nF h0 h ∧ h 121 15 = (0, (s : Int)) ∧ h 121 16 = (0, ((s + j : Nat) : Int)) ∧ h 121 17 = (0, nv B s (min j 4)) ∧ ∀ q, s ≤ q → q < s + j → q < n ∧ iD (B q) ≠ 0
theorem run_ext {f : Int → Int} {B : Nat → Int} {n s j : Nat} (hq : ∀ q, s ≤ q → q < s + j → q < n ∧ f (B q) ≠ 0) (hc : s + j < n ∧ f (B (s + j)) ≠ 0) : ∀ q, s ≤ q → q < s + (j + 1) → q < n ∧ f (B q) ≠ 0 := fun q h1 h2 => by
  rcases Nat.lt_or_ge q (s + j) with h | h
  · exact hq q h1 h
  · have e : q = s + j := by omega
    rw [e]
    exact hc
theorem run_le {f : Int → Int} {B : Nat → Int} {n s j : Nat} (hs : s ≤ n) (hq : ∀ q, s ≤ q → q < s + j → q < n ∧ f (B q) ≠ 0) : s + j ≤ n := by
  rcases j with _ | j
  · exact hs
  · have := (hq (s + j) (by omega) (by omega)).1
    omega
theorem next_word {D : zD} {T : zT} (hT : hTab T) (hO : vOK T) {B : Nat → Int} {n p s : Nat} {h0 : zH} (hs : Rn iB B n p s) (hsn : s < n) (hL : iL (B s) ≠ 0) (x : Int) : ∀ N h l, (l = [some (2, 121), some (0, x)] ∧ ∃ j, NW B n s h0 j h) → vP D T N 284 109 h l [] (Nx B n p h0) := by
  refine vP_loop (fun h l => l = [some (2, 121), some (0, x)] ∧ ∃ j, NW B n s h0 j h) ?_
  rintro N h l ⟨rfl, j, hx, hf, h14, h15, h16, h19, hq⟩ ih
  have hjn : s + j ≤ n := run_le (Nat.le_of_lt hsn) hq
  have e16 : (h 121 16).2 = ((s + j : Nat) : Int) := congrArg Prod.snd h16
  have e15 : (h 121 15).2 = (s : Int) := congrArg Prod.snd h15
  have e19 : (h 121 19).2 = wv B s j := congrArg Prod.snd h19
  have hb := hx.2.1
  have b9 := hb.1
  have bw := wv_bd (l := j) (fun q h1 h2 => iL_ne (hq q h1 h2).2)
  refine vP_hv (fun hv => q_next109 hT hO B n x hv hx ⟨by omega, by omega⟩ ⟨by omega, by omega⟩ (lk_bd hb _) ⟨by omega, by omega⟩ ?_ ?_ ?_)
  · intro c1
    rw [e16] at c1
    have hend : s + j < n → iL (B (s + j)) = 0 := fun hlt => Classical.byContradiction fun hc => (kL hb).mpr ⟨hlt, hc⟩ c1
    refine Nx_mk (k := 1) (s := s) (e := s + j) ⟨hs, Or.inr ⟨hsn, Or.inl ⟨hL, rfl, Nat.le_add_right _ _, hq, hend⟩⟩⟩ ⟨(zset_ne (by decide)).trans h14, (zset_ne (by decide)).trans h15, (zset_ne (by decide)).trans h16, fun _ => ⟨?_, ?_⟩, fun c => absurd c (by decide), fun c => absurd c (by decide)⟩ (hf.z (by decide) (by decide))
    · rw [e16, e15]
      exact zset_same
    · rw [Nat.add_sub_cancel_left]
      exact (zset_ne (by decide)).trans h19
  · intro c1 c2
    rw [e16] at c1
    have hc := (kL hb).mp c1
    have e : (h 121 19).2 * 32 + lk B n ((h 121 16).2) - 96 = wv B s (j + 1) := by
      have hr := iL_ne hc.2
      rw [e19, e16, lk_in hc.1, vU_nn (by omega)]
      unfold wv
      rw [if_pos (by omega), if_pos (by omega)]
      show pv B s j * 32 + B (s + j) - 96 = 32 * pv B s j + (B (s + j) - 96)
      omega
    refine ih _ _ ⟨rfl, j + 1, (hx.z (by decide)).z (by decide), (hf.z (by decide) (by decide)).z (by decide) (by decide), (zset_ne (by decide)).trans ((zset_ne (by decide)).trans h14), (zset_ne (by decide)).trans ((zset_ne (by decide)).trans h15), zset_same.trans (congrArg (Prod.mk (0 : Nat)) (by rw [e16]; omega)), (zset_ne (by decide)).trans (zset_same.trans (congrArg (Prod.mk (1 : Nat)) e)), run_ext hq hc⟩
  · intro c1 c2
    rw [e16] at c1
    have hc := (kL hb).mp c1
    have e : (-1 : Int) = wv B s (j + 1) := (if_neg (by omega)).symm
    refine ih _ _ ⟨rfl, j + 1, (hx.z (by decide)).z (by decide), (hf.z (by decide) (by decide)).z (by decide) (by decide), (zset_ne (by decide)).trans ((zset_ne (by decide)).trans h14), (zset_ne (by decide)).trans ((zset_ne (by decide)).trans h15), zset_same.trans (congrArg (Prod.mk (0 : Nat)) (by rw [e16]; omega)), (zset_ne (by decide)).trans (zset_same.trans (congrArg (Prod.mk (1 : Nat)) e)), run_ext hq hc⟩
theorem next_num {D : zD} {T : zT} (hT : hTab T) (hO : vOK T) {B : Nat → Int} {n p s : Nat} {h0 : zH} (hs : Rn iB B n p s) (hsn : s < n) (hL : iL (B s) = 0) (hD : iD (B s) ≠ 0) (x : Int) : ∀ N h l, (l = [some (2, 121), some (0, x)] ∧ ∃ j, NN B n s h0 j h) → vP D T N 284 210 h l [] (Nx B n p h0) := by
  refine vP_loop (fun h l => l = [some (2, 121), some (0, x)] ∧ ∃ j, NN B n s h0 j h) ?_
  rintro N h l ⟨rfl, j, hx, hf, h15, h16, h17, hq⟩ ih
  have hjn : s + j ≤ n := run_le (Nat.le_of_lt hsn) hq
  have e16 : (h 121 16).2 = ((s + j : Nat) : Int) := congrArg Prod.snd h16
  have e15 : (h 121 15).2 = (s : Int) := congrArg Prod.snd h15
  have e17 : (h 121 17).2 = nv B s (min j 4) := congrArg Prod.snd h17
  have hb := hx.2.1
  have b9 := hb.1
  have bw := nv_bd (B := B) (s := s) (l := min j 4) (fun q h1 h2 => iD_ne (hq q h1 (by omega)).2)
  have bp := p10_le (min j 4) (by omega)
  refine vP_hv (fun hv => q_next210 hT hO B n x hv hx ⟨by omega, by omega⟩ ⟨by omega, by omega⟩ (lk_bd hb _) ⟨by omega, by omega⟩ ?_ ?_ ?_ ?_)
  · intro c1 c2
    rw [e16] at c1
    have hend : s + j < n → iD (B (s + j)) = 0 := fun hlt => Classical.byContradiction fun hc => (kD hb).mpr ⟨hlt, hc⟩ c1
    refine Nx_mk (k := 4) (s := s) (e := s + j) ⟨hs, Or.inr ⟨hsn, Or.inr (Or.inl ⟨hL, hD, (if_neg (by omega)).symm, Nat.le_add_right _ _, hq, hend⟩)⟩⟩ ⟨zset_same, (zset_ne (by decide)).trans h15, (zset_ne (by decide)).trans h16, fun c => absurd c (by decide), fun c => absurd c (by decide), fun c => absurd c (by decide)⟩ (hf.z (by decide) (by decide))
  · intro c1 c2
    rw [e16] at c1
    have hend : s + j < n → iD (B (s + j)) = 0 := fun hlt => Classical.byContradiction fun hc => (kD hb).mpr ⟨hlt, hc⟩ c1
    refine Nx_mk (k := 2) (s := s) (e := s + j) ⟨hs, Or.inr ⟨hsn, Or.inr (Or.inl ⟨hL, hD, (if_pos (by omega)).symm, Nat.le_add_right _ _, hq, hend⟩)⟩⟩ ⟨zset_same, (zset_ne (by decide)).trans h15, (zset_ne (by decide)).trans h16, fun c => absurd c (by decide), fun _ => ?_, fun c => absurd c (by decide)⟩ (hf.z (by decide) (by decide))
    have hm : min j 4 = j := by omega
    rw [Nat.add_sub_cancel_left]
    rw [hm] at h17
    exact (zset_ne (by decide)).trans h17
  · intro c1 c2
    rw [e16] at c1
    have hc := (kD hb).mp c1
    have hm : min j 4 = j := by omega
    have hm1 : min (j + 1) 4 = j + 1 := by omega
    have e : 10 * (h 121 17).2 + lk B n ((h 121 16).2) - 48 = nv B s (min (j + 1) 4) := by
      have hr := iD_ne hc.2
      rw [e17, e16, lk_in hc.1, vU_nn (by omega), hm, hm1]
      show 10 * nv B s j + B (s + j) - 48 = 10 * nv B s j + (B (s + j) - 48)
      omega
    refine ih _ _ ⟨rfl, j + 1, (hx.z (by decide)).z (by decide), (hf.z (by decide) (by decide)).z (by decide) (by decide), (zset_ne (by decide)).trans ((zset_ne (by decide)).trans h15), zset_same.trans (congrArg (Prod.mk (0 : Nat)) (by rw [e16]; omega)), (zset_ne (by decide)).trans (zset_same.trans (congrArg (Prod.mk (0 : Nat)) e)), run_ext hq hc⟩
  · intro c1 c2
    rw [e16] at c1
    have hc := (kD hb).mp c1
    have hm : min (j + 1) 4 = min j 4 := by omega
    refine ih _ _ ⟨rfl, j + 1, hx.z (by decide), hf.z (by decide) (by decide), (zset_ne (by decide)).trans h15, zset_same.trans (congrArg (Prod.mk (0 : Nat)) (by rw [e16]; omega)), (zset_ne (by decide)).trans (by rw [hm]; exact h17), run_ext hq hc⟩
theorem next_ok {D : zD} {T : zT} (hT : hTab T) (hO : vOK T) {N : Nat} {B : Nat → Int} {n p : Nat} {h : zH} (hx : TXr B n h) (hp : p ≤ n) (h16 : h 121 16 = (0, (p : Int))) : vP D T N 284 0 h [some (2, 121), none] [] (Nx B n p h) := by
  refine vP_hv (fun hv => q_next0 hT hO B n hv hx ?_)
  refine vP_loop (fun h' l => l = [some (2, 121), none] ∧ ∃ s, p ≤ s ∧ s ≤ n ∧ TXr B n h' ∧ nF h h' ∧ h' 121 15 = (0, (s : Int)) ∧ ∀ q, p ≤ q → q < s → q < n ∧ iB (B q) ≠ 0) ?_ N _ _ ⟨rfl, p, Nat.le_refl _, hp, hx.z (by decide), nF.rfl.z (by decide) (by decide), zset_same.trans (by rw [h16]), fun q h1 h2 => absurd h2 (by omega)⟩
  rintro N h' l ⟨rfl, s, hps, hsn, hx', hf, h15, hq⟩ ih
  have e15 : (h' 121 15).2 = (s : Int) := congrArg Prod.snd h15
  have e9 : (h' 121 9).2 = (n : Int) := congrArg Prod.snd hx'.1
  have hb := hx'.2.1
  have b9 := hb.1
  have blank : s < n → iB (B s) ≠ 0 → vP D T N 284 8 (zset h' 121 15 (0, ((h' 121 15).2 + 1))) [some (2, 121), none] [] (Nx B n p h) := fun c1 c2 => ih _ _ ⟨rfl, s + 1, by omega, by omega, hx'.z (by decide), hf.z (by decide) (by decide), zset_same.trans (congrArg (Prod.mk (0 : Nat)) (by rw [e15]; omega)), fun q h1 h2 => by
    rcases Nat.lt_or_ge q s with g | g
    · exact hq q h1 g
    · have e : q = s := by omega
      rw [e]
      exact ⟨c1, c2⟩⟩
  refine vP_hv (fun hv => q_next8 hT hO B n hv hx' ⟨by omega, by omega⟩ ?_ ?_ ?_ ?_ ?_ ?_ ?_)
  · intro c1 c2
    rw [e15, e9] at c1
    have c1 : s < n := by omega
    rw [e15, lk_in c1] at c2
    refine blank c1 ?_
    rw [← iB_vU (hb.2 s c1).1 (hb.2 s c1).2, c2]
    decide
  · intro c1 _ c2
    rw [e15, e9] at c1
    have c1 : s < n := by omega
    rw [e15, lk_in c1] at c2
    refine blank c1 ?_
    rw [← iB_vU (hb.2 s c1).1 (hb.2 s c1).2, c2]
    decide
  · intro c1 c2 c3 c4 c5 c6
    rw [e15, e9] at c1
    have c1 : s < n := by omega
    have bs := hb.2 s c1
    rw [e15, lk_in c1] at c2 c3 c4 c5 c6
    rw [iL_vU bs.1 bs.2] at c4
    rw [iD_vU bs.1 bs.2] at c5
    rw [iS_vU bs.1 bs.2] at c6
    have hR : Rn iB B n p s := ⟨hps, hq, fun _ => by
      rw [← iB_vU bs.1 bs.2]
      unfold iB
      exact if_neg (by omega)⟩
    refine Nx_mk (k := 4) (s := s) (e := s + 1) ⟨hR, Or.inr ⟨c1, Or.inr (Or.inr ⟨c4, c5, (if_neg (fun f => f c6)).symm, rfl⟩)⟩⟩ ⟨zset_same, ?_, ?_, fun c => absurd c (by decide), fun c => absurd c (by decide), fun c => absurd c (by decide)⟩ ((((hf.z (by decide) (by decide)).z (by decide) (by decide)).z (by decide) (by decide)).z (by decide) (by decide))
    · exact (zset_ne (by decide)).trans ((zset_ne (by decide)).trans ((zset_ne (by decide)).trans ((zset_ne (by decide)).trans h15)))
    · exact (zset_ne (by decide)).trans ((zset_ne (by decide)).trans (zset_same.trans (congrArg (Prod.mk (0 : Nat)) (by rw [e15]; omega))))
  · intro c1 c2 c3 c4 c5 c6
    rw [e15, e9] at c1
    have c1 : s < n := by omega
    have bs := hb.2 s c1
    rw [e15, lk_in c1] at c2 c3 c4 c5 c6
    rw [iL_vU bs.1 bs.2] at c4
    rw [iD_vU bs.1 bs.2] at c5
    rw [iS_vU bs.1 bs.2] at c6
    have hR : Rn iB B n p s := ⟨hps, hq, fun _ => by
      rw [← iB_vU bs.1 bs.2]
      unfold iB
      exact if_neg (by omega)⟩
    refine Nx_mk (k := 3) (s := s) (e := s + 1) ⟨hR, Or.inr ⟨c1, Or.inr (Or.inr ⟨c4, c5, (if_pos c6).symm, rfl⟩)⟩⟩ ⟨zset_same, ?_, ?_, fun c => absurd c (by decide), fun c => absurd c (by decide), fun _ => ?_⟩ ((((hf.z (by decide) (by decide)).z (by decide) (by decide)).z (by decide) (by decide)).z (by decide) (by decide))
    · exact (zset_ne (by decide)).trans ((zset_ne (by decide)).trans ((zset_ne (by decide)).trans ((zset_ne (by decide)).trans h15)))
    · exact (zset_ne (by decide)).trans ((zset_ne (by decide)).trans (zset_same.trans (congrArg (Prod.mk (0 : Nat)) (by rw [e15]; omega))))
    · refine (zset_ne (by decide)).trans (zset_same.trans (congrArg (Prod.mk (0 : Nat)) ?_))
      rw [e15, lk_in c1]
      refine vU_nn ?_
      unfold iS at c6
      by_cases g : B s = 59 ∨ B s = 60 ∨ B s = 62 ∨ B s = 61
      · omega
      · rw [if_neg g] at c6
        exact absurd rfl c6
  · intro c1 c2 c3 c4 c5
    rw [e15, e9] at c1
    have c1 : s < n := by omega
    have bs := hb.2 s c1
    rw [e15, lk_in c1] at c2 c3 c4 c5
    rw [iL_vU bs.1 bs.2] at c4
    rw [iD_vU bs.1 bs.2] at c5
    have hR : Rn iB B n p s := ⟨hps, hq, fun _ => by
      rw [← iB_vU bs.1 bs.2]
      unfold iB
      exact if_neg (by omega)⟩
    exact next_num hT hO hR c1 c4 c5 _ N _ _ ⟨rfl, 0, (hx'.z (by decide)).z (by decide), (hf.z (by decide) (by decide)).z (by decide) (by decide), (zset_ne (by decide)).trans ((zset_ne (by decide)).trans h15), (zset_ne (by decide)).trans (zset_same.trans (congrArg (Prod.mk (0 : Nat)) (by rw [e15]; omega))), zset_same, fun q h1 h2 => absurd h2 (by omega)⟩
  · intro c1 c2 c3 c4
    rw [e15, e9] at c1
    have c1 : s < n := by omega
    have bs := hb.2 s c1
    rw [e15, lk_in c1] at c2 c3 c4
    rw [iL_vU bs.1 bs.2] at c4
    have hR : Rn iB B n p s := ⟨hps, hq, fun _ => by
      rw [← iB_vU bs.1 bs.2]
      unfold iB
      exact if_neg (by omega)⟩
    exact next_word hT hO hR c1 c4 _ N _ _ ⟨rfl, 0, ((hx'.z (by decide)).z (by decide)).z (by decide), ((hf.z (by decide) (by decide)).z (by decide) (by decide)).z (by decide) (by decide), (zset_ne (by decide)).trans zset_same, (zset_ne (by decide)).trans ((zset_ne (by decide)).trans ((zset_ne (by decide)).trans h15)), (zset_ne (by decide)).trans ((zset_ne (by decide)).trans (zset_same.trans (congrArg (Prod.mk (0 : Nat)) (by rw [e15]; omega)))), zset_same, fun q h1 h2 => absurd h2 (by omega)⟩
  · intro c1
    rw [e15, e9] at c1
    have c1 : n ≤ s := by omega
    have e : s = n := by omega
    refine Nx_mk (k := 0) (s := s) (e := s) ⟨⟨hps, hq, fun c => absurd c (by omega)⟩, Or.inl ⟨c1, rfl, rfl⟩⟩ ⟨zset_same, (zset_ne (by decide)).trans ((zset_ne (by decide)).trans h15), (zset_ne (by decide)).trans (zset_same.trans (congrArg (Prod.mk (0 : Nat)) e15)), fun c => absurd c (by decide), fun c => absurd c (by decide), fun c => absurd c (by decide)⟩ ((hf.z (by decide) (by decide)).z (by decide) (by decide))
end
section
/-! printed by wip/l/gent2.py: runs of the class on tokens -/
theorem q_res0 {D : zD} {T : zT} (hT : hTab T) (hO : vOK T) {N : Nat} {h : zH} {Q : zR → Prop} (s e : Int) (hv0 : zHv h)
    (k0 : vP D T N 117 11 h [some (2, 10), some (0, s), some (0, e), some (0, 0), some (0, s), some (0, 1), some (0, 0), none] [] Q) :
    vP D T N 117 0 h [some (2, 10), some (0, s), some (0, e), none, none, none, none, none] [] Q := by
  refine v_push (0) (hz_X8_reservedIndex hT _ _ rfl) rfl ?_
  refine v_store1 [some (2, 10), some (0, s), some (0, e), some (0, 0), none, none, none, none] (hz_X8_reservedIndex hT _ _ rfl) ⟨rfl, Nat.ne_of_beq_eq_false rfl⟩ (Nat.le_of_ble_eq_true rfl) rfl ?_
  refine v_load (v := (0, s)) (hz_X8_reservedIndex hT _ _ rfl) rfl rfl ?_
  refine v_store1 [some (2, 10), some (0, s), some (0, e), some (0, 0), some (0, s), none, none, none] (hz_X8_reservedIndex hT _ _ rfl) ⟨rfl, Nat.ne_of_beq_eq_false rfl⟩ (Nat.le_of_ble_eq_true rfl) rfl ?_
  refine v_push (1) (hz_X8_reservedIndex hT _ _ rfl) rfl ?_
  refine v_store1 [some (2, 10), some (0, s), some (0, e), some (0, 0), some (0, s), some (0, 1), none, none] (hz_X8_reservedIndex hT _ _ rfl) ⟨rfl, Nat.ne_of_beq_eq_false rfl⟩ (Nat.le_of_ble_eq_true rfl) rfl ?_
  refine v_push (0) (hz_X8_reservedIndex hT _ _ rfl) rfl ?_
  refine v_store1 [some (2, 10), some (0, s), some (0, e), some (0, 0), some (0, s), some (0, 1), some (0, 0), none] (hz_X8_reservedIndex hT _ _ rfl) ⟨rfl, Nat.ne_of_beq_eq_false rfl⟩ (Nat.le_of_ble_eq_true rfl) rfl ?_
  exact k0 
theorem q_res11 {D : zD} {T : zT} (hT : hTab T) (hO : vOK T) {N : Nat} {h : zH} {Q : zR → Prop} (s e x m a i : Int) (o : Option zV) (hv0 : zHv h) (bx : 0 ≤ x ∧ x ≤ 900) (bm : 0 ≤ m ∧ m ≤ 900) (bi : 0 ≤ i ∧ i ≤ 900)
    (k0 : (i < (zlen D 3 : Int)) → (0 ≤ i) → (i < (zlen D 3 : Int)) → ((zat D 3 i.toNat) = 32) → (a = 0) → vP D T N 117 11 h [some (2, 10), some (0, s), some (0, e), some (0, (x + 1)), some (0, s), some (0, 1), some (0, (i + 1)), some (0, (zat D 3 i.toNat))] [] Q)
    (k1 : (i < (zlen D 3 : Int)) → (0 ≤ i) → (i < (zlen D 3 : Int)) → ((zat D 3 i.toNat) = 32) → (a ≠ 0) → (m = e) → Q (h, some (0, x)))
    (k2 : (i < (zlen D 3 : Int)) → (0 ≤ i) → (i < (zlen D 3 : Int)) → ((zat D 3 i.toNat) = 32) → (a ≠ 0) → (m ≠ e) → vP D T N 117 11 h [some (2, 10), some (0, s), some (0, e), some (0, (x + 1)), some (0, s), some (0, 1), some (0, (i + 1)), some (0, (zat D 3 i.toNat))] [] Q)
    (k3 : (i < (zlen D 3 : Int)) → (0 ≤ i) → (i < (zlen D 3 : Int)) → ((zat D 3 i.toNat) ≠ 32) → (a = 0) → vP D T N 117 11 h [some (2, 10), some (0, s), some (0, e), some (0, x), some (0, m), some (0, 0), some (0, (i + 1)), some (0, (zat D 3 i.toNat))] [] Q)
    (k4 : (i < (zlen D 3 : Int)) → (0 ≤ i) → (i < (zlen D 3 : Int)) → ((zat D 3 i.toNat) ≠ 32) → (a ≠ 0) → (m < e) → (0 ≤ m) → (m < 900) → ((h 11 m.toNat).2 = (zat D 3 i.toNat)) → vP D T N 117 11 h [some (2, 10), some (0, s), some (0, e), some (0, x), some (0, (m + 1)), some (0, a), some (0, (i + 1)), some (0, (zat D 3 i.toNat))] [] Q)
    (k5 : (i < (zlen D 3 : Int)) → (0 ≤ i) → (i < (zlen D 3 : Int)) → ((zat D 3 i.toNat) ≠ 32) → (a ≠ 0) → (m < e) → (0 ≤ m) → (m < 900) → ((h 11 m.toNat).2 ≠ (zat D 3 i.toNat)) → vP D T N 117 11 h [some (2, 10), some (0, s), some (0, e), some (0, x), some (0, m), some (0, 0), some (0, (i + 1)), some (0, (zat D 3 i.toNat))] [] Q)
    (k6 : (i < (zlen D 3 : Int)) → (0 ≤ i) → (i < (zlen D 3 : Int)) → ((zat D 3 i.toNat) ≠ 32) → (a ≠ 0) → (e ≤ m) → vP D T N 117 11 h [some (2, 10), some (0, s), some (0, e), some (0, x), some (0, m), some (0, 0), some (0, (i + 1)), some (0, (zat D 3 i.toNat))] [] Q)
    (k7 : ((zlen D 3 : Int) ≤ i) → Q (h, some (0, -1))) :
    vP D T (N + 1) 117 11 h [some (2, 10), some (0, s), some (0, e), some (0, x), some (0, m), some (0, a), some (0, i), o] [] Q := by
  refine v_loadS (v := (0, i)) (hz_X8_reservedIndex hT _ _ rfl) rfl rfl ?_
  refine v_push (3) (hz_X8_reservedIndex hT _ _ rfl) rfl ?_
  refine v_slen (j := 3) (hz_X8_reservedIndex hT _ _ rfl) rfl ?_
  refine v_ic (hz_X8_reservedIndex hT _ _ rfl) (fun hc1 => ?_) (fun hc1 => ?_)
  · have hc1 : i < (zlen D 3 : Int) := hc1
    refine v_push (3) (hz_X8_reservedIndex hT _ _ rfl) rfl ?_
    refine v_load (v := (0, i)) (hz_X8_reservedIndex hT _ _ rfl) rfl rfl ?_
    refine v_char (j := 3) (hz_X8_reservedIndex hT _ _ rfl) rfl (fun ha2 hb3 => ?_)
    refine v_store1 [some (2, 10), some (0, s), some (0, e), some (0, x), some (0, m), some (0, a), some (0, i), some (0, (zat D 3 i.toNat))] (hz_X8_reservedIndex hT _ _ rfl) ⟨rfl, Nat.ne_of_beq_eq_false rfl⟩ (Nat.le_of_ble_eq_true rfl) rfl ?_
    refine v_load (v := (0, (zat D 3 i.toNat))) (hz_X8_reservedIndex hT _ _ rfl) rfl rfl ?_
    refine v_push (32) (hz_X8_reservedIndex hT _ _ rfl) rfl ?_
    refine v_ic (hz_X8_reservedIndex hT _ _ rfl) (fun hc4 => ?_) (fun hc4 => ?_)
    · have hc4 : (zat D 3 i.toNat) = 32 := hc4
      refine v_load (v := (0, a)) (hz_X8_reservedIndex hT _ _ rfl) rfl rfl ?_
      refine v_if (hz_X8_reservedIndex hT _ _ rfl) (fun hc5 => ?_) (fun hc5 => ?_)
      · have hc5 : a = 0 := hc5
        refine v_iinc (x := x) (u := 1) (w := (x + 1)) [some (2, 10), some (0, s), some (0, e), some (0, (x + 1)), some (0, m), some (0, a), some (0, i), some (0, (zat D 3 i.toNat))] (hz_X8_reservedIndex hT _ _ rfl) rfl rfl (Nat.le_of_ble_eq_true rfl) (vz_inc (by omega) (by omega)) rfl ?_
        refine v_load (v := (0, s)) (hz_X8_reservedIndex hT _ _ rfl) rfl rfl ?_
        refine v_store1 [some (2, 10), some (0, s), some (0, e), some (0, (x + 1)), some (0, s), some (0, a), some (0, i), some (0, (zat D 3 i.toNat))] (hz_X8_reservedIndex hT _ _ rfl) ⟨rfl, Nat.ne_of_beq_eq_false rfl⟩ (Nat.le_of_ble_eq_true rfl) rfl ?_
        refine v_push (1) (hz_X8_reservedIndex hT _ _ rfl) rfl ?_
        refine v_store1 [some (2, 10), some (0, s), some (0, e), some (0, (x + 1)), some (0, s), some (0, 1), some (0, i), some (0, (zat D 3 i.toNat))] (hz_X8_reservedIndex hT _ _ rfl) ⟨rfl, Nat.ne_of_beq_eq_false rfl⟩ (Nat.le_of_ble_eq_true rfl) rfl ?_
        refine v_goto (hz_X8_reservedIndex hT _ _ rfl) ?_
        refine v_iinc (x := i) (u := 1) (w := (i + 1)) [some (2, 10), some (0, s), some (0, e), some (0, (x + 1)), some (0, s), some (0, 1), some (0, (i + 1)), some (0, (zat D 3 i.toNat))] (hi_X8_reservedIndex_94 hT) rfl rfl (Nat.le_of_ble_eq_true rfl) (vz_inc (by omega) (by omega)) rfl ?_
        refine v_goto (hi_X8_reservedIndex_97 hT) ?_
        exact k0 hc1 ha2 hb3 hc4 hc5
      · have hc5 : a ≠ 0 := hc5
        refine v_load (v := (0, m)) (hz_X8_reservedIndex hT _ _ rfl) rfl rfl ?_
        refine v_load (v := (0, e)) (hz_X8_reservedIndex hT _ _ rfl) rfl rfl ?_
        refine v_ic (hz_X8_reservedIndex hT _ _ rfl) (fun hc6 => ?_) (fun hc6 => ?_)
        · have hc6 : m = e := hc6
          refine v_load (v := (0, x)) (hz_X8_reservedIndex hT _ _ rfl) rfl rfl ?_
          refine v_ret (hz_X8_reservedIndex hT _ _ rfl) (Or.inl rfl) ?_
          exact k1 hc1 ha2 hb3 hc4 hc5 hc6
        · have hc6 : m ≠ e := hc6
          refine v_iinc (x := x) (u := 1) (w := (x + 1)) [some (2, 10), some (0, s), some (0, e), some (0, (x + 1)), some (0, m), some (0, a), some (0, i), some (0, (zat D 3 i.toNat))] (hz_X8_reservedIndex hT _ _ rfl) rfl rfl (Nat.le_of_ble_eq_true rfl) (vz_inc (by omega) (by omega)) rfl ?_
          refine v_load (v := (0, s)) (hz_X8_reservedIndex hT _ _ rfl) rfl rfl ?_
          refine v_store1 [some (2, 10), some (0, s), some (0, e), some (0, (x + 1)), some (0, s), some (0, a), some (0, i), some (0, (zat D 3 i.toNat))] (hz_X8_reservedIndex hT _ _ rfl) ⟨rfl, Nat.ne_of_beq_eq_false rfl⟩ (Nat.le_of_ble_eq_true rfl) rfl ?_
          refine v_push (1) (hz_X8_reservedIndex hT _ _ rfl) rfl ?_
          refine v_store1 [some (2, 10), some (0, s), some (0, e), some (0, (x + 1)), some (0, s), some (0, 1), some (0, i), some (0, (zat D 3 i.toNat))] (hz_X8_reservedIndex hT _ _ rfl) ⟨rfl, Nat.ne_of_beq_eq_false rfl⟩ (Nat.le_of_ble_eq_true rfl) rfl ?_
          refine v_goto (hz_X8_reservedIndex hT _ _ rfl) ?_
          refine v_iinc (x := i) (u := 1) (w := (i + 1)) [some (2, 10), some (0, s), some (0, e), some (0, (x + 1)), some (0, s), some (0, 1), some (0, (i + 1)), some (0, (zat D 3 i.toNat))] (hi_X8_reservedIndex_94 hT) rfl rfl (Nat.le_of_ble_eq_true rfl) (vz_inc (by omega) (by omega)) rfl ?_
          refine v_goto (hi_X8_reservedIndex_97 hT) ?_
          exact k2 hc1 ha2 hb3 hc4 hc5 hc6
    · have hc4 : (zat D 3 i.toNat) ≠ 32 := hc4
      refine v_load (v := (0, a)) (hz_X8_reservedIndex hT _ _ rfl) rfl rfl ?_
      refine v_if (hz_X8_reservedIndex hT _ _ rfl) (fun hc7 => ?_) (fun hc7 => ?_)
      · have hc7 : a = 0 := hc7
        refine v_push (0) (hz_X8_reservedIndex hT _ _ rfl) rfl ?_
        refine v_store1 [some (2, 10), some (0, s), some (0, e), some (0, x), some (0, m), some (0, 0), some (0, i), some (0, (zat D 3 i.toNat))] (hz_X8_reservedIndex hT _ _ rfl) ⟨rfl, Nat.ne_of_beq_eq_false rfl⟩ (Nat.le_of_ble_eq_true rfl) rfl ?_
        refine v_iinc (x := i) (u := 1) (w := (i + 1)) [some (2, 10), some (0, s), some (0, e), some (0, x), some (0, m), some (0, 0), some (0, (i + 1)), some (0, (zat D 3 i.toNat))] (hi_X8_reservedIndex_94 hT) rfl rfl (Nat.le_of_ble_eq_true rfl) (vz_inc (by omega) (by omega)) rfl ?_
        refine v_goto (hi_X8_reservedIndex_97 hT) ?_
        exact k3 hc1 ha2 hb3 hc4 hc7
      · have hc7 : a ≠ 0 := hc7
        refine v_load (v := (0, m)) (hz_X8_reservedIndex hT _ _ rfl) rfl rfl ?_
        refine v_load (v := (0, e)) (hz_X8_reservedIndex hT _ _ rfl) rfl rfl ?_
        refine v_ic (hz_X8_reservedIndex hT _ _ rfl) (fun hc8 => ?_) (fun hc8 => ?_)
        · have hc8 : m < e := hc8
          refine v_load (v := (2, 10)) (hz_X8_reservedIndex hT _ _ rfl) rfl rfl ?_
          refine v_getR (c := 11) (r := 10) (hz_X8_reservedIndex hT _ _ rfl) rfl rfl rfl ?_
          refine v_load (v := (0, m)) (hz_X8_reservedIndex hT _ _ rfl) rfl rfl ?_
          refine v_ald (t := 0) (r := 11) (hz_X8_reservedIndex hT _ _ rfl) rfl rfl rfl (fun ha9 hb10 => ?_)
          refine v_load (v := (0, (zat D 3 i.toNat))) (hz_X8_reservedIndex hT _ _ rfl) rfl rfl ?_
          refine v_ic (hz_X8_reservedIndex hT _ _ rfl) (fun hc11 => ?_) (fun hc11 => ?_)
          · have hc11 : (h 11 m.toNat).2 = (zat D 3 i.toNat) := hc11
            refine v_iinc (x := m) (u := 1) (w := (m + 1)) [some (2, 10), some (0, s), some (0, e), some (0, x), some (0, (m + 1)), some (0, a), some (0, i), some (0, (zat D 3 i.toNat))] (hz_X8_reservedIndex hT _ _ rfl) rfl rfl (Nat.le_of_ble_eq_true rfl) (vz_inc (by omega) (by omega)) rfl ?_
            refine v_goto (hz_X8_reservedIndex hT _ _ rfl) ?_
            refine v_iinc (x := i) (u := 1) (w := (i + 1)) [some (2, 10), some (0, s), some (0, e), some (0, x), some (0, (m + 1)), some (0, a), some (0, (i + 1)), some (0, (zat D 3 i.toNat))] (hi_X8_reservedIndex_94 hT) rfl rfl (Nat.le_of_ble_eq_true rfl) (vz_inc (by omega) (by omega)) rfl ?_
            refine v_goto (hi_X8_reservedIndex_97 hT) ?_
            exact k4 hc1 ha2 hb3 hc4 hc7 hc8 ha9 hb10 hc11
          · have hc11 : (h 11 m.toNat).2 ≠ (zat D 3 i.toNat) := hc11
            refine v_push (0) (hz_X8_reservedIndex hT _ _ rfl) rfl ?_
            refine v_store1 [some (2, 10), some (0, s), some (0, e), some (0, x), some (0, m), some (0, 0), some (0, i), some (0, (zat D 3 i.toNat))] (hz_X8_reservedIndex hT _ _ rfl) ⟨rfl, Nat.ne_of_beq_eq_false rfl⟩ (Nat.le_of_ble_eq_true rfl) rfl ?_
            refine v_iinc (x := i) (u := 1) (w := (i + 1)) [some (2, 10), some (0, s), some (0, e), some (0, x), some (0, m), some (0, 0), some (0, (i + 1)), some (0, (zat D 3 i.toNat))] (hi_X8_reservedIndex_94 hT) rfl rfl (Nat.le_of_ble_eq_true rfl) (vz_inc (by omega) (by omega)) rfl ?_
            refine v_goto (hi_X8_reservedIndex_97 hT) ?_
            exact k5 hc1 ha2 hb3 hc4 hc7 hc8 ha9 hb10 hc11
        · have hc8 : e ≤ m := Int.not_lt.mp hc8
          refine v_push (0) (hz_X8_reservedIndex hT _ _ rfl) rfl ?_
          refine v_store1 [some (2, 10), some (0, s), some (0, e), some (0, x), some (0, m), some (0, 0), some (0, i), some (0, (zat D 3 i.toNat))] (hz_X8_reservedIndex hT _ _ rfl) ⟨rfl, Nat.ne_of_beq_eq_false rfl⟩ (Nat.le_of_ble_eq_true rfl) rfl ?_
          refine v_iinc (x := i) (u := 1) (w := (i + 1)) [some (2, 10), some (0, s), some (0, e), some (0, x), some (0, m), some (0, 0), some (0, (i + 1)), some (0, (zat D 3 i.toNat))] (hi_X8_reservedIndex_94 hT) rfl rfl (Nat.le_of_ble_eq_true rfl) (vz_inc (by omega) (by omega)) rfl ?_
          refine v_goto (hi_X8_reservedIndex_97 hT) ?_
          exact k6 hc1 ha2 hb3 hc4 hc7 hc8
  · have hc1 : (zlen D 3 : Int) ≤ i := Int.not_lt.mp hc1
    refine v_push (-1) (hz_X8_reservedIndex hT _ _ rfl) rfl ?_
    refine v_ret (hz_X8_reservedIndex hT _ _ rfl) (Or.inl rfl) ?_
    exact k7 hc1
theorem q_num0 {D : zD} {T : zT} (hT : hTab T) (hO : vOK T) {N : Nat} {h : zH} {Q : zR → Prop} (t n : Int) (hv0 : zHv h)
    (k0 : (0 ≤ t) → (t < 901) → vP D T N 118 10 h [some (2, 10), some (0, t), some (0, n), some (0, (h 13 t.toNat).2), some (0, 0)] [] Q) :
    vP D T N 118 0 h [some (2, 10), some (0, t), some (0, n), none, none] [] Q := by
  refine v_load (v := (2, 10)) (hz_X8_scanNumber hT _ _ rfl) rfl rfl ?_
  refine v_getR (c := 13) (r := 10) (hz_X8_scanNumber hT _ _ rfl) rfl rfl rfl ?_
  refine v_load (v := (0, t)) (hz_X8_scanNumber hT _ _ rfl) rfl rfl ?_
  refine v_ald (t := 0) (r := 13) (hz_X8_scanNumber hT _ _ rfl) rfl rfl rfl (fun ha1 hb2 => ?_)
  refine v_store1 [some (2, 10), some (0, t), some (0, n), some (0, (h 13 t.toNat).2), none] (hz_X8_scanNumber hT _ _ rfl) ⟨rfl, Nat.ne_of_beq_eq_false rfl⟩ (Nat.le_of_ble_eq_true rfl) rfl ?_
  refine v_push (0) (hz_X8_scanNumber hT _ _ rfl) rfl ?_
  refine v_store1 [some (2, 10), some (0, t), some (0, n), some (0, (h 13 t.toNat).2), some (0, 0)] (hz_X8_scanNumber hT _ _ rfl) ⟨rfl, Nat.ne_of_beq_eq_false rfl⟩ (Nat.le_of_ble_eq_true rfl) rfl ?_
  exact k0 ha1 hb2
theorem q_num10 {D : zD} {T : zT} (hT : hTab T) (hO : vOK T) {N : Nat} {h : zH} {Q : zR → Prop} (t n e v : Int) (hv0 : zHv h) (b13 : 0 ≤ (h 13 t.toNat).2 ∧ (h 13 t.toNat).2 ≤ 900) (be : 0 ≤ e ∧ e ≤ 900)
    (k0 : (e < n) → (0 ≤ e) → (e < 900) → ((iD ((h 11 e.toNat).2)) = 0) → (0 ≤ t) → (t < 901) → (4 < (e - (h 13 t.toNat).2)) → Q (zset (zset (zset h 12 t.toNat (0, 4)) 14 t.toNat (0, e)) 15 t.toNat (0, v), none))
    (k1 : (e < n) → (0 ≤ e) → (e < 900) → ((iD ((h 11 e.toNat).2)) = 0) → (0 ≤ t) → (t < 901) → ((e - (h 13 t.toNat).2) ≤ 4) → Q (zset (zset (zset h 12 t.toNat (0, 2)) 14 t.toNat (0, e)) 15 t.toNat (0, v), none))
    (k2 : (e < n) → (0 ≤ e) → (e < 900) → ((iD ((h 11 e.toNat).2)) ≠ 0) → vP D T N 118 10 h [some (2, 10), some (0, t), some (0, n), some (0, (e + 1)), some (0, (v32 0 ((v32 2 v 10)) ((v32 1 ((h 11 e.toNat).2) 48))))] [] Q)
    (k3 : (n ≤ e) → (0 ≤ t) → (t < 901) → (4 < (e - (h 13 t.toNat).2)) → Q (zset (zset (zset h 12 t.toNat (0, 4)) 14 t.toNat (0, e)) 15 t.toNat (0, v), none))
    (k4 : (n ≤ e) → (0 ≤ t) → (t < 901) → ((e - (h 13 t.toNat).2) ≤ 4) → Q (zset (zset (zset h 12 t.toNat (0, 2)) 14 t.toNat (0, e)) 15 t.toNat (0, v), none)) :
    vP D T (N + 1) 118 10 h [some (2, 10), some (0, t), some (0, n), some (0, e), some (0, v)] [] Q := by
  refine v_loadS (v := (0, e)) (hz_X8_scanNumber hT _ _ rfl) rfl rfl ?_
  refine v_load (v := (0, n)) (hz_X8_scanNumber hT _ _ rfl) rfl rfl ?_
  refine v_ic (hz_X8_scanNumber hT _ _ rfl) (fun hc1 => ?_) (fun hc1 => ?_)
  · have hc1 : e < n := hc1
    refine v_load (v := (2, 10)) (hz_X8_scanNumber hT _ _ rfl) rfl rfl ?_
    refine v_getR (c := 11) (r := 10) (hz_X8_scanNumber hT _ _ rfl) rfl rfl rfl ?_
    refine v_load (v := (0, e)) (hz_X8_scanNumber hT _ _ rfl) rfl rfl ?_
    refine v_ald (t := 0) (r := 11) (hz_X8_scanNumber hT _ _ rfl) rfl rfl rfl (fun ha2 hb3 => ?_)
    refine v_call (w := 1) [some (0, (h 11 e.toNat).2)] hO (hz_X8_scanNumber hT _ _ rfl) rfl rfl (b_digit hT hO ((h 11 e.toNat).2) ?_)
    show vP D T N 118 24 h [some (2, 10), some (0, t), some (0, n), some (0, e), some (0, v)] [(0, (iD ((h 11 e.toNat).2)))] _
    refine v_if (hz_X8_scanNumber hT _ _ rfl) (fun hc4 => ?_) (fun hc4 => ?_)
    · have hc4 : (iD ((h 11 e.toNat).2)) = 0 := hc4
      refine v_load (v := (2, 10)) (hz_X8_scanNumber hT _ _ rfl) rfl rfl ?_
      refine v_getR (c := 12) (r := 10) (hz_X8_scanNumber hT _ _ rfl) rfl rfl rfl ?_
      refine v_load (v := (0, t)) (hz_X8_scanNumber hT _ _ rfl) rfl rfl ?_
      refine v_load (v := (0, e)) (hz_X8_scanNumber hT _ _ rfl) rfl rfl ?_
      refine v_load (v := (2, 10)) (hz_X8_scanNumber hT _ _ rfl) rfl rfl ?_
      refine v_getR (c := 13) (r := 10) (hz_X8_scanNumber hT _ _ rfl) rfl rfl rfl ?_
      refine v_load (v := (0, t)) (hz_X8_scanNumber hT _ _ rfl) rfl rfl ?_
      refine v_ald (t := 0) (r := 13) (hz_X8_scanNumber hT _ _ rfl) rfl rfl rfl (fun ha5 hb6 => ?_)
      refine v_bin (w := (e - (h 13 t.toNat).2)) (hz_X8_scanNumber hT _ _ rfl) (hq_sub (by omega) (by omega)) ?_
      refine v_push (4) (hz_X8_scanNumber hT _ _ rfl) rfl ?_
      refine v_ic (hz_X8_scanNumber hT _ _ rfl) (fun hc7 => ?_) (fun hc7 => ?_)
      · have hc7 : 4 < (e - (h 13 t.toNat).2) := hc7
        refine v_push (4) (hz_X8_scanNumber hT _ _ rfl) rfl ?_
        refine v_ast (r := 12) (hi_X8_scanNumber_72 hT) rfl rfl (fun ha8 hb9 hf10 => ?_)
        refine v_load (v := (2, 10)) (hi_X8_scanNumber_73 hT) rfl rfl ?_
        refine v_getR (c := 14) (r := 10) (hi_X8_scanNumber_74 hT) rfl rfl rfl ?_
        refine v_load (v := (0, t)) (hi_X8_scanNumber_77 hT) rfl rfl ?_
        refine v_load (v := (0, e)) (hi_X8_scanNumber_78 hT) rfl rfl ?_
        refine v_ast (r := 14) (hi_X8_scanNumber_79 hT) rfl rfl (fun ha11 hb12 hf13 => ?_)
        refine v_load (v := (2, 10)) (hi_X8_scanNumber_80 hT) rfl rfl ?_
        refine v_getR (c := 15) (r := 10) (hi_X8_scanNumber_81 hT) rfl rfl rfl ?_
        refine v_load (v := (0, t)) (hi_X8_scanNumber_84 hT) rfl rfl ?_
        refine v_load (v := (0, v)) (hi_X8_scanNumber_85 hT) rfl rfl ?_
        refine v_ast (r := 15) (hi_X8_scanNumber_87 hT) rfl rfl (fun ha14 hb15 hf16 => ?_)
        refine v_ret0 (hi_X8_scanNumber_88 hT) ?_
        exact k0 hc1 ha2 hb3 hc4 ha5 hb6 hc7
      · have hc7 : (e - (h 13 t.toNat).2) ≤ 4 := Int.not_lt.mp hc7
        refine v_push (2) (hz_X8_scanNumber hT _ _ rfl) rfl ?_
        refine v_goto (hz_X8_scanNumber hT _ _ rfl) ?_
        refine v_ast (r := 12) (hi_X8_scanNumber_72 hT) rfl rfl (fun ha17 hb18 hf19 => ?_)
        refine v_load (v := (2, 10)) (hi_X8_scanNumber_73 hT) rfl rfl ?_
        refine v_getR (c := 14) (r := 10) (hi_X8_scanNumber_74 hT) rfl rfl rfl ?_
        refine v_load (v := (0, t)) (hi_X8_scanNumber_77 hT) rfl rfl ?_
        refine v_load (v := (0, e)) (hi_X8_scanNumber_78 hT) rfl rfl ?_
        refine v_ast (r := 14) (hi_X8_scanNumber_79 hT) rfl rfl (fun ha20 hb21 hf22 => ?_)
        refine v_load (v := (2, 10)) (hi_X8_scanNumber_80 hT) rfl rfl ?_
        refine v_getR (c := 15) (r := 10) (hi_X8_scanNumber_81 hT) rfl rfl rfl ?_
        refine v_load (v := (0, t)) (hi_X8_scanNumber_84 hT) rfl rfl ?_
        refine v_load (v := (0, v)) (hi_X8_scanNumber_85 hT) rfl rfl ?_
        refine v_ast (r := 15) (hi_X8_scanNumber_87 hT) rfl rfl (fun ha23 hb24 hf25 => ?_)
        refine v_ret0 (hi_X8_scanNumber_88 hT) ?_
        exact k1 hc1 ha2 hb3 hc4 ha5 hb6 hc7
    · have hc4 : (iD ((h 11 e.toNat).2)) ≠ 0 := hc4
      refine v_load (v := (0, v)) (hz_X8_scanNumber hT _ _ rfl) rfl rfl ?_
      refine v_push (10) (hz_X8_scanNumber hT _ _ rfl) rfl ?_
      refine v_bin (w := (v32 2 v 10)) (hz_X8_scanNumber hT _ _ rfl) rfl ?_
      refine v_load (v := (2, 10)) (hz_X8_scanNumber hT _ _ rfl) rfl rfl ?_
      refine v_getR (c := 11) (r := 10) (hz_X8_scanNumber hT _ _ rfl) rfl rfl rfl ?_
      refine v_load (v := (0, e)) (hz_X8_scanNumber hT _ _ rfl) rfl rfl ?_
      refine v_ald (t := 0) (r := 11) (hz_X8_scanNumber hT _ _ rfl) rfl rfl rfl (fun ha26 hb27 => ?_)
      refine v_push (48) (hz_X8_scanNumber hT _ _ rfl) rfl ?_
      refine v_bin (w := (v32 1 ((h 11 e.toNat).2) 48)) (hz_X8_scanNumber hT _ _ rfl) rfl ?_
      refine v_bin (w := (v32 0 ((v32 2 v 10)) ((v32 1 ((h 11 e.toNat).2) 48)))) (hz_X8_scanNumber hT _ _ rfl) rfl ?_
      refine v_store1 [some (2, 10), some (0, t), some (0, n), some (0, e), some (0, (v32 0 ((v32 2 v 10)) ((v32 1 ((h 11 e.toNat).2) 48))))] (hz_X8_scanNumber hT _ _ rfl) ⟨rfl, Nat.ne_of_beq_eq_false rfl⟩ (Nat.le_of_ble_eq_true rfl) rfl ?_
      refine v_iinc (x := e) (u := 1) (w := (e + 1)) [some (2, 10), some (0, t), some (0, n), some (0, (e + 1)), some (0, (v32 0 ((v32 2 v 10)) ((v32 1 ((h 11 e.toNat).2) 48))))] (hz_X8_scanNumber hT _ _ rfl) rfl rfl (Nat.le_of_ble_eq_true rfl) (vz_inc (by omega) (by omega)) rfl ?_
      refine v_goto (hz_X8_scanNumber hT _ _ rfl) ?_
      exact k2 hc1 ha2 hb3 hc4
  · have hc1 : n ≤ e := Int.not_lt.mp hc1
    refine v_load (v := (2, 10)) (hz_X8_scanNumber hT _ _ rfl) rfl rfl ?_
    refine v_getR (c := 12) (r := 10) (hz_X8_scanNumber hT _ _ rfl) rfl rfl rfl ?_
    refine v_load (v := (0, t)) (hz_X8_scanNumber hT _ _ rfl) rfl rfl ?_
    refine v_load (v := (0, e)) (hz_X8_scanNumber hT _ _ rfl) rfl rfl ?_
    refine v_load (v := (2, 10)) (hz_X8_scanNumber hT _ _ rfl) rfl rfl ?_
    refine v_getR (c := 13) (r := 10) (hz_X8_scanNumber hT _ _ rfl) rfl rfl rfl ?_
    refine v_load (v := (0, t)) (hz_X8_scanNumber hT _ _ rfl) rfl rfl ?_
    refine v_ald (t := 0) (r := 13) (hz_X8_scanNumber hT _ _ rfl) rfl rfl rfl (fun ha28 hb29 => ?_)
    refine v_bin (w := (e - (h 13 t.toNat).2)) (hz_X8_scanNumber hT _ _ rfl) (hq_sub (by omega) (by omega)) ?_
    refine v_push (4) (hz_X8_scanNumber hT _ _ rfl) rfl ?_
    refine v_ic (hz_X8_scanNumber hT _ _ rfl) (fun hc30 => ?_) (fun hc30 => ?_)
    · have hc30 : 4 < (e - (h 13 t.toNat).2) := hc30
      refine v_push (4) (hz_X8_scanNumber hT _ _ rfl) rfl ?_
      refine v_ast (r := 12) (hi_X8_scanNumber_72 hT) rfl rfl (fun ha31 hb32 hf33 => ?_)
      refine v_load (v := (2, 10)) (hi_X8_scanNumber_73 hT) rfl rfl ?_
      refine v_getR (c := 14) (r := 10) (hi_X8_scanNumber_74 hT) rfl rfl rfl ?_
      refine v_load (v := (0, t)) (hi_X8_scanNumber_77 hT) rfl rfl ?_
      refine v_load (v := (0, e)) (hi_X8_scanNumber_78 hT) rfl rfl ?_
      refine v_ast (r := 14) (hi_X8_scanNumber_79 hT) rfl rfl (fun ha34 hb35 hf36 => ?_)
      refine v_load (v := (2, 10)) (hi_X8_scanNumber_80 hT) rfl rfl ?_
      refine v_getR (c := 15) (r := 10) (hi_X8_scanNumber_81 hT) rfl rfl rfl ?_
      refine v_load (v := (0, t)) (hi_X8_scanNumber_84 hT) rfl rfl ?_
      refine v_load (v := (0, v)) (hi_X8_scanNumber_85 hT) rfl rfl ?_
      refine v_ast (r := 15) (hi_X8_scanNumber_87 hT) rfl rfl (fun ha37 hb38 hf39 => ?_)
      refine v_ret0 (hi_X8_scanNumber_88 hT) ?_
      exact k3 hc1 ha28 hb29 hc30
    · have hc30 : (e - (h 13 t.toNat).2) ≤ 4 := Int.not_lt.mp hc30
      refine v_push (2) (hz_X8_scanNumber hT _ _ rfl) rfl ?_
      refine v_goto (hz_X8_scanNumber hT _ _ rfl) ?_
      refine v_ast (r := 12) (hi_X8_scanNumber_72 hT) rfl rfl (fun ha40 hb41 hf42 => ?_)
      refine v_load (v := (2, 10)) (hi_X8_scanNumber_73 hT) rfl rfl ?_
      refine v_getR (c := 14) (r := 10) (hi_X8_scanNumber_74 hT) rfl rfl rfl ?_
      refine v_load (v := (0, t)) (hi_X8_scanNumber_77 hT) rfl rfl ?_
      refine v_load (v := (0, e)) (hi_X8_scanNumber_78 hT) rfl rfl ?_
      refine v_ast (r := 14) (hi_X8_scanNumber_79 hT) rfl rfl (fun ha43 hb44 hf45 => ?_)
      refine v_load (v := (2, 10)) (hi_X8_scanNumber_80 hT) rfl rfl ?_
      refine v_getR (c := 15) (r := 10) (hi_X8_scanNumber_81 hT) rfl rfl rfl ?_
      refine v_load (v := (0, t)) (hi_X8_scanNumber_84 hT) rfl rfl ?_
      refine v_load (v := (0, v)) (hi_X8_scanNumber_85 hT) rfl rfl ?_
      refine v_ast (r := 15) (hi_X8_scanNumber_87 hT) rfl rfl (fun ha46 hb47 hf48 => ?_)
      refine v_ret0 (hi_X8_scanNumber_88 hT) ?_
      exact k4 hc1 ha28 hb29 hc30
theorem q_word0 {D : zD} {T : zT} (hT : hTab T) (hO : vOK T) {N : Nat} {h : zH} {Q : zR → Prop} (t n : Int) (hv0 : zHv h)
    (k0 : (0 ≤ t) → (t < 901) → vP D T N 120 7 h [some (2, 10), some (0, t), some (0, n), some (0, (h 13 t.toNat).2)] [] Q) :
    vP D T N 120 0 h [some (2, 10), some (0, t), some (0, n), none] [] Q := by
  refine v_load (v := (2, 10)) (hz_X8_scanWord hT _ _ rfl) rfl rfl ?_
  refine v_getR (c := 13) (r := 10) (hz_X8_scanWord hT _ _ rfl) rfl rfl rfl ?_
  refine v_load (v := (0, t)) (hz_X8_scanWord hT _ _ rfl) rfl rfl ?_
  refine v_ald (t := 0) (r := 13) (hz_X8_scanWord hT _ _ rfl) rfl rfl rfl (fun ha1 hb2 => ?_)
  refine v_store1 [some (2, 10), some (0, t), some (0, n), some (0, (h 13 t.toNat).2)] (hz_X8_scanWord hT _ _ rfl) ⟨rfl, Nat.ne_of_beq_eq_false rfl⟩ (Nat.le_of_ble_eq_true rfl) rfl ?_
  exact k0 ha1 hb2
theorem q_word7 {D : zD} {T : zT} (hT : hTab T) (hO : vOK T) {N : Nat} {h : zH} {Q : zR → Prop} (t n e : Int) (hv0 : zHv h) (be : 0 ≤ e ∧ e ≤ 900)
    (k0 : (e < n) → (0 ≤ e) → (e < 900) → ((iL ((h 11 e.toNat).2)) = 0) → (0 ≤ t) → (t < 901) → vP D T N 117 0 (zset (zset h 12 t.toNat (0, 1)) 14 t.toNat (0, e)) [some (2, 10), some (0, (h 13 t.toNat).2), some (0, e), none, none, none, none, none] [] (fun r1 => vP D T N 120 60 r1.1 [some (2, 10), some (0, t), some (0, n), some (0, e)] (zpush r1.2 [(0, t), (2, 15)]) Q))
    (k1 : (e < n) → (0 ≤ e) → (e < 900) → ((iL ((h 11 e.toNat).2)) ≠ 0) → vP D T N 120 7 h [some (2, 10), some (0, t), some (0, n), some (0, (e + 1))] [] Q)
    (k2 : (n ≤ e) → (0 ≤ t) → (t < 901) → vP D T N 117 0 (zset (zset h 12 t.toNat (0, 1)) 14 t.toNat (0, e)) [some (2, 10), some (0, (h 13 t.toNat).2), some (0, e), none, none, none, none, none] [] (fun r1 => vP D T N 120 60 r1.1 [some (2, 10), some (0, t), some (0, n), some (0, e)] (zpush r1.2 [(0, t), (2, 15)]) Q)) :
    vP D T (N + 1) 120 7 h [some (2, 10), some (0, t), some (0, n), some (0, e)] [] Q := by
  refine v_loadS (v := (0, e)) (hz_X8_scanWord hT _ _ rfl) rfl rfl ?_
  refine v_load (v := (0, n)) (hz_X8_scanWord hT _ _ rfl) rfl rfl ?_
  refine v_ic (hz_X8_scanWord hT _ _ rfl) (fun hc1 => ?_) (fun hc1 => ?_)
  · have hc1 : e < n := hc1
    refine v_load (v := (2, 10)) (hz_X8_scanWord hT _ _ rfl) rfl rfl ?_
    refine v_getR (c := 11) (r := 10) (hz_X8_scanWord hT _ _ rfl) rfl rfl rfl ?_
    refine v_load (v := (0, e)) (hz_X8_scanWord hT _ _ rfl) rfl rfl ?_
    refine v_ald (t := 0) (r := 11) (hz_X8_scanWord hT _ _ rfl) rfl rfl rfl (fun ha2 hb3 => ?_)
    refine v_call (w := 1) [some (0, (h 11 e.toNat).2)] hO (hz_X8_scanWord hT _ _ rfl) rfl rfl (b_letter hT hO ((h 11 e.toNat).2) ?_)
    show vP D T N 120 21 h [some (2, 10), some (0, t), some (0, n), some (0, e)] [(0, (iL ((h 11 e.toNat).2)))] _
    refine v_if (hz_X8_scanWord hT _ _ rfl) (fun hc4 => ?_) (fun hc4 => ?_)
    · have hc4 : (iL ((h 11 e.toNat).2)) = 0 := hc4
      refine v_load (v := (2, 10)) (hz_X8_scanWord hT _ _ rfl) rfl rfl ?_
      refine v_getR (c := 12) (r := 10) (hz_X8_scanWord hT _ _ rfl) rfl rfl rfl ?_
      refine v_load (v := (0, t)) (hz_X8_scanWord hT _ _ rfl) rfl rfl ?_
      refine v_push (1) (hz_X8_scanWord hT _ _ rfl) rfl ?_
      refine v_ast (r := 12) (hz_X8_scanWord hT _ _ rfl) rfl rfl (fun ha5 hb6 hf7 => ?_)
      refine v_load (v := (2, 10)) (hz_X8_scanWord hT _ _ rfl) rfl rfl ?_
      refine v_getR (c := 14) (r := 10) (hz_X8_scanWord hT _ _ rfl) rfl rfl rfl ?_
      refine v_load (v := (0, t)) (hz_X8_scanWord hT _ _ rfl) rfl rfl ?_
      refine v_load (v := (0, e)) (hz_X8_scanWord hT _ _ rfl) rfl rfl ?_
      refine v_ast (r := 14) (hz_X8_scanWord hT _ _ rfl) rfl rfl (fun ha8 hb9 hf10 => ?_)
      refine v_load (v := (2, 10)) (hz_X8_scanWord hT _ _ rfl) rfl rfl ?_
      refine v_getR (c := 15) (r := 10) (hz_X8_scanWord hT _ _ rfl) rfl rfl rfl ?_
      refine v_load (v := (0, t)) (hz_X8_scanWord hT _ _ rfl) rfl rfl ?_
      refine v_load (v := (2, 10)) (hz_X8_scanWord hT _ _ rfl) rfl rfl ?_
      refine v_load (v := (2, 10)) (hz_X8_scanWord hT _ _ rfl) rfl rfl ?_
      refine v_getR (c := 13) (r := 10) (hz_X8_scanWord hT _ _ rfl) rfl rfl rfl ?_
      refine v_load (v := (0, t)) (hz_X8_scanWord hT _ _ rfl) rfl rfl ?_
      refine v_aldE (t := 0) (r := 13) (w := (h 13 t.toNat).2) (hz_X8_scanWord hT _ _ rfl) rfl rfl rfl (congrArg Prod.snd (Eq.trans (zset_ne (fun c => absurd c.1 (by decide))) (zset_ne (fun c => absurd c.1 (by decide))))) (fun ha11 hb12 => ?_)
      refine v_load (v := (0, e)) (hz_X8_scanWord hT _ _ rfl) rfl rfl ?_
      refine v_call (w := 8) [some (2, 10), some (0, (h 13 t.toNat).2), some (0, e), none, none, none, none, none] hO (hz_X8_scanWord hT _ _ rfl) rfl rfl ?_
      exact k0 hc1 ha2 hb3 hc4 ha5 hb6
    · have hc4 : (iL ((h 11 e.toNat).2)) ≠ 0 := hc4
      refine v_iinc (x := e) (u := 1) (w := (e + 1)) [some (2, 10), some (0, t), some (0, n), some (0, (e + 1))] (hz_X8_scanWord hT _ _ rfl) rfl rfl (Nat.le_of_ble_eq_true rfl) (vz_inc (by omega) (by omega)) rfl ?_
      refine v_goto (hz_X8_scanWord hT _ _ rfl) ?_
      exact k1 hc1 ha2 hb3 hc4
  · have hc1 : n ≤ e := Int.not_lt.mp hc1
    refine v_load (v := (2, 10)) (hz_X8_scanWord hT _ _ rfl) rfl rfl ?_
    refine v_getR (c := 12) (r := 10) (hz_X8_scanWord hT _ _ rfl) rfl rfl rfl ?_
    refine v_load (v := (0, t)) (hz_X8_scanWord hT _ _ rfl) rfl rfl ?_
    refine v_push (1) (hz_X8_scanWord hT _ _ rfl) rfl ?_
    refine v_ast (r := 12) (hz_X8_scanWord hT _ _ rfl) rfl rfl (fun ha13 hb14 hf15 => ?_)
    refine v_load (v := (2, 10)) (hz_X8_scanWord hT _ _ rfl) rfl rfl ?_
    refine v_getR (c := 14) (r := 10) (hz_X8_scanWord hT _ _ rfl) rfl rfl rfl ?_
    refine v_load (v := (0, t)) (hz_X8_scanWord hT _ _ rfl) rfl rfl ?_
    refine v_load (v := (0, e)) (hz_X8_scanWord hT _ _ rfl) rfl rfl ?_
    refine v_ast (r := 14) (hz_X8_scanWord hT _ _ rfl) rfl rfl (fun ha16 hb17 hf18 => ?_)
    refine v_load (v := (2, 10)) (hz_X8_scanWord hT _ _ rfl) rfl rfl ?_
    refine v_getR (c := 15) (r := 10) (hz_X8_scanWord hT _ _ rfl) rfl rfl rfl ?_
    refine v_load (v := (0, t)) (hz_X8_scanWord hT _ _ rfl) rfl rfl ?_
    refine v_load (v := (2, 10)) (hz_X8_scanWord hT _ _ rfl) rfl rfl ?_
    refine v_load (v := (2, 10)) (hz_X8_scanWord hT _ _ rfl) rfl rfl ?_
    refine v_getR (c := 13) (r := 10) (hz_X8_scanWord hT _ _ rfl) rfl rfl rfl ?_
    refine v_load (v := (0, t)) (hz_X8_scanWord hT _ _ rfl) rfl rfl ?_
    refine v_aldE (t := 0) (r := 13) (w := (h 13 t.toNat).2) (hz_X8_scanWord hT _ _ rfl) rfl rfl rfl (congrArg Prod.snd (Eq.trans (zset_ne (fun c => absurd c.1 (by decide))) (zset_ne (fun c => absurd c.1 (by decide))))) (fun ha19 hb20 => ?_)
    refine v_load (v := (0, e)) (hz_X8_scanWord hT _ _ rfl) rfl rfl ?_
    refine v_call (w := 8) [some (2, 10), some (0, (h 13 t.toNat).2), some (0, e), none, none, none, none, none] hO (hz_X8_scanWord hT _ _ rfl) rfl rfl ?_
    exact k2 hc1 ha13 hb14
theorem q_word60 {D : zD} {T : zT} (hT : hTab T) (hO : vOK T) {N : Nat} {h : zH} {Q : zR → Prop} (t n e v : Int) (hv0 : zHv h)
    (k0 : (0 ≤ t) → (t < 901) → Q (zset h 15 t.toNat (0, v), none)) :
    vP D T N 120 60 h [some (2, 10), some (0, t), some (0, n), some (0, e)] [(0, v), (0, t), (2, 15)] Q := by
  refine v_ast (r := 15) (hz_X8_scanWord hT _ _ rfl) rfl rfl (fun ha1 hb2 hf3 => ?_)
  refine v_ret0 (hz_X8_scanWord hT _ _ rfl) ?_
  exact k0 ha1 hb2
theorem q_scan0 {D : zD} {T : zT} (hT : hTab T) (hO : vOK T) {N : Nat} {h : zH} {Q : zR → Prop} (t f n : Int) (hv0 : zHv h)
    (k0 : vP D T N 119 3 h [some (2, 10), some (0, t), some (0, f), some (0, n), some (0, f)] [] Q) :
    vP D T N 119 0 h [some (2, 10), some (0, t), some (0, f), some (0, n), none] [] Q := by
  refine v_load (v := (0, f)) (hz_X8_scanToken hT _ _ rfl) rfl rfl ?_
  refine v_store1 [some (2, 10), some (0, t), some (0, f), some (0, n), some (0, f)] (hz_X8_scanToken hT _ _ rfl) ⟨rfl, Nat.ne_of_beq_eq_false rfl⟩ (Nat.le_of_ble_eq_true rfl) rfl ?_
  exact k0 
theorem q_scan3 {D : zD} {T : zT} (hT : hTab T) (hO : vOK T) {N : Nat} {h : zH} {Q : zR → Prop} (t f n s : Int) (hv0 : zHv h) (bs : 0 ≤ s ∧ s ≤ 900)
    (k0 : (s < n) → (0 ≤ s) → (s < 900) → ((iB ((h 11 s.toNat).2)) = 0) → (0 ≤ t) → (t < 901) → ((iL ((h 11 s.toNat).2)) = 0) → ((iD ((h 11 s.toNat).2)) = 0) → ((iS ((h 11 s.toNat).2)) = 0) → Q (zset (zset (zset (zset (zset (zset h 13 t.toNat (0, s)) 14 t.toNat (0, s)) 15 t.toNat (0, -1)) 12 t.toNat (0, 4)) 15 t.toNat (0, (h 11 s.toNat).2)) 14 t.toNat (0, (s + 1)), none))
    (k1 : (s < n) → (0 ≤ s) → (s < 900) → ((iB ((h 11 s.toNat).2)) = 0) → (0 ≤ t) → (t < 901) → ((iL ((h 11 s.toNat).2)) = 0) → ((iD ((h 11 s.toNat).2)) = 0) → ((iS ((h 11 s.toNat).2)) ≠ 0) → Q (zset (zset (zset (zset (zset (zset h 13 t.toNat (0, s)) 14 t.toNat (0, s)) 15 t.toNat (0, -1)) 12 t.toNat (0, 3)) 15 t.toNat (0, (h 11 s.toNat).2)) 14 t.toNat (0, (s + 1)), none))
    (k2 : (s < n) → (0 ≤ s) → (s < 900) → ((iB ((h 11 s.toNat).2)) = 0) → (0 ≤ t) → (t < 901) → ((iL ((h 11 s.toNat).2)) = 0) → ((iD ((h 11 s.toNat).2)) ≠ 0) → vP D T N 118 0 (zset (zset (zset h 13 t.toNat (0, s)) 14 t.toNat (0, s)) 15 t.toNat (0, -1)) [some (2, 10), some (0, t), some (0, n), none, none] [] (fun r1 => vP D T N 119 108 r1.1 [some (2, 10), some (0, t), some (0, f), some (0, n), some (0, s)] (zpush r1.2 []) Q))
    (k3 : (s < n) → (0 ≤ s) → (s < 900) → ((iB ((h 11 s.toNat).2)) = 0) → (0 ≤ t) → (t < 901) → ((iL ((h 11 s.toNat).2)) ≠ 0) → vP D T N 120 0 (zset (zset (zset h 13 t.toNat (0, s)) 14 t.toNat (0, s)) 15 t.toNat (0, -1)) [some (2, 10), some (0, t), some (0, n), none] [] (fun r1 => vP D T N 119 86 r1.1 [some (2, 10), some (0, t), some (0, f), some (0, n), some (0, s)] (zpush r1.2 []) Q))
    (k4 : (s < n) → (0 ≤ s) → (s < 900) → ((iB ((h 11 s.toNat).2)) ≠ 0) → vP D T N 119 3 h [some (2, 10), some (0, t), some (0, f), some (0, n), some (0, (s + 1))] [] Q)
    (k5 : (n ≤ s) → (0 ≤ t) → (t < 901) → Q (zset (zset (zset (zset h 13 t.toNat (0, s)) 14 t.toNat (0, s)) 15 t.toNat (0, -1)) 12 t.toNat (0, 0), none)) :
    vP D T (N + 1) 119 3 h [some (2, 10), some (0, t), some (0, f), some (0, n), some (0, s)] [] Q := by
  refine v_loadS (v := (0, s)) (hz_X8_scanToken hT _ _ rfl) rfl rfl ?_
  refine v_load (v := (0, n)) (hz_X8_scanToken hT _ _ rfl) rfl rfl ?_
  refine v_ic (hz_X8_scanToken hT _ _ rfl) (fun hc1 => ?_) (fun hc1 => ?_)
  · have hc1 : s < n := hc1
    refine v_load (v := (2, 10)) (hz_X8_scanToken hT _ _ rfl) rfl rfl ?_
    refine v_getR (c := 11) (r := 10) (hz_X8_scanToken hT _ _ rfl) rfl rfl rfl ?_
    refine v_load (v := (0, s)) (hz_X8_scanToken hT _ _ rfl) rfl rfl ?_
    refine v_ald (t := 0) (r := 11) (hz_X8_scanToken hT _ _ rfl) rfl rfl rfl (fun ha2 hb3 => ?_)
    refine v_call (w := 1) [some (0, (h 11 s.toNat).2)] hO (hz_X8_scanToken hT _ _ rfl) rfl rfl (b_blank hT hO ((h 11 s.toNat).2) ?_)
    show vP D T N 119 19 h [some (2, 10), some (0, t), some (0, f), some (0, n), some (0, s)] [(0, (iB ((h 11 s.toNat).2)))] _
    refine v_if (hz_X8_scanToken hT _ _ rfl) (fun hc4 => ?_) (fun hc4 => ?_)
    · have hc4 : (iB ((h 11 s.toNat).2)) = 0 := hc4
      refine v_load (v := (2, 10)) (hz_X8_scanToken hT _ _ rfl) rfl rfl ?_
      refine v_getR (c := 13) (r := 10) (hz_X8_scanToken hT _ _ rfl) rfl rfl rfl ?_
      refine v_load (v := (0, t)) (hz_X8_scanToken hT _ _ rfl) rfl rfl ?_
      refine v_load (v := (0, s)) (hz_X8_scanToken hT _ _ rfl) rfl rfl ?_
      refine v_ast (r := 13) (hz_X8_scanToken hT _ _ rfl) rfl rfl (fun ha5 hb6 hf7 => ?_)
      refine v_load (v := (2, 10)) (hz_X8_scanToken hT _ _ rfl) rfl rfl ?_
      refine v_getR (c := 14) (r := 10) (hz_X8_scanToken hT _ _ rfl) rfl rfl rfl ?_
      refine v_load (v := (0, t)) (hz_X8_scanToken hT _ _ rfl) rfl rfl ?_
      refine v_load (v := (0, s)) (hz_X8_scanToken hT _ _ rfl) rfl rfl ?_
      refine v_ast (r := 14) (hz_X8_scanToken hT _ _ rfl) rfl rfl (fun ha8 hb9 hf10 => ?_)
      refine v_load (v := (2, 10)) (hz_X8_scanToken hT _ _ rfl) rfl rfl ?_
      refine v_getR (c := 15) (r := 10) (hz_X8_scanToken hT _ _ rfl) rfl rfl rfl ?_
      refine v_load (v := (0, t)) (hz_X8_scanToken hT _ _ rfl) rfl rfl ?_
      refine v_push (-1) (hz_X8_scanToken hT _ _ rfl) rfl ?_
      refine v_ast (r := 15) (hz_X8_scanToken hT _ _ rfl) rfl rfl (fun ha11 hb12 hf13 => ?_)
      refine v_load (v := (0, s)) (hz_X8_scanToken hT _ _ rfl) rfl rfl ?_
      refine v_load (v := (0, n)) (hz_X8_scanToken hT _ _ rfl) rfl rfl ?_
      refine v_ic (hz_X8_scanToken hT _ _ rfl) (fun _ => ?_) (fun hc14 => absurd (show s < n from hc1) hc14)
      refine v_load (v := (2, 10)) (hz_X8_scanToken hT _ _ rfl) rfl rfl ?_
      refine v_getR (c := 11) (r := 10) (hz_X8_scanToken hT _ _ rfl) rfl rfl rfl ?_
      refine v_load (v := (0, s)) (hz_X8_scanToken hT _ _ rfl) rfl rfl ?_
      refine v_aldE (t := 0) (r := 11) (w := (h 11 s.toNat).2) (hz_X8_scanToken hT _ _ rfl) rfl rfl rfl (congrArg Prod.snd (Eq.trans (zset_ne (fun c => absurd c.1 (by decide))) (Eq.trans (zset_ne (fun c => absurd c.1 (by decide))) (zset_ne (fun c => absurd c.1 (by decide)))))) (fun ha15 hb16 => ?_)
      refine v_call (w := 1) [some (0, (h 11 s.toNat).2)] hO (hz_X8_scanToken hT _ _ rfl) rfl rfl (b_letter hT hO ((h 11 s.toNat).2) ?_)
      show vP D T N 119 77 (zset (zset (zset h 13 t.toNat (0, s)) 14 t.toNat (0, s)) 15 t.toNat (0, -1)) [some (2, 10), some (0, t), some (0, f), some (0, n), some (0, s)] [(0, (iL ((h 11 s.toNat).2)))] _
      refine v_if (hz_X8_scanToken hT _ _ rfl) (fun hc17 => ?_) (fun hc17 => ?_)
      · have hc17 : (iL ((h 11 s.toNat).2)) = 0 := hc17
        refine v_load (v := (2, 10)) (hz_X8_scanToken hT _ _ rfl) rfl rfl ?_
        refine v_getR (c := 11) (r := 10) (hz_X8_scanToken hT _ _ rfl) rfl rfl rfl ?_
        refine v_load (v := (0, s)) (hz_X8_scanToken hT _ _ rfl) rfl rfl ?_
        refine v_aldE (t := 0) (r := 11) (w := (h 11 s.toNat).2) (hz_X8_scanToken hT _ _ rfl) rfl rfl rfl (congrArg Prod.snd (Eq.trans (zset_ne (fun c => absurd c.1 (by decide))) (Eq.trans (zset_ne (fun c => absurd c.1 (by decide))) (zset_ne (fun c => absurd c.1 (by decide)))))) (fun ha18 hb19 => ?_)
        refine v_call (w := 1) [some (0, (h 11 s.toNat).2)] hO (hz_X8_scanToken hT _ _ rfl) rfl rfl (b_digit hT hO ((h 11 s.toNat).2) ?_)
        show vP D T N 119 99 (zset (zset (zset h 13 t.toNat (0, s)) 14 t.toNat (0, s)) 15 t.toNat (0, -1)) [some (2, 10), some (0, t), some (0, f), some (0, n), some (0, s)] [(0, (iD ((h 11 s.toNat).2)))] _
        refine v_if (hz_X8_scanToken hT _ _ rfl) (fun hc20 => ?_) (fun hc20 => ?_)
        · have hc20 : (iD ((h 11 s.toNat).2)) = 0 := hc20
          refine v_load (v := (2, 10)) (hz_X8_scanToken hT _ _ rfl) rfl rfl ?_
          refine v_getR (c := 12) (r := 10) (hz_X8_scanToken hT _ _ rfl) rfl rfl rfl ?_
          refine v_load (v := (0, t)) (hz_X8_scanToken hT _ _ rfl) rfl rfl ?_
          refine v_load (v := (2, 10)) (hz_X8_scanToken hT _ _ rfl) rfl rfl ?_
          refine v_getR (c := 11) (r := 10) (hz_X8_scanToken hT _ _ rfl) rfl rfl rfl ?_
          refine v_load (v := (0, s)) (hz_X8_scanToken hT _ _ rfl) rfl rfl ?_
          refine v_aldE (t := 0) (r := 11) (w := (h 11 s.toNat).2) (hz_X8_scanToken hT _ _ rfl) rfl rfl rfl (congrArg Prod.snd (Eq.trans (zset_ne (fun c => absurd c.1 (by decide))) (Eq.trans (zset_ne (fun c => absurd c.1 (by decide))) (zset_ne (fun c => absurd c.1 (by decide)))))) (fun ha21 hb22 => ?_)
          refine v_call (w := 1) [some (0, (h 11 s.toNat).2)] hO (hz_X8_scanToken hT _ _ rfl) rfl rfl (b_sign hT hO ((h 11 s.toNat).2) ?_)
          show vP D T N 119 126 (zset (zset (zset h 13 t.toNat (0, s)) 14 t.toNat (0, s)) 15 t.toNat (0, -1)) [some (2, 10), some (0, t), some (0, f), some (0, n), some (0, s)] [(0, (iS ((h 11 s.toNat).2))), (0, t), (2, 12)] _
          refine v_if (hz_X8_scanToken hT _ _ rfl) (fun hc23 => ?_) (fun hc23 => ?_)
          · have hc23 : (iS ((h 11 s.toNat).2)) = 0 := hc23
            refine v_push (4) (hz_X8_scanToken hT _ _ rfl) rfl ?_
            refine v_ast (r := 12) (hz_X8_scanToken hT _ _ rfl) rfl rfl (fun ha24 hb25 hf26 => ?_)
            refine v_load (v := (2, 10)) (hz_X8_scanToken hT _ _ rfl) rfl rfl ?_
            refine v_getR (c := 15) (r := 10) (hz_X8_scanToken hT _ _ rfl) rfl rfl rfl ?_
            refine v_load (v := (0, t)) (hz_X8_scanToken hT _ _ rfl) rfl rfl ?_
            refine v_load (v := (2, 10)) (hz_X8_scanToken hT _ _ rfl) rfl rfl ?_
            refine v_getR (c := 11) (r := 10) (hz_X8_scanToken hT _ _ rfl) rfl rfl rfl ?_
            refine v_load (v := (0, s)) (hz_X8_scanToken hT _ _ rfl) rfl rfl ?_
            refine v_aldE (t := 0) (r := 11) (w := (h 11 s.toNat).2) (hz_X8_scanToken hT _ _ rfl) rfl rfl rfl (congrArg Prod.snd (Eq.trans (zset_ne (fun c => absurd c.1 (by decide))) (Eq.trans (zset_ne (fun c => absurd c.1 (by decide))) (Eq.trans (zset_ne (fun c => absurd c.1 (by decide))) (zset_ne (fun c => absurd c.1 (by decide))))))) (fun ha27 hb28 => ?_)
            refine v_ast (r := 15) (hz_X8_scanToken hT _ _ rfl) rfl rfl (fun ha29 hb30 hf31 => ?_)
            refine v_load (v := (2, 10)) (hz_X8_scanToken hT _ _ rfl) rfl rfl ?_
            refine v_getR (c := 14) (r := 10) (hz_X8_scanToken hT _ _ rfl) rfl rfl rfl ?_
            refine v_load (v := (0, t)) (hz_X8_scanToken hT _ _ rfl) rfl rfl ?_
            refine v_load (v := (0, s)) (hz_X8_scanToken hT _ _ rfl) rfl rfl ?_
            refine v_push (1) (hz_X8_scanToken hT _ _ rfl) rfl ?_
            refine v_bin (w := (s + 1)) (hz_X8_scanToken hT _ _ rfl) (hq_add (by omega) (by omega)) ?_
            refine v_ast (r := 14) (hz_X8_scanToken hT _ _ rfl) rfl rfl (fun ha32 hb33 hf34 => ?_)
            refine v_ret0 (hi_X8_scanToken_158 hT) ?_
            exact k0 hc1 ha2 hb3 hc4 ha5 hb6 hc17 hc20 hc23
          · have hc23 : (iS ((h 11 s.toNat).2)) ≠ 0 := hc23
            refine v_push (3) (hz_X8_scanToken hT _ _ rfl) rfl ?_
            refine v_goto (hz_X8_scanToken hT _ _ rfl) ?_
            refine v_ast (r := 12) (hz_X8_scanToken hT _ _ rfl) rfl rfl (fun ha35 hb36 hf37 => ?_)
            refine v_load (v := (2, 10)) (hz_X8_scanToken hT _ _ rfl) rfl rfl ?_
            refine v_getR (c := 15) (r := 10) (hz_X8_scanToken hT _ _ rfl) rfl rfl rfl ?_
            refine v_load (v := (0, t)) (hz_X8_scanToken hT _ _ rfl) rfl rfl ?_
            refine v_load (v := (2, 10)) (hz_X8_scanToken hT _ _ rfl) rfl rfl ?_
            refine v_getR (c := 11) (r := 10) (hz_X8_scanToken hT _ _ rfl) rfl rfl rfl ?_
            refine v_load (v := (0, s)) (hz_X8_scanToken hT _ _ rfl) rfl rfl ?_
            refine v_aldE (t := 0) (r := 11) (w := (h 11 s.toNat).2) (hz_X8_scanToken hT _ _ rfl) rfl rfl rfl (congrArg Prod.snd (Eq.trans (zset_ne (fun c => absurd c.1 (by decide))) (Eq.trans (zset_ne (fun c => absurd c.1 (by decide))) (Eq.trans (zset_ne (fun c => absurd c.1 (by decide))) (zset_ne (fun c => absurd c.1 (by decide))))))) (fun ha38 hb39 => ?_)
            refine v_ast (r := 15) (hz_X8_scanToken hT _ _ rfl) rfl rfl (fun ha40 hb41 hf42 => ?_)
            refine v_load (v := (2, 10)) (hz_X8_scanToken hT _ _ rfl) rfl rfl ?_
            refine v_getR (c := 14) (r := 10) (hz_X8_scanToken hT _ _ rfl) rfl rfl rfl ?_
            refine v_load (v := (0, t)) (hz_X8_scanToken hT _ _ rfl) rfl rfl ?_
            refine v_load (v := (0, s)) (hz_X8_scanToken hT _ _ rfl) rfl rfl ?_
            refine v_push (1) (hz_X8_scanToken hT _ _ rfl) rfl ?_
            refine v_bin (w := (s + 1)) (hz_X8_scanToken hT _ _ rfl) (hq_add (by omega) (by omega)) ?_
            refine v_ast (r := 14) (hz_X8_scanToken hT _ _ rfl) rfl rfl (fun ha43 hb44 hf45 => ?_)
            refine v_ret0 (hi_X8_scanToken_158 hT) ?_
            exact k1 hc1 ha2 hb3 hc4 ha5 hb6 hc17 hc20 hc23
        · have hc20 : (iD ((h 11 s.toNat).2)) ≠ 0 := hc20
          refine v_load (v := (2, 10)) (hz_X8_scanToken hT _ _ rfl) rfl rfl ?_
          refine v_load (v := (0, t)) (hz_X8_scanToken hT _ _ rfl) rfl rfl ?_
          refine v_load (v := (0, n)) (hz_X8_scanToken hT _ _ rfl) rfl rfl ?_
          refine v_call (w := 5) [some (2, 10), some (0, t), some (0, n), none, none] hO (hz_X8_scanToken hT _ _ rfl) rfl rfl ?_
          exact k2 hc1 ha2 hb3 hc4 ha5 hb6 hc17 hc20
      · have hc17 : (iL ((h 11 s.toNat).2)) ≠ 0 := hc17
        refine v_load (v := (2, 10)) (hz_X8_scanToken hT _ _ rfl) rfl rfl ?_
        refine v_load (v := (0, t)) (hz_X8_scanToken hT _ _ rfl) rfl rfl ?_
        refine v_load (v := (0, n)) (hz_X8_scanToken hT _ _ rfl) rfl rfl ?_
        refine v_call (w := 4) [some (2, 10), some (0, t), some (0, n), none] hO (hz_X8_scanToken hT _ _ rfl) rfl rfl ?_
        exact k3 hc1 ha2 hb3 hc4 ha5 hb6 hc17
    · have hc4 : (iB ((h 11 s.toNat).2)) ≠ 0 := hc4
      refine v_iinc (x := s) (u := 1) (w := (s + 1)) [some (2, 10), some (0, t), some (0, f), some (0, n), some (0, (s + 1))] (hz_X8_scanToken hT _ _ rfl) rfl rfl (Nat.le_of_ble_eq_true rfl) (vz_inc (by omega) (by omega)) rfl ?_
      refine v_goto (hz_X8_scanToken hT _ _ rfl) ?_
      exact k4 hc1 ha2 hb3 hc4
  · have hc1 : n ≤ s := Int.not_lt.mp hc1
    refine v_load (v := (2, 10)) (hz_X8_scanToken hT _ _ rfl) rfl rfl ?_
    refine v_getR (c := 13) (r := 10) (hz_X8_scanToken hT _ _ rfl) rfl rfl rfl ?_
    refine v_load (v := (0, t)) (hz_X8_scanToken hT _ _ rfl) rfl rfl ?_
    refine v_load (v := (0, s)) (hz_X8_scanToken hT _ _ rfl) rfl rfl ?_
    refine v_ast (r := 13) (hz_X8_scanToken hT _ _ rfl) rfl rfl (fun ha46 hb47 hf48 => ?_)
    refine v_load (v := (2, 10)) (hz_X8_scanToken hT _ _ rfl) rfl rfl ?_
    refine v_getR (c := 14) (r := 10) (hz_X8_scanToken hT _ _ rfl) rfl rfl rfl ?_
    refine v_load (v := (0, t)) (hz_X8_scanToken hT _ _ rfl) rfl rfl ?_
    refine v_load (v := (0, s)) (hz_X8_scanToken hT _ _ rfl) rfl rfl ?_
    refine v_ast (r := 14) (hz_X8_scanToken hT _ _ rfl) rfl rfl (fun ha49 hb50 hf51 => ?_)
    refine v_load (v := (2, 10)) (hz_X8_scanToken hT _ _ rfl) rfl rfl ?_
    refine v_getR (c := 15) (r := 10) (hz_X8_scanToken hT _ _ rfl) rfl rfl rfl ?_
    refine v_load (v := (0, t)) (hz_X8_scanToken hT _ _ rfl) rfl rfl ?_
    refine v_push (-1) (hz_X8_scanToken hT _ _ rfl) rfl ?_
    refine v_ast (r := 15) (hz_X8_scanToken hT _ _ rfl) rfl rfl (fun ha52 hb53 hf54 => ?_)
    refine v_load (v := (0, s)) (hz_X8_scanToken hT _ _ rfl) rfl rfl ?_
    refine v_load (v := (0, n)) (hz_X8_scanToken hT _ _ rfl) rfl rfl ?_
    refine v_ic (hz_X8_scanToken hT _ _ rfl) (fun hc55 => absurd (show s < n from hc55) (by omega)) (fun _ => ?_)
    refine v_load (v := (2, 10)) (hz_X8_scanToken hT _ _ rfl) rfl rfl ?_
    refine v_getR (c := 12) (r := 10) (hz_X8_scanToken hT _ _ rfl) rfl rfl rfl ?_
    refine v_load (v := (0, t)) (hz_X8_scanToken hT _ _ rfl) rfl rfl ?_
    refine v_push (0) (hz_X8_scanToken hT _ _ rfl) rfl ?_
    refine v_ast (r := 12) (hz_X8_scanToken hT _ _ rfl) rfl rfl (fun ha56 hb57 hf58 => ?_)
    refine v_goto (hz_X8_scanToken hT _ _ rfl) ?_
    refine v_ret0 (hi_X8_scanToken_158 hT) ?_
    exact k5 hc1 ha46 hb47
theorem q_scan86 {D : zD} {T : zT} (hT : hTab T) (hO : vOK T) {N : Nat} {h : zH} {Q : zR → Prop} (t f n s : Int) (hv0 : zHv h)
    (k0 : Q (h, none)) :
    vP D T N 119 86 h [some (2, 10), some (0, t), some (0, f), some (0, n), some (0, s)] [] Q := by
  refine v_goto (hz_X8_scanToken hT _ _ rfl) ?_
  refine v_ret0 (hi_X8_scanToken_158 hT) ?_
  exact k0 
theorem q_scan108 {D : zD} {T : zT} (hT : hTab T) (hO : vOK T) {N : Nat} {h : zH} {Q : zR → Prop} (t f n s : Int) (hv0 : zHv h)
    (k0 : Q (h, none)) :
    vP D T N 119 108 h [some (2, 10), some (0, t), some (0, f), some (0, n), some (0, s)] [] Q := by
  refine v_goto (hz_X8_scanToken hT _ _ rfl) ?_
  refine v_ret0 (hi_X8_scanToken_158 hT) ?_
  exact k0 
theorem q_beg0 {D : zD} {T : zT} (hT : hTab T) (hO : vOK T) {N : Nat} {h : zH} {Q : zR → Prop} (n : Int) (hv0 : zHv h)
    (k0 : vP D T N 102 33 (zset (zset (zset h 10 6 (0, 0)) 10 7 (0, 0)) 10 8 (0, -1)) [some (2, 10), some (0, n), some (0, (if 0 < (if (h 10 1).2 < n then (h 10 1).2 else n) then (if (h 10 1).2 < n then (h 10 1).2 else n) else 0)), some (0, 0), some (0, 0)] [] Q) :
    vP D T N 102 0 h [some (2, 10), some (0, n), none, none, none] [] Q := by
  refine v_push (0) (hz_X8_beginText hT _ _ rfl) rfl ?_
  refine v_load (v := (0, n)) (hz_X8_beginText hT _ _ rfl) rfl rfl ?_
  refine v_load (v := (2, 10)) (hz_X8_beginText hT _ _ rfl) rfl rfl ?_
  refine v_getI (t := 0) (r := 10) (hz_X8_beginText hT _ _ rfl) rfl rfl rfl ?_
  refine v_min (hz_X8_beginText hT _ _ rfl) ?_
  refine v_max (hz_X8_beginText hT _ _ rfl) ?_
  refine v_store1 [some (2, 10), some (0, n), some (0, (if 0 < (if (h 10 1).2 < n then (h 10 1).2 else n) then (if (h 10 1).2 < n then (h 10 1).2 else n) else 0)), none, none] (hz_X8_beginText hT _ _ rfl) ⟨rfl, Nat.ne_of_beq_eq_false rfl⟩ (Nat.le_of_ble_eq_true rfl) rfl ?_
  refine v_load (v := (2, 10)) (hz_X8_beginText hT _ _ rfl) rfl rfl ?_
  refine v_push (0) (hz_X8_beginText hT _ _ rfl) rfl ?_
  refine v_putf (r := 10) hO (hz_X8_beginText hT _ _ rfl) rfl (fun hf1 => ?_)
  refine v_load (v := (2, 10)) (hz_X8_beginText hT _ _ rfl) rfl rfl ?_
  refine v_push (0) (hz_X8_beginText hT _ _ rfl) rfl ?_
  refine v_putf (r := 10) hO (hz_X8_beginText hT _ _ rfl) rfl (fun hf2 => ?_)
  refine v_load (v := (2, 10)) (hz_X8_beginText hT _ _ rfl) rfl rfl ?_
  refine v_push (-1) (hz_X8_beginText hT _ _ rfl) rfl ?_
  refine v_putf (r := 10) hO (hz_X8_beginText hT _ _ rfl) rfl (fun hf3 => ?_)
  refine v_push (0) (hz_X8_beginText hT _ _ rfl) rfl ?_
  refine v_store1 [some (2, 10), some (0, n), some (0, (if 0 < (if (h 10 1).2 < n then (h 10 1).2 else n) then (if (h 10 1).2 < n then (h 10 1).2 else n) else 0)), some (0, 0), none] (hz_X8_beginText hT _ _ rfl) ⟨rfl, Nat.ne_of_beq_eq_false rfl⟩ (Nat.le_of_ble_eq_true rfl) rfl ?_
  refine v_push (0) (hz_X8_beginText hT _ _ rfl) rfl ?_
  refine v_store1 [some (2, 10), some (0, n), some (0, (if 0 < (if (h 10 1).2 < n then (h 10 1).2 else n) then (if (h 10 1).2 < n then (h 10 1).2 else n) else 0)), some (0, 0), some (0, 0)] (hz_X8_beginText hT _ _ rfl) ⟨rfl, Nat.ne_of_beq_eq_false rfl⟩ (Nat.le_of_ble_eq_true rfl) rfl ?_
  exact k0 
theorem q_beg33 {D : zD} {T : zT} (hT : hTab T) (hO : vOK T) {N : Nat} {h : zH} {Q : zR → Prop} (n x f t : Int) (hv0 : zHv h)
    (k0 : (900 < t) → Q (h, none))
    (k1 : (t ≤ 900) → vP D T N 119 0 h [some (2, 10), some (0, t), some (0, f), some (0, x), none] [] (fun r1 => vP D T N 102 49 r1.1 [some (2, 10), some (0, n), some (0, x), some (0, f), some (0, t)] (zpush r1.2 []) Q)) :
    vP D T (N + 1) 102 33 h [some (2, 10), some (0, n), some (0, x), some (0, f), some (0, t)] [] Q := by
  refine v_loadS (v := (0, t)) (hz_X8_beginText hT _ _ rfl) rfl rfl ?_
  refine v_push (900) (hz_X8_beginText hT _ _ rfl) rfl ?_
  refine v_ic (hz_X8_beginText hT _ _ rfl) (fun hc1 => ?_) (fun hc1 => ?_)
  · have hc1 : 900 < t := hc1
    refine v_ret0 (hz_X8_beginText hT _ _ rfl) ?_
    exact k0 hc1
  · have hc1 : t ≤ 900 := Int.not_lt.mp hc1
    refine v_load (v := (2, 10)) (hz_X8_beginText hT _ _ rfl) rfl rfl ?_
    refine v_load (v := (0, t)) (hz_X8_beginText hT _ _ rfl) rfl rfl ?_
    refine v_load (v := (0, f)) (hz_X8_beginText hT _ _ rfl) rfl rfl ?_
    refine v_load (v := (0, x)) (hz_X8_beginText hT _ _ rfl) rfl rfl ?_
    refine v_call (w := 5) [some (2, 10), some (0, t), some (0, f), some (0, x), none] hO (hz_X8_beginText hT _ _ rfl) rfl rfl ?_
    exact k1 hc1
theorem q_beg49 {D : zD} {T : zT} (hT : hTab T) (hO : vOK T) {N : Nat} {h : zH} {Q : zR → Prop} (n x f t : Int) (hv0 : zHv h) (bt : 0 ≤ t ∧ t ≤ 900)
    (k0 : (0 ≤ t) → (t < 901) → ((h 12 t.toNat).2 = 0) → Q (h, none))
    (k1 : (0 ≤ t) → (t < 901) → ((h 12 t.toNat).2 ≠ 0) → ((h 12 t.toNat).2 = 4) → Q (h, none))
    (k2 : (0 ≤ t) → (t < 901) → ((h 12 t.toNat).2 ≠ 0) → ((h 12 t.toNat).2 ≠ 4) → vP D T N 102 33 h [some (2, 10), some (0, n), some (0, x), some (0, (h 14 t.toNat).2), some (0, (t + 1))] [] Q) :
    vP D T N 102 49 h [some (2, 10), some (0, n), some (0, x), some (0, f), some (0, t)] [] Q := by
  refine v_load (v := (2, 10)) (hz_X8_beginText hT _ _ rfl) rfl rfl ?_
  refine v_getR (c := 14) (r := 10) (hz_X8_beginText hT _ _ rfl) rfl rfl rfl ?_
  refine v_load (v := (0, t)) (hz_X8_beginText hT _ _ rfl) rfl rfl ?_
  refine v_ald (t := 0) (r := 14) (hz_X8_beginText hT _ _ rfl) rfl rfl rfl (fun ha1 hb2 => ?_)
  refine v_store1 [some (2, 10), some (0, n), some (0, x), some (0, (h 14 t.toNat).2), some (0, t)] (hz_X8_beginText hT _ _ rfl) ⟨rfl, Nat.ne_of_beq_eq_false rfl⟩ (Nat.le_of_ble_eq_true rfl) rfl ?_
  refine v_load (v := (2, 10)) (hz_X8_beginText hT _ _ rfl) rfl rfl ?_
  refine v_getR (c := 12) (r := 10) (hz_X8_beginText hT _ _ rfl) rfl rfl rfl ?_
  refine v_load (v := (0, t)) (hz_X8_beginText hT _ _ rfl) rfl rfl ?_
  refine v_ald (t := 0) (r := 12) (hz_X8_beginText hT _ _ rfl) rfl rfl rfl (fun ha3 hb4 => ?_)
  refine v_if (hz_X8_beginText hT _ _ rfl) (fun hc5 => ?_) (fun hc5 => ?_)
  · have hc5 : (h 12 t.toNat).2 = 0 := hc5
    refine v_ret0 (hz_X8_beginText hT _ _ rfl) ?_
    exact k0 ha1 hb2 hc5
  · have hc5 : (h 12 t.toNat).2 ≠ 0 := hc5
    refine v_load (v := (2, 10)) (hz_X8_beginText hT _ _ rfl) rfl rfl ?_
    refine v_getR (c := 12) (r := 10) (hz_X8_beginText hT _ _ rfl) rfl rfl rfl ?_
    refine v_load (v := (0, t)) (hz_X8_beginText hT _ _ rfl) rfl rfl ?_
    refine v_ald (t := 0) (r := 12) (hz_X8_beginText hT _ _ rfl) rfl rfl rfl (fun ha6 hb7 => ?_)
    refine v_push (4) (hz_X8_beginText hT _ _ rfl) rfl ?_
    refine v_ic (hz_X8_beginText hT _ _ rfl) (fun hc8 => ?_) (fun hc8 => ?_)
    · have hc8 : (h 12 t.toNat).2 = 4 := hc8
      refine v_ret0 (hz_X8_beginText hT _ _ rfl) ?_
      exact k1 ha1 hb2 hc5 hc8
    · have hc8 : (h 12 t.toNat).2 ≠ 4 := hc8
      refine v_iinc (x := t) (u := 1) (w := (t + 1)) [some (2, 10), some (0, n), some (0, x), some (0, (h 14 t.toNat).2), some (0, (t + 1))] (hz_X8_beginText hT _ _ rfl) rfl rfl (Nat.le_of_ble_eq_true rfl) (vz_inc (by omega) (by omega)) rfl ?_
      refine v_goto (hz_X8_beginText hT _ _ rfl) ?_
      exact k2 ha1 hb2 hc5 hc8
end
section
/-! TOKENS: the class's rows -/
def TXc (B : Nat → Int) (n : Nat) (h : zH) : Prop := BB B n ∧ ∀ q, q < n → h 11 q = (0, B q)
theorem TXc.z {B : Nat → Int} {n : Nat} {h : zH} {r k : Nat} {v : zV} (hr : r ≠ 11) (hx : TXc B n h) : TXc B n (zset h r k v) := ⟨hx.1, fun q hq => (zset_ne (fun c => hr c.1.symm)).trans (hx.2 q hq)⟩
theorem TXc.at {B : Nat → Int} {n : Nat} {h : zH} (hx : TXc B n h) {q : Nat} (hq : q < n) : (h 11 q).2 = B q := congrArg Prod.snd (hx.2 q hq)
-- where reservedIndex stands: word w, o of its letters
def RS (B : Nat → Int) (s e i w o : Nat) (m a : Int) : Prop := ((i < 118 ∧ RWp[i]? = some (w, o)) ∨ (i = 118 ∧ w = 22)) ∧ (∀ w' l, w' < w → RW[w']? = some l → ¬ Mw B s e l) ∧ ((a = 1 ∧ m = ((s + o : Nat) : Int) ∧ s + o ≤ e ∧ ∀ l, RW[w]? = some l → ∀ j, j < o → B (s + j) = l.getD j 0) ∨ (a = 0 ∧ (0 ≤ m ∧ m ≤ 900) ∧ ∀ l, RW[w]? = some l → ¬ Mw B s e l))
theorem RS_new {B : Nat → Int} {s e i w o : Nat} {l : List Int} (hse : s ≤ e) (hi : i < 118) (h1 : RWp[i]? = some (w, o)) (hl : RW[w]? = some l) (hn : i = 117 ∨ RWp[i + 1]? = some (w + 1, 0)) (hp : ∀ w' l, w' < w → RW[w']? = some l → ¬ Mw B s e l) (hm : ¬ Mw B s e l) : RS B s e (i + 1) (w + 1) 0 (s : Int) 1 := by
  refine ⟨?_, fun w' l' h1 h2 => ?_, Or.inl ⟨rfl, by omega, hse, fun _ _ j hj => absurd hj (by omega)⟩⟩
  · by_cases e : i = 117
    · subst e
      rw [RWp_last] at h1
      cases h1
      exact Or.inr ⟨rfl, rfl⟩
    · rcases hn with g | g
      · exact absurd g e
      · exact Or.inl ⟨by omega, g⟩
  · by_cases e : w' = w
    · rw [e, hl] at h2
      cases h2
      exact hm
    · exact hp w' l' (by omega) h2
theorem c_res {D : zD} {T : zT} (hT : hTab T) (hO : vOK T) {N : Nat} {h : zH} {B : Nat → Int} {n s e : Nat} (hx : TXc B n h) (hse : s ≤ e) (hen : e ≤ n) : vP D T N 117 0 h [some (2, 10), some (0, (s : Int)), some (0, (e : Int)), none, none, none, none, none] [] (fun r => r.1 = h ∧ ∃ v, r.2 = some (0, v) ∧ RI B s e v) := by
  have b9 := hx.1.1
  have hz : ∀ D : zD, ((zlen D 3 : Nat) : Int) = 118 := fun D => congrArg Int.ofNat (RWp_len.2.1 : (zTx 3).length = 118)
  refine vP_hv (fun hv => q_res0 hT hO s e hv ?_)
  refine vP_loop (fun h' l => h' = h ∧ ∃ (i w o : Nat) (m a : Int) (y : Option zV), l = [some (2, 10), some (0, (s : Int)), some (0, (e : Int)), some (0, (w : Int)), some (0, m), some (0, a), some (0, (i : Int)), y] ∧ RS B s e i w o m a) ?_ N _ _ ⟨rfl, 0, 0, 0, (s : Int), 1, none, rfl, Or.inl ⟨by decide, by decide +kernel⟩, fun w' l h => absurd h (by omega), Or.inl ⟨rfl, by omega, hse, fun _ _ j hj => absurd hj (by omega)⟩⟩
  rintro N h' l ⟨rfl, i, w, o, m, a, y, rfl, hi, hp, ha⟩ ih
  have hi7 : i ≤ 118 := by omega
  have hw : w ≤ 900 := by
    rcases hi with ⟨h1, h2⟩ | ⟨_, h2⟩
    · obtain ⟨l, h3, _⟩ := RWp_at h1 h2
      have := (List.getElem?_eq_some_iff.mp h3).1
      have := RWp_len.2.2
      omega
    · omega
  have hm : 0 ≤ m ∧ m ≤ 900 := by
    rcases ha with ⟨_, h1, h2, _⟩ | ⟨_, h1, _⟩
    · omega
    · exact h1
  have hlt : ((i : Int) < (zlen D 3 : Int)) → i < 118 ∧ RWp[i]? = some (w, o) := fun c => by
    rw [hz D] at c
    rcases hi with g | ⟨g, _⟩
    · exact g
    · omega
  have hch : zat D 3 (i : Int).toNat = (zTx 3).getD i 0 := by
    rw [Int.toNat_natCast]
    rfl
  have fin : ∀ i' w' : Nat, ∀ m' a' : Int, ∀ y', ∀ o', (RS B s e i' w' o' m' a') → ∀ x' j' : Int, x' = (w' : Int) → j' = (i' : Int) → vP D T N 117 11 h' [some (2, 10), some (0, (s : Int)), some (0, (e : Int)), some (0, x'), some (0, m'), some (0, a'), some (0, j'), y'] [] (fun r => r.1 = h' ∧ ∃ v, r.2 = some (0, v) ∧ RI B s e v) := fun i' w' m' a' y' o' g x' j' e1 e2 => by
    rw [e1, e2]
    exact ih _ _ ⟨rfl, i', w', o', m', a', y', rfl, g⟩
  refine vP_hv (fun hv => q_res11 hT hO s e w m a i y hv ⟨by omega, by omega⟩ hm ⟨by omega, by omega⟩ ?_ ?_ ?_ ?_ ?_ ?_ ?_ ?_)
  · intro c1 _ _ c2 c3
    obtain ⟨i1, i2⟩ := hlt c1
    rw [hch] at c2
    obtain ⟨l, hl, ⟨_, _, g3⟩ | ⟨g1, _⟩⟩ := RWp_at i1 i2
    · rcases ha with ⟨a1, _⟩ | ⟨_, _, a3⟩
      · omega
      · exact fin (i + 1) (w + 1) _ _ _ 0 (RS_new hse i1 i2 hl g3 hp (a3 l hl)) _ _ (by omega) (by omega)
    · exact absurd c2 g1
  · intro c1 _ _ c2 c3 c4
    obtain ⟨i1, i2⟩ := hlt c1
    rw [hch] at c2
    obtain ⟨l, hl, ⟨_, g2, g3⟩ | ⟨g1, _⟩⟩ := RWp_at i1 i2
    · rcases ha with ⟨_, a1, a2, a3⟩ | ⟨a1, _⟩
      · refine ⟨rfl, (w : Int), rfl, Or.inl ⟨w, l, hl, rfl, by omega, fun j hj => a3 l hl j (by omega)⟩⟩
      · exact absurd a1 c3
    · exact absurd c2 g1
  · intro c1 _ _ c2 c3 c4
    obtain ⟨i1, i2⟩ := hlt c1
    rw [hch] at c2
    obtain ⟨l, hl, ⟨_, g2, g3⟩ | ⟨g1, _⟩⟩ := RWp_at i1 i2
    · rcases ha with ⟨_, a1, a2, a3⟩ | ⟨a1, _⟩
      · exact fin (i + 1) (w + 1) _ _ _ 0 (RS_new hse i1 i2 hl g3 hp (fun f => by have := f.1; omega)) _ _ (by omega) (by omega)
      · exact absurd a1 c3
    · exact absurd c2 g1
  · intro c1 _ _ c2 c3
    obtain ⟨i1, i2⟩ := hlt c1
    rw [hch] at c2
    obtain ⟨l, hl, ⟨g1, _⟩ | ⟨_, g2, g3, g4⟩⟩ := RWp_at i1 i2
    · exact absurd g1 c2
    · rcases ha with ⟨a1, _⟩ | ⟨_, a2, a3⟩
      · omega
      · exact fin (i + 1) w _ _ _ (o + 1) ⟨Or.inl ⟨by have := (List.getElem?_eq_some_iff.mp g4).1; have := RWp_len.1; omega, g4⟩, hp, Or.inr ⟨rfl, a2, a3⟩⟩ _ _ rfl (by omega)
  · intro c1 _ _ c2 c3 c4 c5 c6 c7
    obtain ⟨i1, i2⟩ := hlt c1
    rw [hch] at c2 c7
    obtain ⟨l, hl, ⟨g1, _⟩ | ⟨_, g2, g3, g4⟩⟩ := RWp_at i1 i2
    · exact absurd g1 c2
    · rcases ha with ⟨a1, a2, a3, a4⟩ | ⟨a1, _⟩
      · refine fin (i + 1) w _ _ _ (o + 1) ⟨Or.inl ⟨by have := (List.getElem?_eq_some_iff.mp g4).1; have := RWp_len.1; omega, g4⟩, hp, Or.inl ⟨a1, by omega, by omega, fun l' hl' j hj => ?_⟩⟩ _ _ rfl (by omega)
        rw [hl] at hl'
        cases hl'
        by_cases ej : j = o
        · rw [ej, g3, ← c7, ← hx.at (q := s + o) (by omega), show m.toNat = s + o from by omega]
        · exact a4 l hl j (by omega)
      · exact absurd a1 c3
  · intro c1 _ _ c2 c3 c4 c5 c6 c7
    obtain ⟨i1, i2⟩ := hlt c1
    rw [hch] at c2 c7
    obtain ⟨l, hl, ⟨g1, _⟩ | ⟨_, g2, g3, g4⟩⟩ := RWp_at i1 i2
    · exact absurd g1 c2
    · rcases ha with ⟨a1, a2, a3, a4⟩ | ⟨a1, _⟩
      · refine fin (i + 1) w _ _ _ (o + 1) ⟨Or.inl ⟨by have := (List.getElem?_eq_some_iff.mp g4).1; have := RWp_len.1; omega, g4⟩, hp, Or.inr ⟨rfl, hm, fun l' hl' f => ?_⟩⟩ _ _ rfl (by omega)
        rw [hl] at hl'
        cases hl'
        have := f.2 o g2
        rw [g3, ← hx.at (q := s + o) (by omega), show s + o = m.toNat from by omega] at this
        exact c7 this
      · exact absurd a1 c3
  · intro c1 _ _ c2 c3 c4
    obtain ⟨i1, i2⟩ := hlt c1
    rw [hch] at c2
    obtain ⟨l, hl, ⟨g1, _⟩ | ⟨_, g2, g3, g4⟩⟩ := RWp_at i1 i2
    · exact absurd g1 c2
    · rcases ha with ⟨a1, a2, a3, a4⟩ | ⟨a1, _⟩
      · refine fin (i + 1) w _ _ _ (o + 1) ⟨Or.inl ⟨by have := (List.getElem?_eq_some_iff.mp g4).1; have := RWp_len.1; omega, g4⟩, hp, Or.inr ⟨rfl, hm, fun l' hl' f => ?_⟩⟩ _ _ rfl (by omega)
        rw [hl] at hl'
        cases hl'
        have := f.1
        omega
      · exact absurd a1 c3
  · intro c1
    rw [hz D] at c1
    refine ⟨rfl, -1, rfl, Or.inr ⟨rfl, fun l hl f => ?_⟩⟩
    obtain ⟨w', hw'⟩ := List.getElem?_of_mem hl
    have h1 := (List.getElem?_eq_some_iff.mp hw').1
    have h2 := RWp_len.2.2
    exact hp w' l (by omega) hw' f
/-! the class's rows of tokens, one by one -/
def VC (B : Nat → Int) (k : Int) (s e : Nat) (v : Int) : Prop := (k = 1 → RI B s e v) ∧ (k = 2 → v = nv B s (e - s)) ∧ (k = 3 → v = B s)
def Tc (t : Nat) (k : Int) (s e : Nat) (v : Int) (h : zH) : Prop := h 12 t = (0, k) ∧ h 13 t = (0, (s : Int)) ∧ h 14 t = (0, (e : Int)) ∧ h 15 t = (0, v)
def cF (t : Nat) (h0 h : zH) : Prop := ∀ a b, ¬ ((a = 12 ∨ a = 13 ∨ a = 14 ∨ a = 15) ∧ b = t) → h a b = h0 a b
theorem cF.rfl {t : Nat} {h : zH} : cF t h h := fun _ _ _ => Eq.refl _
theorem cF.z {t : Nat} {h0 h : zH} {r : Nat} {v : zV} (hr : r = 12 ∨ r = 13 ∨ r = 14 ∨ r = 15) (g : cF t h0 h) : cF t h0 (zset h r t v) := fun a b hn => (zset_ne (fun c => hn ⟨by omega, c.2⟩)).trans (g a b hn)
theorem cF.trans {t : Nat} {h0 h1 h2 : zH} (a : cF t h0 h1) (b : cF t h1 h2) : cF t h0 h2 := fun x y hn => (b x y hn).trans (a x y hn)
theorem TXc.f {B : Nat → Int} {n t : Nat} {h0 h : zH} (g : cF t h0 h) (hx : TXc B n h0) : TXc B n h := ⟨hx.1, fun q hq => (g 11 q (fun c => by omega)).trans (hx.2 q hq)⟩
def Wc (B : Nat → Int) (n t s : Nat) (h0 : zH) (r : zR) : Prop := r.2 = none ∧ ∃ e v, Rn iL B n s e ∧ RI B s e v ∧ Tc t 1 s e v r.1 ∧ cF t h0 r.1
theorem Wc_mk {B : Nat → Int} {n t s e : Nat} {v : Int} {h0 h : zH} (hR : Rn iL B n s e) (hI : RI B s e v) (hT : Tc t 1 s e v h) (hF : cF t h0 h) : Wc B n t s h0 (h, none) := ⟨rfl, e, v, hR, hI, hT, hF⟩
theorem c_wordE {D : zD} {T : zT} (hT : hTab T) (hO : vOK T) {N : Nat} {B : Nat → Int} {n t s e : Nat} {h : zH} (hx : TXc B n h) (h13 : h 13 t = (0, (s : Int))) (hse : s ≤ e) (hen : e ≤ n) (hR : Rn iL B n s e) : vP D T N 117 0 (zset (zset h 12 t (0, 1)) 14 t (0, (e : Int))) [some (2, 10), some (0, (s : Int)), some (0, (e : Int)), none, none, none, none, none] [] (fun r1 => vP D T N 120 60 r1.1 [some (2, 10), some (0, (t : Int)), some (0, (n : Int)), some (0, (e : Int))] (zpush r1.2 [(0, (t : Int)), (2, 15)]) (Wc B n t s h)) := by
  refine vP_Q (fun r hr => ?_) (c_res hT hO ((hx.z (by decide)).z (by decide)) hse hen)
  obtain ⟨h', v'⟩ := r
  obtain ⟨h1, v, h2, h3⟩ := hr
  have h1 : h' = _ := h1
  have h2 : v' = _ := h2
  subst h1
  subst h2
  show vP D T N 120 60 (zset (zset h 12 t (0, 1)) 14 t (0, (e : Int))) [some (2, 10), some (0, (t : Int)), some (0, (n : Int)), some (0, (e : Int))] [(0, v), (0, (t : Int)), (2, 15)] (Wc B n t s h)
  refine vP_hv (fun hv => q_word60 hT hO t n e v hv (fun _ _ => ?_))
  exact Wc_mk (e := e) (v := v) (hR) (h3) ⟨(zset_ne (fun c => absurd c.1 (by decide))).trans ((zset_ne (fun c => absurd c.1 (by decide))).trans zset_same), (zset_ne (fun c => absurd c.1 (by decide))).trans ((zset_ne (fun c => absurd c.1 (by decide))).trans ((zset_ne (fun c => absurd c.1 (by decide))).trans h13)), (zset_ne (fun c => absurd c.1 (by decide))).trans zset_same, zset_same⟩ (((cF.rfl.z (by decide)).z (by decide)).z (by decide))
theorem c_word {D : zD} {T : zT} (hT : hTab T) (hO : vOK T) {N : Nat} {B : Nat → Int} {n t s : Nat} {h : zH} (hx : TXc B n h) (h13 : h 13 t = (0, (s : Int))) (hs : s < n) : vP D T N 120 0 h [some (2, 10), some (0, (t : Int)), some (0, (n : Int)), none] [] (Wc B n t s h) := by
  have b9 := hx.1.1
  have e13 : (h 13 (t : Int).toNat).2 = (s : Int) := congrArg Prod.snd h13
  refine vP_hv (fun hv => q_word0 hT hO t n hv (fun _ _ => ?_))
  rw [e13]
  refine vP_loop (fun h' l => h' = h ∧ ∃ j : Nat, l = [some (2, 10), some (0, (t : Int)), some (0, (n : Int)), some (0, ((s + j : Nat) : Int))] ∧ ∀ q, s ≤ q → q < s + j → q < n ∧ iL (B q) ≠ 0) ?_ N _ _ ⟨rfl, 0, rfl, fun q h1 h2 => absurd h2 (by omega)⟩
  rintro N h' l ⟨rfl, j, rfl, hq⟩ ih
  have hjn := run_le (Nat.le_of_lt hs) hq
  have et : ((s + j : Nat) : Int).toNat = s + j := Int.toNat_natCast _
  refine vP_hv (fun hv => q_word7 hT hO t n ((s + j : Nat) : Int) hv ⟨by omega, by omega⟩ ?_ ?_ ?_)
  · intro c1 _ _ c2 _ _
    have c1 : s + j < n := by omega
    rw [et, hx.at c1] at c2
    rw [e13]
    exact c_wordE hT hO hx h13 (Nat.le_add_right _ _) hjn ⟨Nat.le_add_right _ _, hq, fun _ => c2⟩
  · intro c1 _ _ c2
    have c1 : s + j < n := by omega
    rw [et, hx.at c1] at c2
    refine ih _ _ ⟨rfl, j + 1, ?_, run_ext hq ⟨c1, c2⟩⟩
    rw [show ((s + j : Nat) : Int) + 1 = ((s + (j + 1) : Nat) : Int) from by omega]
  · intro c1 _ _
    rw [e13]
    exact c_wordE hT hO hx h13 (Nat.le_add_right _ _) hjn ⟨Nat.le_add_right _ _, hq, fun c => absurd c (by omega)⟩
def Nc (B : Nat → Int) (n t s : Nat) (h0 : zH) (r : zR) : Prop := r.2 = none ∧ ∃ e v, Rn iD B n s e ∧ (e ≤ s + 4 → v = nv B s (e - s)) ∧ Tc t (if e ≤ s + 4 then 2 else 4) s e v r.1 ∧ cF t h0 r.1
theorem Nc_mk {B : Nat → Int} {n t s e : Nat} {v : Int} {h0 h : zH} (hR : Rn iD B n s e) (hI : e ≤ s + 4 → v = nv B s (e - s)) (hT : Tc t (if e ≤ s + 4 then 2 else 4) s e v h) (hF : cF t h0 h) : Nc B n t s h0 (h, none) := ⟨rfl, e, v, hR, hI, hT, hF⟩
theorem c_num {D : zD} {T : zT} (hT : hTab T) (hO : vOK T) {N : Nat} {B : Nat → Int} {n t s : Nat} {h : zH} (hx : TXc B n h) (h13 : h 13 t = (0, (s : Int))) (hs : s < n) : vP D T N 118 0 h [some (2, 10), some (0, (t : Int)), some (0, (n : Int)), none, none] [] (Nc B n t s h) := by
  have b9 := hx.1.1
  have e13 : (h 13 (t : Int).toNat).2 = (s : Int) := congrArg Prod.snd h13
  refine vP_hv (fun hv => q_num0 hT hO t n hv (fun _ _ => ?_))
  rw [e13]
  refine vP_loop (fun h' l => h' = h ∧ ∃ (j : Nat) (v : Int), l = [some (2, 10), some (0, (t : Int)), some (0, (n : Int)), some (0, ((s + j : Nat) : Int)), some (0, v)] ∧ (j ≤ 4 → v = nv B s j) ∧ ∀ q, s ≤ q → q < s + j → q < n ∧ iD (B q) ≠ 0) ?_ N _ _ ⟨rfl, 0, 0, rfl, fun _ => rfl, fun q h1 h2 => absurd h2 (by omega)⟩
  rintro N h' l ⟨rfl, j, v, rfl, hv4, hq⟩ ih
  have hjn := run_le (Nat.le_of_lt hs) hq
  have et : ((s + j : Nat) : Int).toNat = s + j := Int.toNat_natCast _
  have big : ∀ hR : Rn iD B n s (s + j), (4 < ((s + j : Nat) : Int) - (s : Int)) → Nc B n t s h' (zset (zset (zset h' 12 t (0, 4)) 14 t (0, ((s + j : Nat) : Int))) 15 t (0, v), none) := fun hR c => Nc_mk (e := s + j) (v := v) (hR) (fun f => absurd f (by omega)) (by
    rw [if_neg (by omega)]
    exact ⟨(zset_ne (fun c => absurd c.1 (by decide))).trans ((zset_ne (fun c => absurd c.1 (by decide))).trans zset_same), (zset_ne (fun c => absurd c.1 (by decide))).trans ((zset_ne (fun c => absurd c.1 (by decide))).trans ((zset_ne (fun c => absurd c.1 (by decide))).trans h13)), (zset_ne (fun c => absurd c.1 (by decide))).trans zset_same, zset_same⟩) (((cF.rfl.z (by decide)).z (by decide)).z (by decide))
  have small : ∀ hR : Rn iD B n s (s + j), (((s + j : Nat) : Int) - (s : Int) ≤ 4) → Nc B n t s h' (zset (zset (zset h' 12 t (0, 2)) 14 t (0, ((s + j : Nat) : Int))) 15 t (0, v), none) := fun hR c => Nc_mk (e := s + j) (v := v) (hR) (fun _ => by rw [Nat.add_sub_cancel_left]; exact hv4 (by omega)) (by
    rw [if_pos (by omega)]
    exact ⟨(zset_ne (fun c => absurd c.1 (by decide))).trans ((zset_ne (fun c => absurd c.1 (by decide))).trans zset_same), (zset_ne (fun c => absurd c.1 (by decide))).trans ((zset_ne (fun c => absurd c.1 (by decide))).trans ((zset_ne (fun c => absurd c.1 (by decide))).trans h13)), (zset_ne (fun c => absurd c.1 (by decide))).trans zset_same, zset_same⟩) (((cF.rfl.z (by decide)).z (by decide)).z (by decide))
  refine vP_hv (fun hv => q_num10 hT hO t n ((s + j : Nat) : Int) v hv ⟨by rw [e13]; omega, by rw [e13]; omega⟩ ⟨by omega, by omega⟩ ?_ ?_ ?_ ?_ ?_)
  · intro c1 _ _ c2 _ _ c3
    have c1 : s + j < n := by omega
    rw [et, hx.at c1] at c2
    rw [e13] at c3
    exact big ⟨Nat.le_add_right _ _, hq, fun _ => c2⟩ c3
  · intro c1 _ _ c2 _ _ c3
    have c1 : s + j < n := by omega
    rw [et, hx.at c1] at c2
    rw [e13] at c3
    exact small ⟨Nat.le_add_right _ _, hq, fun _ => c2⟩ c3
  · intro c1 _ _ c2
    have c1 : s + j < n := by omega
    rw [et, hx.at c1] at c2 ⊢
    refine ih _ _ ⟨rfl, j + 1, _, by rw [show ((s + j : Nat) : Int) + 1 = ((s + (j + 1) : Nat) : Int) from by omega], fun hj => ?_, run_ext hq ⟨c1, c2⟩⟩
    have e4 := hv4 (by omega)
    have d := iD_ne c2
    have nb := nv_bd (B := B) (s := s) (l := j) (fun q h1 h2 => iD_ne (hq q h1 h2).2)
    have np := p10_le j (by omega)
    rw [e4]
    have e7 : v32 1 (B (s + j)) 48 = B (s + j) - 48 := hq_sub (by omega) (by omega)
    rw [e7]
    have e5 : v32 2 (nv B s j) 10 = nv B s j * 10 := hq_mul (by omega) (by omega)
    rw [e5]
    have e6 : v32 0 (nv B s j * 10) (B (s + j) - 48) = nv B s j * 10 + (B (s + j) - 48) := hq_add (by omega) (by omega)
    rw [e6]
    show nv B s j * 10 + (B (s + j) - 48) = 10 * nv B s j + (B (s + j) - 48)
    omega
  · intro c1 _ _ c3
    rw [e13] at c3
    exact big ⟨Nat.le_add_right _ _, hq, fun c => absurd c (by omega)⟩ c3
  · intro c1 _ _ c3
    rw [e13] at c3
    exact small ⟨Nat.le_add_right _ _, hq, fun c => absurd c (by omega)⟩ c3
/-! one token; then all -/
def Sc (B : Nat → Int) (n p t : Nat) (h0 : zH) (r : zR) : Prop := r.2 = none ∧ ∃ k s e v, Tk B n p k s e ∧ VC B k s e v ∧ Tc t k s e v r.1 ∧ cF t h0 r.1
theorem Sc_mk {B : Nat → Int} {n p t : Nat} {k : Int} {s e : Nat} {v : Int} {h0 h : zH} (hK : Tk B n p k s e) (hI : VC B k s e v) (hT : Tc t k s e v h) (hF : cF t h0 h) : Sc B n p t h0 (h, none) := ⟨rfl, k, s, e, v, hK, hI, hT, hF⟩
theorem c_scan {D : zD} {T : zT} (hT : hTab T) (hO : vOK T) {N : Nat} {B : Nat → Int} {n t p : Nat} {h : zH} (hx : TXc B n h) (hp : p ≤ n) : vP D T N 119 0 h [some (2, 10), some (0, (t : Int)), some (0, (p : Int)), some (0, (n : Int)), none] [] (Sc B n p t h) := by
  have b9 := hx.1.1
  refine vP_hv (fun hv => q_scan0 hT hO t p n hv ?_)
  refine vP_loop (fun h' l => h' = h ∧ ∃ s : Nat, l = [some (2, 10), some (0, (t : Int)), some (0, (p : Int)), some (0, (n : Int)), some (0, (s : Int))] ∧ p ≤ s ∧ s ≤ n ∧ ∀ q, p ≤ q → q < s → q < n ∧ iB (B q) ≠ 0) ?_ N _ _ ⟨rfl, p, rfl, Nat.le_refl _, hp, fun q h1 h2 => absurd h2 (by omega)⟩
  rintro N h' l ⟨rfl, s, rfl, hps, hsn, hq⟩ ih
  have es : ((s : Nat) : Int).toNat = s := Int.toNat_natCast _
  have h13 : zset (zset (zset h' 13 t (0, (s : Int))) 14 t (0, (s : Int))) 15 t (0, -1) 13 t = (0, (s : Int)) := (zset_ne (fun c => absurd c.1 (by decide))).trans ((zset_ne (fun c => absurd c.1 (by decide))).trans zset_same)
  have hx3 : TXc B n (zset (zset (zset h' 13 t (0, (s : Int))) 14 t (0, (s : Int))) 15 t (0, -1)) := ((hx.z (by decide)).z (by decide)).z (by decide)
  have hf3 : cF t h' (zset (zset (zset h' 13 t (0, (s : Int))) 14 t (0, (s : Int))) 15 t (0, -1)) := ((cF.rfl.z (by decide)).z (by decide)).z (by decide)
  refine vP_hv (fun hv => q_scan3 hT hO t p n s hv ⟨by omega, by omega⟩ ?_ ?_ ?_ ?_ ?_ ?_)
  · intro c1 _ _ c2 _ _ c3 c4 c5
    have c1 : s < n := by omega
    rw [es, hx.at c1] at c2 c3 c4 c5 ⊢
    refine Sc_mk (k := 4) (s := s) (e := s + 1) (v := B s) ⟨⟨hps, hq, fun _ => c2⟩, Or.inr ⟨c1, Or.inr (Or.inr ⟨c3, c4, (if_neg (fun f => f c5)).symm, rfl⟩)⟩⟩ ⟨fun c => absurd c (by decide), fun c => absurd c (by decide), fun c => absurd c (by decide)⟩ ⟨?_, ?_, ?_, ?_⟩ (((hf3.z (by decide)).z (by decide)).z (by decide))
    · exact (zset_ne (fun c => absurd c.1 (by decide))).trans ((zset_ne (fun c => absurd c.1 (by decide))).trans zset_same)
    · exact (zset_ne (fun c => absurd c.1 (by decide))).trans ((zset_ne (fun c => absurd c.1 (by decide))).trans ((zset_ne (fun c => absurd c.1 (by decide))).trans h13))
    · exact zset_same
    · exact (zset_ne (fun c => absurd c.1 (by decide))).trans zset_same
  · intro c1 _ _ c2 _ _ c3 c4 c5
    have c1 : s < n := by omega
    rw [es, hx.at c1] at c2 c3 c4 c5 ⊢
    refine Sc_mk (k := 3) (s := s) (e := s + 1) (v := B s) ⟨⟨hps, hq, fun _ => c2⟩, Or.inr ⟨c1, Or.inr (Or.inr ⟨c3, c4, (if_pos c5).symm, rfl⟩)⟩⟩ ⟨fun c => absurd c (by decide), fun c => absurd c (by decide), fun _ => rfl⟩ ⟨?_, ?_, ?_, ?_⟩ (((hf3.z (by decide)).z (by decide)).z (by decide))
    · exact (zset_ne (fun c => absurd c.1 (by decide))).trans ((zset_ne (fun c => absurd c.1 (by decide))).trans zset_same)
    · exact (zset_ne (fun c => absurd c.1 (by decide))).trans ((zset_ne (fun c => absurd c.1 (by decide))).trans ((zset_ne (fun c => absurd c.1 (by decide))).trans h13))
    · exact zset_same
    · exact (zset_ne (fun c => absurd c.1 (by decide))).trans zset_same
  · intro c1 _ _ c2 _ _ c3 c4
    have c1 : s < n := by omega
    rw [es, hx.at c1] at c2 c3 c4
    refine vP_Q (fun r hr => ?_) (c_num hT hO hx3 h13 c1)
    obtain ⟨h1, v1⟩ := r
    obtain ⟨g1, e, v, g2, g3, g4, g5⟩ := hr
    have g1 : v1 = none := g1
    subst g1
    refine vP_hv (fun hv => q_scan108 hT hO t p n s hv ?_)
    refine Sc_mk (k := (if e ≤ s + 4 then 2 else 4)) (s := s) (e := e) (v := v) ⟨⟨hps, hq, fun _ => c2⟩, Or.inr ⟨c1, Or.inr (Or.inl ⟨c3, c4, rfl, g2⟩)⟩⟩ ⟨fun c => ?_, fun c => ?_, fun c => ?_⟩ (g4) (hf3.trans g5)
    · by_cases f : e ≤ s + 4
      · rw [if_pos f] at c; exact absurd c (by decide)
      · rw [if_neg f] at c; exact absurd c (by decide)
    · by_cases f : e ≤ s + 4
      · exact g3 f
      · rw [if_neg f] at c; exact absurd c (by decide)
    · by_cases f : e ≤ s + 4
      · rw [if_pos f] at c; exact absurd c (by decide)
      · rw [if_neg f] at c; exact absurd c (by decide)
  · intro c1 _ _ c2 _ _ c3
    have c1 : s < n := by omega
    rw [es, hx.at c1] at c2 c3
    refine vP_Q (fun r hr => ?_) (c_word hT hO hx3 h13 c1)
    obtain ⟨h1, v1⟩ := r
    obtain ⟨g1, e, v, g2, g3, g4, g5⟩ := hr
    have g1 : v1 = none := g1
    subst g1
    refine vP_hv (fun hv => q_scan86 hT hO t p n s hv ?_)
    exact Sc_mk (k := 1) (s := s) (e := e) (v := v) ⟨⟨hps, hq, fun _ => c2⟩, Or.inr ⟨c1, Or.inl ⟨c3, rfl, g2⟩⟩⟩ ⟨fun _ => g3, fun c => absurd c (by decide), fun c => absurd c (by decide)⟩ (g4) (hf3.trans g5)
  · intro c1 _ _ c2
    have c1 : s < n := by omega
    rw [es, hx.at c1] at c2
    refine ih _ _ ⟨rfl, s + 1, ?_, by omega, by omega, fun q h1 h2 => ?_⟩
    · rw [show ((s : Nat) : Int) + 1 = ((s + 1 : Nat) : Int) from by omega]
    · rcases Nat.lt_or_ge q s with g | g
      · exact hq q h1 g
      · have e : q = s := by omega
        rw [e]
        exact ⟨c1, c2⟩
  · intro c1 _ _
    have c1 : n ≤ s := by omega
    refine Sc_mk (k := 0) (s := s) (e := s) (v := -1) ⟨⟨hps, hq, fun c => absurd c (by omega)⟩, Or.inl ⟨c1, rfl, rfl⟩⟩ ⟨fun c => absurd c (by decide), fun c => absurd c (by decide), fun c => absurd c (by decide)⟩ ⟨zset_same, ?_, ?_, ?_⟩ (hf3.z (by decide))
    · exact (zset_ne (fun c => absurd c.1 (by decide))).trans h13
    · exact (zset_ne (fun c => absurd c.1 (by decide))).trans ((zset_ne (fun c => absurd c.1 (by decide))).trans zset_same)
    · exact (zset_ne (fun c => absurd c.1 (by decide))).trans zset_same
/-- the tokens of a text, by their number -/
def TS (B : Nat → Int) (n : Nat) : Nat → Int → Nat → Nat → Prop
  | 0, k, s, e => Tk B n 0 k s e
  | j + 1, k, s, e => ∃ k' s' e', TS B n j k' s' e' ∧ k' ≠ 0 ∧ k' ≠ 4 ∧ Tk B n e' k s e
theorem TS.uniq {B : Nat → Int} {n : Nat} : ∀ {j : Nat} {k k' : Int} {s s' e e' : Nat}, TS B n j k s e → TS B n j k' s' e' → k = k' ∧ s = s' ∧ e = e'
  | 0, _, _, _, _, _, _, a, b => Tk.uniq a b
  | j + 1, _, _, _, _, _, _, ⟨_, _, _, a1, _, _, a2⟩, ⟨_, _, _, b1, _, _, b2⟩ => by
    obtain ⟨_, _, h⟩ := TS.uniq a1 b1
    rw [h] at a2
    exact Tk.uniq a2 b2
theorem TS.bd {B : Nat → Int} {n : Nat} : ∀ {j : Nat} {k : Int} {s e : Nat}, TS B n j k s e → j ≤ s ∧ s ≤ n ∧ s ≤ e ∧ e ≤ n ∧ (k ≠ 0 → j < e)
  | 0, _, _, _, a => by
    obtain ⟨h1, h2, h3, h4, h5⟩ := a.se (Nat.zero_le _)
    exact ⟨h1, h2, h3, h4, fun c => by have := h5 c; omega⟩
  | j + 1, _, _, _, ⟨_, _, _, a1, a2, _, a3⟩ => by
    obtain ⟨_, _, _, g4, g5⟩ := TS.bd a1
    have g5 := g5 a2
    obtain ⟨h1, h2, h3, h4, h5⟩ := a3.se g4
    exact ⟨by omega, h2, h3, h4, fun c => by have := h5 c; omega⟩
def Rw (B : Nat → Int) (n j : Nat) (h : zH) : Prop := ∃ k s e v, TS B n j k s e ∧ VC B k s e v ∧ Tc j k s e v h
/-- what beginText leaves: the tokens up to the last, which is the end or none -/
def Txt (B : Nat → Int) (n m : Nat) (h : zH) : Prop := m ≤ 900 ∧ (∀ j, j ≤ m → Rw B n j h) ∧ ((h 12 m).2 = 0 ∨ (h 12 m).2 = 4)
def bF (h0 h : zH) : Prop := ∀ a b, ¬ (a = 12 ∨ a = 13 ∨ a = 14 ∨ a = 15 ∨ (a = 10 ∧ 6 ≤ b ∧ b ≤ 8)) → h a b = h0 a b
theorem Rw.f {B : Nat → Int} {n j t : Nat} {h0 h : zH} (g : cF t h0 h) (hj : j ≠ t) (a : Rw B n j h0) : Rw B n j h := by
  obtain ⟨k, s, e, v, a1, a2, a3, a4, a5, a6⟩ := a
  exact ⟨k, s, e, v, a1, a2, (g 12 j (fun c => hj c.2)).trans a3, (g 13 j (fun c => hj c.2)).trans a4, (g 14 j (fun c => hj c.2)).trans a5, (g 15 j (fun c => hj c.2)).trans a6⟩
def Bg (B : Nat → Int) (n : Nat) (h0 : zH) (r : zR) : Prop := r.2 = none ∧ ∃ m, Txt B n m r.1 ∧ bF h0 r.1 ∧ r.1 10 6 = (0, 0) ∧ r.1 10 7 = (0, 0) ∧ r.1 10 8 = (0, -1)
theorem c_begin {D : zD} {T : zT} (hT : hTab T) (hO : vOK T) {N : Nat} {B : Nat → Int} {n : Nat} {h : zH} (hx : TXc B n h) (hn : (n : Int) ≤ (h 10 1).2) : vP D T N 102 0 h [some (2, 10), some (0, (n : Int)), none, none, none] [] (Bg B n h) := by
  have b9 := hx.1.1
  refine vP_hv (fun hv => q_beg0 hT hO n hv ?_)
  have en : (if 0 < (if (h 10 1).2 < (n : Int) then (h 10 1).2 else (n : Int)) then (if (h 10 1).2 < (n : Int) then (h 10 1).2 else (n : Int)) else 0) = (n : Int) := by
    have e1 : (if (h 10 1).2 < (n : Int) then (h 10 1).2 else (n : Int)) = (n : Int) := if_neg (by omega)
    rw [e1]
    by_cases c : 0 < (n : Int)
    · exact if_pos c
    · rw [if_neg c]; omega
  rw [en]
  refine vP_loop (fun h' l => ∃ t p : Nat, l = [some (2, 10), some (0, (n : Int)), some (0, (n : Int)), some (0, (p : Int)), some (0, (t : Int))] ∧ TXc B n h' ∧ bF h h' ∧ h' 10 6 = (0, 0) ∧ h' 10 7 = (0, 0) ∧ h' 10 8 = (0, -1) ∧ (∀ j, j < t → Rw B n j h') ∧ p ≤ n ∧ ((t = 0 ∧ p = 0) ∨ ∃ k s, TS B n (t - 1) k s p ∧ k ≠ 0 ∧ k ≠ 4 ∧ 1 ≤ t)) ?_ N _ _ ⟨0, 0, rfl, ((hx.z (by decide)).z (by decide)).z (by decide), fun a b hn => (zset_ne (fun c => by omega)).trans ((zset_ne (fun c => by omega)).trans (zset_ne (fun c => by omega))), (zset_ne (by decide)).trans ((zset_ne (by decide)).trans zset_same), (zset_ne (by decide)).trans zset_same, zset_same, fun j hj => absurd hj (by omega), Nat.zero_le _, Or.inl ⟨rfl, rfl⟩⟩
  rintro N h' l ⟨t, p, rfl, hx', hf, h6, h7, h8, hr, hp, hl⟩ ih
  have ht9 : t ≤ 900 := by
    rcases hl with ⟨e, _⟩ | ⟨k, s, g1, g2, _, g4⟩
    · omega
    · have := g1.bd
      have := this.2.2.2.2 g2
      omega
  refine vP_hv (fun hv => q_beg33 hT hO n n p t hv (fun c => absurd c (by omega)) (fun _ => ?_))
  refine vP_Q (fun r hr' => ?_) (c_scan hT hO hx' hp)
  obtain ⟨h1, v1⟩ := r
  obtain ⟨g1, k, s, e, v, g2, g3, g4, g5⟩ := hr'
  have g1 : v1 = none := g1
  subst g1
  have g4 : Tc t k s e v h1 := g4
  have g5 : cF t h' h1 := g5
  have hts : TS B n t k s e := by
    rcases hl with ⟨e1, e2⟩ | ⟨k', s', f1, f2, f3, f4⟩
    · rw [e2] at g2
      rw [e1]
      exact g2
    · obtain ⟨t', rfl⟩ : ∃ t', t = t' + 1 := ⟨t - 1, by omega⟩
      exact ⟨k', s', p, f1, f2, f3, g2⟩
  have hbf : bF h h1 := fun a b hn => (g5 a b (fun c => hn (by omega))).trans (hf a b hn)
  have hrw : ∀ j, j ≤ t → Rw B n j h1 := fun j hj => by
    by_cases e1 : j = t
    · rw [e1]
      exact ⟨k, s, e, v, hts, g3, g4⟩
    · exact (hr j (by omega)).f g5 e1
  have h6' : h1 10 6 = (0, 0) := (g5 10 6 (fun c => by omega)).trans h6
  have h7' : h1 10 7 = (0, 0) := (g5 10 7 (fun c => by omega)).trans h7
  have h8' : h1 10 8 = (0, -1) := (g5 10 8 (fun c => by omega)).trans h8
  have ek : (h1 12 (t : Int).toNat).2 = k := congrArg Prod.snd g4.1
  have ee : (h1 14 (t : Int).toNat).2 = (e : Int) := congrArg Prod.snd g4.2.2.1
  refine vP_hv (fun hv => q_beg49 hT hO n n p t hv ⟨by omega, by omega⟩ ?_ ?_ ?_)
  · intro _ _ c
    exact ⟨rfl, t, ⟨ht9, hrw, Or.inl c⟩, hbf, h6', h7', h8'⟩
  · intro _ _ _ c
    exact ⟨rfl, t, ⟨ht9, hrw, Or.inr c⟩, hbf, h6', h7', h8'⟩
  · intro _ _ c1 c2
    rw [ek] at c1 c2
    rw [ee]
    refine ih _ _ ⟨t + 1, e, by rw [show ((t : Nat) : Int) + 1 = ((t + 1 : Nat) : Int) from by omega], hx'.f g5, hbf, h6', h7', h8', fun j hj => hrw j (by omega), hts.bd.2.2.2.1, Or.inr ⟨k, s, hts, c1, c2, by omega⟩⟩
end
section
/-! printed by wip/l/gent2.py: single steps of the readers -/
theorem q_must {D : zD} {T : zT} (hT : hTab T) (hO : vOK T) {N : Nat} {h : zH} {Q : zR → Prop} (b : Int) (hv0 : zHv h)
    (k0 : (0 < (h 121 12).2) → Q (h, none))
    (k1 : ((h 121 12).2 ≤ 0) → (b = 0) → ((h 121 14).2 = 4) → Q (zset (zset h 121 12 (0, 1)) 121 13 (0, (h 121 15).2), none))
    (k2 : ((h 121 12).2 ≤ 0) → (b = 0) → ((h 121 14).2 ≠ 4) → Q (zset (zset h 121 12 (0, 2)) 121 13 (0, (h 121 15).2), none))
    (k3 : ((h 121 12).2 ≤ 0) → (b ≠ 0) → vP D T N 284 0 h [some (2, 121), none] [] (fun r1 => vP D T N 282 16 r1.1 [some (2, 121), some (0, b)] (zpush r1.2 []) Q)) :
    vP D T N 282 0 h [some (2, 121), some (0, b)] [] Q := by
  refine v_load (v := (2, 121)) (hz_X12_must hT _ _ rfl) rfl rfl ?_
  refine v_getI (t := 0) (r := 121) (hz_X12_must hT _ _ rfl) rfl rfl rfl ?_
  refine v_if (hz_X12_must hT _ _ rfl) (fun hc1 => ?_) (fun hc1 => ?_)
  · have hc1 : 0 < (h 121 12).2 := hc1
    refine v_ret0 (hz_X12_must hT _ _ rfl) ?_
    exact k0 hc1
  · have hc1 : (h 121 12).2 ≤ 0 := Int.not_lt.mp hc1
    refine v_load (v := (0, b)) (hz_X12_must hT _ _ rfl) rfl rfl ?_
    refine v_if (hz_X12_must hT _ _ rfl) (fun hc2 => ?_) (fun hc2 => ?_)
    · have hc2 : b = 0 := hc2
      refine v_load (v := (2, 121)) (hz_X12_must hT _ _ rfl) rfl rfl ?_
      refine v_call (w := 1) [some (2, 121)] hO (hz_X12_must hT _ _ rfl) rfl rfl ?_
      refine v_load (v := (2, 121)) (hz_X12_wrong hT _ _ rfl) rfl rfl ?_
      refine v_load (v := (2, 121)) (hz_X12_wrong hT _ _ rfl) rfl rfl ?_
      refine v_getI (t := 0) (r := 121) (hz_X12_wrong hT _ _ rfl) rfl rfl rfl ?_
      refine v_push (4) (hz_X12_wrong hT _ _ rfl) rfl ?_
      refine v_ic (hz_X12_wrong hT _ _ rfl) (fun hc3 => ?_) (fun hc3 => ?_)
      · have hc3 : (h 121 14).2 = 4 := hc3
        refine v_push (1) (hz_X12_wrong hT _ _ rfl) rfl ?_
        refine v_goto (hz_X12_wrong hT _ _ rfl) ?_
        refine v_load (v := (2, 121)) (hi_X12_wrong_14 hT) rfl rfl ?_
        refine v_getI (t := 0) (r := 121) (hi_X12_wrong_15 hT) rfl rfl rfl ?_
        refine v_call (w := 3) [some (2, 121), some (0, 1), some (0, (h 121 15).2)] hO (hi_X12_wrong_18 hT) rfl rfl ?_
        refine v_load (v := (2, 121)) (hi_X12_fail_0 hT) rfl rfl ?_
        refine v_getI (t := 0) (r := 121) (hi_X12_fail_1 hT) rfl rfl rfl ?_
        refine v_if (hi_X12_fail_4 hT) (fun hc4 => absurd (show 0 < (h 121 12).2 from hc4) (by omega)) (fun _ => ?_)
        refine v_load (v := (2, 121)) (hi_X12_fail_8 hT) rfl rfl ?_
        refine v_load (v := (0, 1)) (hi_X12_fail_9 hT) rfl rfl ?_
        refine v_putf (r := 121) hO (hi_X12_fail_10 hT) rfl (fun hf5 => ?_)
        refine v_load (v := (2, 121)) (hi_X12_fail_13 hT) rfl rfl ?_
        refine v_load (v := (0, (h 121 15).2)) (hi_X12_fail_14 hT) rfl rfl ?_
        refine v_putf (r := 121) hO (hi_X12_fail_15 hT) rfl (fun hf6 => ?_)
        refine v_ret0 (hi_X12_fail_18 hT) ?_
        show vP D T N 340 21 (zset (zset h 121 12 (0, 1)) 121 13 (0, (h 121 15).2)) [some (2, 121)] [] _
        refine v_ret0 (hi_X12_wrong_21 hT) ?_
        show vP D T N 282 23 (zset (zset h 121 12 (0, 1)) 121 13 (0, (h 121 15).2)) [some (2, 121), some (0, b)] [] _
        refine v_ret0 (hz_X12_must hT _ _ rfl) ?_
        exact k1 hc1 hc2 hc3
      · have hc3 : (h 121 14).2 ≠ 4 := hc3
        refine v_push (2) (hz_X12_wrong hT _ _ rfl) rfl ?_
        refine v_load (v := (2, 121)) (hi_X12_wrong_14 hT) rfl rfl ?_
        refine v_getI (t := 0) (r := 121) (hi_X12_wrong_15 hT) rfl rfl rfl ?_
        refine v_call (w := 3) [some (2, 121), some (0, 2), some (0, (h 121 15).2)] hO (hi_X12_wrong_18 hT) rfl rfl ?_
        refine v_load (v := (2, 121)) (hi_X12_fail_0 hT) rfl rfl ?_
        refine v_getI (t := 0) (r := 121) (hi_X12_fail_1 hT) rfl rfl rfl ?_
        refine v_if (hi_X12_fail_4 hT) (fun hc7 => absurd (show 0 < (h 121 12).2 from hc7) (by omega)) (fun _ => ?_)
        refine v_load (v := (2, 121)) (hi_X12_fail_8 hT) rfl rfl ?_
        refine v_load (v := (0, 2)) (hi_X12_fail_9 hT) rfl rfl ?_
        refine v_putf (r := 121) hO (hi_X12_fail_10 hT) rfl (fun hf8 => ?_)
        refine v_load (v := (2, 121)) (hi_X12_fail_13 hT) rfl rfl ?_
        refine v_load (v := (0, (h 121 15).2)) (hi_X12_fail_14 hT) rfl rfl ?_
        refine v_putf (r := 121) hO (hi_X12_fail_15 hT) rfl (fun hf9 => ?_)
        refine v_ret0 (hi_X12_fail_18 hT) ?_
        show vP D T N 340 21 (zset (zset h 121 12 (0, 2)) 121 13 (0, (h 121 15).2)) [some (2, 121)] [] _
        refine v_ret0 (hi_X12_wrong_21 hT) ?_
        show vP D T N 282 23 (zset (zset h 121 12 (0, 2)) 121 13 (0, (h 121 15).2)) [some (2, 121), some (0, b)] [] _
        refine v_ret0 (hz_X12_must hT _ _ rfl) ?_
        exact k2 hc1 hc2 hc3
    · have hc2 : b ≠ 0 := hc2
      refine v_load (v := (2, 121)) (hz_X12_must hT _ _ rfl) rfl rfl ?_
      refine v_call (w := 2) [some (2, 121), none] hO (hz_X12_must hT _ _ rfl) rfl rfl ?_
      exact k3 hc1 hc2
theorem q_must16 {D : zD} {T : zT} (hT : hTab T) (hO : vOK T) {N : Nat} {h : zH} {Q : zR → Prop} (b : Int) (hv0 : zHv h)
    (k0 : Q (h, none)) :
    vP D T N 282 16 h [some (2, 121), some (0, b)] [] Q := by
  refine v_goto (hz_X12_must hT _ _ rfl) ?_
  refine v_ret0 (hz_X12_must hT _ _ rfl) ?_
  exact k0 
theorem q_rnum {D : zD} {T : zT} (hT : hTab T) (hO : vOK T) {N : Nat} {h : zH} {Q : zR → Prop} (u v : Int) (hv0 : zHv h)
    (k0 : ((h 121 12).2 = 0) → ((h 121 14).2 = 2) → ((h 121 17).2 < u) → (0 < (h 121 12).2) → Q (h, some (0, 0)))
    (k1 : ((h 121 12).2 = 0) → ((h 121 14).2 = 2) → ((h 121 17).2 < u) → ((h 121 12).2 ≤ 0) → Q (zset (zset h 121 12 (0, 4)) 121 13 (0, (h 121 15).2), some (0, 0)))
    (k2 : ((h 121 12).2 = 0) → ((h 121 14).2 = 2) → (u ≤ (h 121 17).2) → (v < (h 121 17).2) → (0 < (h 121 12).2) → Q (h, some (0, 0)))
    (k3 : ((h 121 12).2 = 0) → ((h 121 14).2 = 2) → (u ≤ (h 121 17).2) → (v < (h 121 17).2) → ((h 121 12).2 ≤ 0) → Q (zset (zset h 121 12 (0, 4)) 121 13 (0, (h 121 15).2), some (0, 0)))
    (k4 : ((h 121 12).2 = 0) → ((h 121 14).2 = 2) → (u ≤ (h 121 17).2) → ((h 121 17).2 ≤ v) → (0 < (h 121 12).2) → Q (h, some (0, 0)))
    (k5 : ((h 121 12).2 = 0) → ((h 121 14).2 = 2) → (u ≤ (h 121 17).2) → ((h 121 17).2 ≤ v) → ((h 121 12).2 ≤ 0) → vP D T N 284 0 h [some (2, 121), none] [] (fun r1 => vP D T N 300 68 r1.1 [some (2, 121), some (0, u), some (0, v), some (0, (h 121 17).2)] (zpush r1.2 []) Q))
    (k6 : ((h 121 12).2 = 0) → ((h 121 14).2 ≠ 2) → ((h 121 14).2 = 4) → (0 < (h 121 12).2) → ((h 121 17).2 < u) → Q (h, some (0, 0)))
    (k7 : ((h 121 12).2 = 0) → ((h 121 14).2 ≠ 2) → ((h 121 14).2 = 4) → (0 < (h 121 12).2) → (u ≤ (h 121 17).2) → (v < (h 121 17).2) → Q (h, some (0, 0)))
    (k8 : ((h 121 12).2 = 0) → ((h 121 14).2 ≠ 2) → ((h 121 14).2 = 4) → (0 < (h 121 12).2) → (u ≤ (h 121 17).2) → ((h 121 17).2 ≤ v) → Q (h, some (0, 0)))
    (k9 : ((h 121 12).2 = 0) → ((h 121 14).2 ≠ 2) → ((h 121 14).2 = 4) → ((h 121 12).2 ≤ 0) → Q (zset (zset h 121 12 (0, 1)) 121 13 (0, (h 121 15).2), some (0, 0)))
    (k10 : ((h 121 12).2 = 0) → ((h 121 14).2 ≠ 2) → ((h 121 14).2 ≠ 4) → (0 < (h 121 12).2) → ((h 121 17).2 < u) → Q (h, some (0, 0)))
    (k11 : ((h 121 12).2 = 0) → ((h 121 14).2 ≠ 2) → ((h 121 14).2 ≠ 4) → (0 < (h 121 12).2) → (u ≤ (h 121 17).2) → (v < (h 121 17).2) → Q (h, some (0, 0)))
    (k12 : ((h 121 12).2 = 0) → ((h 121 14).2 ≠ 2) → ((h 121 14).2 ≠ 4) → (0 < (h 121 12).2) → (u ≤ (h 121 17).2) → ((h 121 17).2 ≤ v) → Q (h, some (0, 0)))
    (k13 : ((h 121 12).2 = 0) → ((h 121 14).2 ≠ 2) → ((h 121 14).2 ≠ 4) → ((h 121 12).2 ≤ 0) → Q (zset (zset h 121 12 (0, 2)) 121 13 (0, (h 121 15).2), some (0, 0)))
    (k14 : ((h 121 12).2 ≠ 0) → (0 < (h 121 12).2) → Q (h, some (0, 0)))
    (k15 : ((h 121 12).2 ≠ 0) → ((h 121 12).2 ≤ 0) → vP D T N 284 0 h [some (2, 121), none] [] (fun r1 => vP D T N 300 68 r1.1 [some (2, 121), some (0, u), some (0, v), some (0, (h 121 17).2)] (zpush r1.2 []) Q)) :
    vP D T N 300 0 h [some (2, 121), some (0, u), some (0, v), none] [] Q := by
  refine v_load (v := (2, 121)) (hz_X12_readNumber hT _ _ rfl) rfl rfl ?_
  refine v_getI (t := 0) (r := 121) (hz_X12_readNumber hT _ _ rfl) rfl rfl rfl ?_
  refine v_if (hz_X12_readNumber hT _ _ rfl) (fun hc1 => ?_) (fun hc1 => ?_)
  · have hc1 : (h 121 12).2 = 0 := hc1
    refine v_load (v := (2, 121)) (hz_X12_readNumber hT _ _ rfl) rfl rfl ?_
    refine v_getI (t := 0) (r := 121) (hz_X12_readNumber hT _ _ rfl) rfl rfl rfl ?_
    refine v_push (2) (hz_X12_readNumber hT _ _ rfl) rfl ?_
    refine v_ic (hz_X12_readNumber hT _ _ rfl) (fun hc2 => ?_) (fun hc2 => ?_)
    · have hc2 : (h 121 14).2 = 2 := hc2
      refine v_load (v := (2, 121)) (hi_X12_readNumber_19 hT) rfl rfl ?_
      refine v_getI (t := 0) (r := 121) (hi_X12_readNumber_20 hT) rfl rfl rfl ?_
      refine v_if (hi_X12_readNumber_23 hT) (fun _ => ?_) (fun hc3 => absurd (show (h 121 12).2 = 0 from hc1) hc3)
      refine v_load (v := (2, 121)) (hz_X12_readNumber hT _ _ rfl) rfl rfl ?_
      refine v_getI (t := 0) (r := 121) (hz_X12_readNumber hT _ _ rfl) rfl rfl rfl ?_
      refine v_i2l (hz_X12_readNumber hT _ _ rfl) ?_
      refine v_load (v := (0, u)) (hz_X12_readNumber hT _ _ rfl) rfl rfl ?_
      refine v_i2l (hz_X12_readNumber hT _ _ rfl) ?_
      refine v_load (v := (0, v)) (hz_X12_readNumber hT _ _ rfl) rfl rfl ?_
      refine v_i2l (hz_X12_readNumber hT _ _ rfl) ?_
      refine v_call (w := 6) [some (1, (h 121 17).2), none, some (1, u), none, some (1, v), none] hO (hz_X12_readNumber hT _ _ rfl) rfl rfl ?_
      refine v_load (v := (1, (h 121 17).2)) (hi_X12_isIn_0 hT) rfl rfl ?_
      refine v_load (v := (1, u)) (hi_X12_isIn_1 hT) rfl rfl ?_
      refine v_lif (hi_X12_isIn_2 hT) (hi_X12_isIn_3 hT) (fun hc4 => ?_) (fun hc4 => ?_)
      · have hc4 : (h 121 17).2 < u := hc4
        refine v_push (0) (hi_X12_isIn_17 hT) rfl ?_
        refine v_ret (hi_X12_isIn_18 hT) (Or.inl rfl) ?_
        show vP D T N 300 38 h [some (2, 121), some (0, u), some (0, v), none] [(0, 0)] _
        refine v_if (hi_X12_readNumber_38 hT) (fun _ => ?_) (fun hc5 => absurd (show (0 : Int) = 0 from (by decide)) hc5)
        refine v_load (v := (2, 121)) (hi_X12_readNumber_41 hT) rfl rfl ?_
        refine v_push (4) (hi_X12_readNumber_42 hT) rfl ?_
        refine v_load (v := (2, 121)) (hi_X12_readNumber_43 hT) rfl rfl ?_
        refine v_getI (t := 0) (r := 121) (hi_X12_readNumber_44 hT) rfl rfl rfl ?_
        refine v_call (w := 3) [some (2, 121), some (0, 4), some (0, (h 121 15).2)] hO (hi_X12_readNumber_47 hT) rfl rfl ?_
        refine v_load (v := (2, 121)) (hi_X12_fail_0 hT) rfl rfl ?_
        refine v_getI (t := 0) (r := 121) (hi_X12_fail_1 hT) rfl rfl rfl ?_
        refine v_if (hi_X12_fail_4 hT) (fun hc6 => ?_) (fun hc6 => ?_)
        · have hc6 : 0 < (h 121 12).2 := hc6
          refine v_ret0 (hi_X12_fail_7 hT) ?_
          show vP D T N 300 50 h [some (2, 121), some (0, u), some (0, v), none] [] _
          refine v_load (v := (2, 121)) (hi_X12_readNumber_50 hT) rfl rfl ?_
          refine v_getI (t := 0) (r := 121) (hi_X12_readNumber_51 hT) rfl rfl rfl ?_
          refine v_if (hi_X12_readNumber_54 hT) (fun _ => ?_) (fun hc7 => absurd (show 0 < (h 121 12).2 from hc6) hc7)
          refine v_push (0) (hi_X12_readNumber_57 hT) rfl ?_
          refine v_ret (hi_X12_readNumber_58 hT) (Or.inl rfl) ?_
          exact k0 hc1 hc2 hc4 hc6
        · have hc6 : (h 121 12).2 ≤ 0 := Int.not_lt.mp hc6
          refine v_load (v := (2, 121)) (hi_X12_fail_8 hT) rfl rfl ?_
          refine v_load (v := (0, 4)) (hi_X12_fail_9 hT) rfl rfl ?_
          refine v_putf (r := 121) hO (hi_X12_fail_10 hT) rfl (fun hf8 => ?_)
          refine v_load (v := (2, 121)) (hi_X12_fail_13 hT) rfl rfl ?_
          refine v_load (v := (0, (h 121 15).2)) (hi_X12_fail_14 hT) rfl rfl ?_
          refine v_putf (r := 121) hO (hi_X12_fail_15 hT) rfl (fun hf9 => ?_)
          refine v_ret0 (hi_X12_fail_18 hT) ?_
          show vP D T N 300 50 (zset (zset h 121 12 (0, 4)) 121 13 (0, (h 121 15).2)) [some (2, 121), some (0, u), some (0, v), none] [] _
          refine v_load (v := (2, 121)) (hi_X12_readNumber_50 hT) rfl rfl ?_
          refine v_getf (v := (0, 4)) (r := 121) (hi_X12_readNumber_51 hT) rfl rfl (fun _ => Eq.trans (zset_ne (fun c => absurd c.2 (by decide))) zset_same) ?_
          refine v_if (hi_X12_readNumber_54 hT) (fun _ => ?_) (fun hc10 => absurd (show 0 < (4 : Int) from (by decide)) hc10)
          refine v_push (0) (hi_X12_readNumber_57 hT) rfl ?_
          refine v_ret (hi_X12_readNumber_58 hT) (Or.inl rfl) ?_
          exact k1 hc1 hc2 hc4 hc6
      · have hc4 : u ≤ (h 121 17).2 := Int.not_lt.mp hc4
        refine v_load (v := (1, (h 121 17).2)) (hi_X12_isIn_6 hT) rfl rfl ?_
        refine v_load (v := (1, v)) (hi_X12_isIn_7 hT) rfl rfl ?_
        refine v_lif (hi_X12_isIn_9 hT) (hi_X12_isIn_10 hT) (fun hc11 => ?_) (fun hc11 => ?_)
        · have hc11 : v < (h 121 17).2 := hc11
          refine v_push (0) (hi_X12_isIn_17 hT) rfl ?_
          refine v_ret (hi_X12_isIn_18 hT) (Or.inl rfl) ?_
          show vP D T N 300 38 h [some (2, 121), some (0, u), some (0, v), none] [(0, 0)] _
          refine v_if (hi_X12_readNumber_38 hT) (fun _ => ?_) (fun hc12 => absurd (show (0 : Int) = 0 from (by decide)) hc12)
          refine v_load (v := (2, 121)) (hi_X12_readNumber_41 hT) rfl rfl ?_
          refine v_push (4) (hi_X12_readNumber_42 hT) rfl ?_
          refine v_load (v := (2, 121)) (hi_X12_readNumber_43 hT) rfl rfl ?_
          refine v_getI (t := 0) (r := 121) (hi_X12_readNumber_44 hT) rfl rfl rfl ?_
          refine v_call (w := 3) [some (2, 121), some (0, 4), some (0, (h 121 15).2)] hO (hi_X12_readNumber_47 hT) rfl rfl ?_
          refine v_load (v := (2, 121)) (hi_X12_fail_0 hT) rfl rfl ?_
          refine v_getI (t := 0) (r := 121) (hi_X12_fail_1 hT) rfl rfl rfl ?_
          refine v_if (hi_X12_fail_4 hT) (fun hc13 => ?_) (fun hc13 => ?_)
          · have hc13 : 0 < (h 121 12).2 := hc13
            refine v_ret0 (hi_X12_fail_7 hT) ?_
            show vP D T N 300 50 h [some (2, 121), some (0, u), some (0, v), none] [] _
            refine v_load (v := (2, 121)) (hi_X12_readNumber_50 hT) rfl rfl ?_
            refine v_getI (t := 0) (r := 121) (hi_X12_readNumber_51 hT) rfl rfl rfl ?_
            refine v_if (hi_X12_readNumber_54 hT) (fun _ => ?_) (fun hc14 => absurd (show 0 < (h 121 12).2 from hc13) hc14)
            refine v_push (0) (hi_X12_readNumber_57 hT) rfl ?_
            refine v_ret (hi_X12_readNumber_58 hT) (Or.inl rfl) ?_
            exact k2 hc1 hc2 hc4 hc11 hc13
          · have hc13 : (h 121 12).2 ≤ 0 := Int.not_lt.mp hc13
            refine v_load (v := (2, 121)) (hi_X12_fail_8 hT) rfl rfl ?_
            refine v_load (v := (0, 4)) (hi_X12_fail_9 hT) rfl rfl ?_
            refine v_putf (r := 121) hO (hi_X12_fail_10 hT) rfl (fun hf15 => ?_)
            refine v_load (v := (2, 121)) (hi_X12_fail_13 hT) rfl rfl ?_
            refine v_load (v := (0, (h 121 15).2)) (hi_X12_fail_14 hT) rfl rfl ?_
            refine v_putf (r := 121) hO (hi_X12_fail_15 hT) rfl (fun hf16 => ?_)
            refine v_ret0 (hi_X12_fail_18 hT) ?_
            show vP D T N 300 50 (zset (zset h 121 12 (0, 4)) 121 13 (0, (h 121 15).2)) [some (2, 121), some (0, u), some (0, v), none] [] _
            refine v_load (v := (2, 121)) (hi_X12_readNumber_50 hT) rfl rfl ?_
            refine v_getf (v := (0, 4)) (r := 121) (hi_X12_readNumber_51 hT) rfl rfl (fun _ => Eq.trans (zset_ne (fun c => absurd c.2 (by decide))) zset_same) ?_
            refine v_if (hi_X12_readNumber_54 hT) (fun _ => ?_) (fun hc17 => absurd (show 0 < (4 : Int) from (by decide)) hc17)
            refine v_push (0) (hi_X12_readNumber_57 hT) rfl ?_
            refine v_ret (hi_X12_readNumber_58 hT) (Or.inl rfl) ?_
            exact k3 hc1 hc2 hc4 hc11 hc13
        · have hc11 : (h 121 17).2 ≤ v := Int.not_lt.mp hc11
          refine v_push (1) (hi_X12_isIn_13 hT) rfl ?_
          refine v_goto (hi_X12_isIn_14 hT) ?_
          refine v_ret (hi_X12_isIn_18 hT) (Or.inl rfl) ?_
          show vP D T N 300 38 h [some (2, 121), some (0, u), some (0, v), none] [(0, 1)] _
          refine v_if (hi_X12_readNumber_38 hT) (fun hc18 => absurd (show (1 : Int) = 0 from hc18) (by decide)) (fun _ => ?_)
          refine v_load (v := (2, 121)) (hi_X12_readNumber_50 hT) rfl rfl ?_
          refine v_getI (t := 0) (r := 121) (hi_X12_readNumber_51 hT) rfl rfl rfl ?_
          refine v_if (hi_X12_readNumber_54 hT) (fun hc19 => ?_) (fun hc19 => ?_)
          · have hc19 : 0 < (h 121 12).2 := hc19
            refine v_push (0) (hi_X12_readNumber_57 hT) rfl ?_
            refine v_ret (hi_X12_readNumber_58 hT) (Or.inl rfl) ?_
            exact k4 hc1 hc2 hc4 hc11 hc19
          · have hc19 : (h 121 12).2 ≤ 0 := Int.not_lt.mp hc19
            refine v_load (v := (2, 121)) (hz_X12_readNumber hT _ _ rfl) rfl rfl ?_
            refine v_getI (t := 0) (r := 121) (hz_X12_readNumber hT _ _ rfl) rfl rfl rfl ?_
            refine v_store1 [some (2, 121), some (0, u), some (0, v), some (0, (h 121 17).2)] (hz_X12_readNumber hT _ _ rfl) ⟨rfl, Nat.ne_of_beq_eq_false rfl⟩ (Nat.le_of_ble_eq_true rfl) rfl ?_
            refine v_load (v := (2, 121)) (hz_X12_readNumber hT _ _ rfl) rfl rfl ?_
            refine v_call (w := 2) [some (2, 121), none] hO (hz_X12_readNumber hT _ _ rfl) rfl rfl ?_
            exact k5 hc1 hc2 hc4 hc11 hc19
    · have hc2 : (h 121 14).2 ≠ 2 := hc2
      refine v_load (v := (2, 121)) (hz_X12_readNumber hT _ _ rfl) rfl rfl ?_
      refine v_call (w := 1) [some (2, 121)] hO (hz_X12_readNumber hT _ _ rfl) rfl rfl ?_
      refine v_load (v := (2, 121)) (hz_X12_wrong hT _ _ rfl) rfl rfl ?_
      refine v_load (v := (2, 121)) (hz_X12_wrong hT _ _ rfl) rfl rfl ?_
      refine v_getI (t := 0) (r := 121) (hz_X12_wrong hT _ _ rfl) rfl rfl rfl ?_
      refine v_push (4) (hz_X12_wrong hT _ _ rfl) rfl ?_
      refine v_ic (hz_X12_wrong hT _ _ rfl) (fun hc20 => ?_) (fun hc20 => ?_)
      · have hc20 : (h 121 14).2 = 4 := hc20
        refine v_push (1) (hz_X12_wrong hT _ _ rfl) rfl ?_
        refine v_goto (hz_X12_wrong hT _ _ rfl) ?_
        refine v_load (v := (2, 121)) (hi_X12_wrong_14 hT) rfl rfl ?_
        refine v_getI (t := 0) (r := 121) (hi_X12_wrong_15 hT) rfl rfl rfl ?_
        refine v_call (w := 3) [some (2, 121), some (0, 1), some (0, (h 121 15).2)] hO (hi_X12_wrong_18 hT) rfl rfl ?_
        refine v_load (v := (2, 121)) (hi_X12_fail_0 hT) rfl rfl ?_
        refine v_getI (t := 0) (r := 121) (hi_X12_fail_1 hT) rfl rfl rfl ?_
        refine v_if (hi_X12_fail_4 hT) (fun hc21 => ?_) (fun hc21 => ?_)
        · have hc21 : 0 < (h 121 12).2 := hc21
          refine v_ret0 (hi_X12_fail_7 hT) ?_
          show vP D T N 340 21 h [some (2, 121)] [] _
          refine v_ret0 (hi_X12_wrong_21 hT) ?_
          show vP D T N 300 19 h [some (2, 121), some (0, u), some (0, v), none] [] _
          refine v_load (v := (2, 121)) (hi_X12_readNumber_19 hT) rfl rfl ?_
          refine v_getI (t := 0) (r := 121) (hi_X12_readNumber_20 hT) rfl rfl rfl ?_
          refine v_if (hi_X12_readNumber_23 hT) (fun _ => ?_) (fun hc22 => absurd (show (h 121 12).2 = 0 from hc1) hc22)
          refine v_load (v := (2, 121)) (hz_X12_readNumber hT _ _ rfl) rfl rfl ?_
          refine v_getI (t := 0) (r := 121) (hz_X12_readNumber hT _ _ rfl) rfl rfl rfl ?_
          refine v_i2l (hz_X12_readNumber hT _ _ rfl) ?_
          refine v_load (v := (0, u)) (hz_X12_readNumber hT _ _ rfl) rfl rfl ?_
          refine v_i2l (hz_X12_readNumber hT _ _ rfl) ?_
          refine v_load (v := (0, v)) (hz_X12_readNumber hT _ _ rfl) rfl rfl ?_
          refine v_i2l (hz_X12_readNumber hT _ _ rfl) ?_
          refine v_call (w := 6) [some (1, (h 121 17).2), none, some (1, u), none, some (1, v), none] hO (hz_X12_readNumber hT _ _ rfl) rfl rfl ?_
          refine v_load (v := (1, (h 121 17).2)) (hi_X12_isIn_0 hT) rfl rfl ?_
          refine v_load (v := (1, u)) (hi_X12_isIn_1 hT) rfl rfl ?_
          refine v_lif (hi_X12_isIn_2 hT) (hi_X12_isIn_3 hT) (fun hc23 => ?_) (fun hc23 => ?_)
          · have hc23 : (h 121 17).2 < u := hc23
            refine v_push (0) (hi_X12_isIn_17 hT) rfl ?_
            refine v_ret (hi_X12_isIn_18 hT) (Or.inl rfl) ?_
            show vP D T N 300 38 h [some (2, 121), some (0, u), some (0, v), none] [(0, 0)] _
            refine v_if (hi_X12_readNumber_38 hT) (fun _ => ?_) (fun hc24 => absurd (show (0 : Int) = 0 from (by decide)) hc24)
            refine v_load (v := (2, 121)) (hi_X12_readNumber_41 hT) rfl rfl ?_
            refine v_push (4) (hi_X12_readNumber_42 hT) rfl ?_
            refine v_load (v := (2, 121)) (hi_X12_readNumber_43 hT) rfl rfl ?_
            refine v_getI (t := 0) (r := 121) (hi_X12_readNumber_44 hT) rfl rfl rfl ?_
            refine v_call (w := 3) [some (2, 121), some (0, 4), some (0, (h 121 15).2)] hO (hi_X12_readNumber_47 hT) rfl rfl ?_
            refine v_load (v := (2, 121)) (hi_X12_fail_0 hT) rfl rfl ?_
            refine v_getI (t := 0) (r := 121) (hi_X12_fail_1 hT) rfl rfl rfl ?_
            refine v_if (hi_X12_fail_4 hT) (fun _ => ?_) (fun hc25 => absurd (show 0 < (h 121 12).2 from hc21) hc25)
            refine v_ret0 (hi_X12_fail_7 hT) ?_
            show vP D T N 300 50 h [some (2, 121), some (0, u), some (0, v), none] [] _
            refine v_load (v := (2, 121)) (hi_X12_readNumber_50 hT) rfl rfl ?_
            refine v_getI (t := 0) (r := 121) (hi_X12_readNumber_51 hT) rfl rfl rfl ?_
            refine v_if (hi_X12_readNumber_54 hT) (fun _ => ?_) (fun hc26 => absurd (show 0 < (h 121 12).2 from hc21) hc26)
            refine v_push (0) (hi_X12_readNumber_57 hT) rfl ?_
            refine v_ret (hi_X12_readNumber_58 hT) (Or.inl rfl) ?_
            exact k6 hc1 hc2 hc20 hc21 hc23
          · have hc23 : u ≤ (h 121 17).2 := Int.not_lt.mp hc23
            refine v_load (v := (1, (h 121 17).2)) (hi_X12_isIn_6 hT) rfl rfl ?_
            refine v_load (v := (1, v)) (hi_X12_isIn_7 hT) rfl rfl ?_
            refine v_lif (hi_X12_isIn_9 hT) (hi_X12_isIn_10 hT) (fun hc27 => ?_) (fun hc27 => ?_)
            · have hc27 : v < (h 121 17).2 := hc27
              refine v_push (0) (hi_X12_isIn_17 hT) rfl ?_
              refine v_ret (hi_X12_isIn_18 hT) (Or.inl rfl) ?_
              show vP D T N 300 38 h [some (2, 121), some (0, u), some (0, v), none] [(0, 0)] _
              refine v_if (hi_X12_readNumber_38 hT) (fun _ => ?_) (fun hc28 => absurd (show (0 : Int) = 0 from (by decide)) hc28)
              refine v_load (v := (2, 121)) (hi_X12_readNumber_41 hT) rfl rfl ?_
              refine v_push (4) (hi_X12_readNumber_42 hT) rfl ?_
              refine v_load (v := (2, 121)) (hi_X12_readNumber_43 hT) rfl rfl ?_
              refine v_getI (t := 0) (r := 121) (hi_X12_readNumber_44 hT) rfl rfl rfl ?_
              refine v_call (w := 3) [some (2, 121), some (0, 4), some (0, (h 121 15).2)] hO (hi_X12_readNumber_47 hT) rfl rfl ?_
              refine v_load (v := (2, 121)) (hi_X12_fail_0 hT) rfl rfl ?_
              refine v_getI (t := 0) (r := 121) (hi_X12_fail_1 hT) rfl rfl rfl ?_
              refine v_if (hi_X12_fail_4 hT) (fun _ => ?_) (fun hc29 => absurd (show 0 < (h 121 12).2 from hc21) hc29)
              refine v_ret0 (hi_X12_fail_7 hT) ?_
              show vP D T N 300 50 h [some (2, 121), some (0, u), some (0, v), none] [] _
              refine v_load (v := (2, 121)) (hi_X12_readNumber_50 hT) rfl rfl ?_
              refine v_getI (t := 0) (r := 121) (hi_X12_readNumber_51 hT) rfl rfl rfl ?_
              refine v_if (hi_X12_readNumber_54 hT) (fun _ => ?_) (fun hc30 => absurd (show 0 < (h 121 12).2 from hc21) hc30)
              refine v_push (0) (hi_X12_readNumber_57 hT) rfl ?_
              refine v_ret (hi_X12_readNumber_58 hT) (Or.inl rfl) ?_
              exact k7 hc1 hc2 hc20 hc21 hc23 hc27
            · have hc27 : (h 121 17).2 ≤ v := Int.not_lt.mp hc27
              refine v_push (1) (hi_X12_isIn_13 hT) rfl ?_
              refine v_goto (hi_X12_isIn_14 hT) ?_
              refine v_ret (hi_X12_isIn_18 hT) (Or.inl rfl) ?_
              show vP D T N 300 38 h [some (2, 121), some (0, u), some (0, v), none] [(0, 1)] _
              refine v_if (hi_X12_readNumber_38 hT) (fun hc31 => absurd (show (1 : Int) = 0 from hc31) (by decide)) (fun _ => ?_)
              refine v_load (v := (2, 121)) (hi_X12_readNumber_50 hT) rfl rfl ?_
              refine v_getI (t := 0) (r := 121) (hi_X12_readNumber_51 hT) rfl rfl rfl ?_
              refine v_if (hi_X12_readNumber_54 hT) (fun _ => ?_) (fun hc32 => absurd (show 0 < (h 121 12).2 from hc21) hc32)
              refine v_push (0) (hi_X12_readNumber_57 hT) rfl ?_
              refine v_ret (hi_X12_readNumber_58 hT) (Or.inl rfl) ?_
              exact k8 hc1 hc2 hc20 hc21 hc23 hc27
        · have hc21 : (h 121 12).2 ≤ 0 := Int.not_lt.mp hc21
          refine v_load (v := (2, 121)) (hi_X12_fail_8 hT) rfl rfl ?_
          refine v_load (v := (0, 1)) (hi_X12_fail_9 hT) rfl rfl ?_
          refine v_putf (r := 121) hO (hi_X12_fail_10 hT) rfl (fun hf33 => ?_)
          refine v_load (v := (2, 121)) (hi_X12_fail_13 hT) rfl rfl ?_
          refine v_load (v := (0, (h 121 15).2)) (hi_X12_fail_14 hT) rfl rfl ?_
          refine v_putf (r := 121) hO (hi_X12_fail_15 hT) rfl (fun hf34 => ?_)
          refine v_ret0 (hi_X12_fail_18 hT) ?_
          show vP D T N 340 21 (zset (zset h 121 12 (0, 1)) 121 13 (0, (h 121 15).2)) [some (2, 121)] [] _
          refine v_ret0 (hi_X12_wrong_21 hT) ?_
          show vP D T N 300 19 (zset (zset h 121 12 (0, 1)) 121 13 (0, (h 121 15).2)) [some (2, 121), some (0, u), some (0, v), none] [] _
          refine v_load (v := (2, 121)) (hi_X12_readNumber_19 hT) rfl rfl ?_
          refine v_getf (v := (0, 1)) (r := 121) (hi_X12_readNumber_20 hT) rfl rfl (fun _ => Eq.trans (zset_ne (fun c => absurd c.2 (by decide))) zset_same) ?_
          refine v_if (hi_X12_readNumber_23 hT) (fun hc35 => absurd (show (1 : Int) = 0 from hc35) (by decide)) (fun _ => ?_)
          refine v_load (v := (2, 121)) (hi_X12_readNumber_50 hT) rfl rfl ?_
          refine v_getf (v := (0, 1)) (r := 121) (hi_X12_readNumber_51 hT) rfl rfl (fun _ => Eq.trans (zset_ne (fun c => absurd c.2 (by decide))) zset_same) ?_
          refine v_if (hi_X12_readNumber_54 hT) (fun _ => ?_) (fun hc36 => absurd (show 0 < (1 : Int) from (by decide)) hc36)
          refine v_push (0) (hi_X12_readNumber_57 hT) rfl ?_
          refine v_ret (hi_X12_readNumber_58 hT) (Or.inl rfl) ?_
          exact k9 hc1 hc2 hc20 hc21
      · have hc20 : (h 121 14).2 ≠ 4 := hc20
        refine v_push (2) (hz_X12_wrong hT _ _ rfl) rfl ?_
        refine v_load (v := (2, 121)) (hi_X12_wrong_14 hT) rfl rfl ?_
        refine v_getI (t := 0) (r := 121) (hi_X12_wrong_15 hT) rfl rfl rfl ?_
        refine v_call (w := 3) [some (2, 121), some (0, 2), some (0, (h 121 15).2)] hO (hi_X12_wrong_18 hT) rfl rfl ?_
        refine v_load (v := (2, 121)) (hi_X12_fail_0 hT) rfl rfl ?_
        refine v_getI (t := 0) (r := 121) (hi_X12_fail_1 hT) rfl rfl rfl ?_
        refine v_if (hi_X12_fail_4 hT) (fun hc37 => ?_) (fun hc37 => ?_)
        · have hc37 : 0 < (h 121 12).2 := hc37
          refine v_ret0 (hi_X12_fail_7 hT) ?_
          show vP D T N 340 21 h [some (2, 121)] [] _
          refine v_ret0 (hi_X12_wrong_21 hT) ?_
          show vP D T N 300 19 h [some (2, 121), some (0, u), some (0, v), none] [] _
          refine v_load (v := (2, 121)) (hi_X12_readNumber_19 hT) rfl rfl ?_
          refine v_getI (t := 0) (r := 121) (hi_X12_readNumber_20 hT) rfl rfl rfl ?_
          refine v_if (hi_X12_readNumber_23 hT) (fun _ => ?_) (fun hc38 => absurd (show (h 121 12).2 = 0 from hc1) hc38)
          refine v_load (v := (2, 121)) (hz_X12_readNumber hT _ _ rfl) rfl rfl ?_
          refine v_getI (t := 0) (r := 121) (hz_X12_readNumber hT _ _ rfl) rfl rfl rfl ?_
          refine v_i2l (hz_X12_readNumber hT _ _ rfl) ?_
          refine v_load (v := (0, u)) (hz_X12_readNumber hT _ _ rfl) rfl rfl ?_
          refine v_i2l (hz_X12_readNumber hT _ _ rfl) ?_
          refine v_load (v := (0, v)) (hz_X12_readNumber hT _ _ rfl) rfl rfl ?_
          refine v_i2l (hz_X12_readNumber hT _ _ rfl) ?_
          refine v_call (w := 6) [some (1, (h 121 17).2), none, some (1, u), none, some (1, v), none] hO (hz_X12_readNumber hT _ _ rfl) rfl rfl ?_
          refine v_load (v := (1, (h 121 17).2)) (hi_X12_isIn_0 hT) rfl rfl ?_
          refine v_load (v := (1, u)) (hi_X12_isIn_1 hT) rfl rfl ?_
          refine v_lif (hi_X12_isIn_2 hT) (hi_X12_isIn_3 hT) (fun hc39 => ?_) (fun hc39 => ?_)
          · have hc39 : (h 121 17).2 < u := hc39
            refine v_push (0) (hi_X12_isIn_17 hT) rfl ?_
            refine v_ret (hi_X12_isIn_18 hT) (Or.inl rfl) ?_
            show vP D T N 300 38 h [some (2, 121), some (0, u), some (0, v), none] [(0, 0)] _
            refine v_if (hi_X12_readNumber_38 hT) (fun _ => ?_) (fun hc40 => absurd (show (0 : Int) = 0 from (by decide)) hc40)
            refine v_load (v := (2, 121)) (hi_X12_readNumber_41 hT) rfl rfl ?_
            refine v_push (4) (hi_X12_readNumber_42 hT) rfl ?_
            refine v_load (v := (2, 121)) (hi_X12_readNumber_43 hT) rfl rfl ?_
            refine v_getI (t := 0) (r := 121) (hi_X12_readNumber_44 hT) rfl rfl rfl ?_
            refine v_call (w := 3) [some (2, 121), some (0, 4), some (0, (h 121 15).2)] hO (hi_X12_readNumber_47 hT) rfl rfl ?_
            refine v_load (v := (2, 121)) (hi_X12_fail_0 hT) rfl rfl ?_
            refine v_getI (t := 0) (r := 121) (hi_X12_fail_1 hT) rfl rfl rfl ?_
            refine v_if (hi_X12_fail_4 hT) (fun _ => ?_) (fun hc41 => absurd (show 0 < (h 121 12).2 from hc37) hc41)
            refine v_ret0 (hi_X12_fail_7 hT) ?_
            show vP D T N 300 50 h [some (2, 121), some (0, u), some (0, v), none] [] _
            refine v_load (v := (2, 121)) (hi_X12_readNumber_50 hT) rfl rfl ?_
            refine v_getI (t := 0) (r := 121) (hi_X12_readNumber_51 hT) rfl rfl rfl ?_
            refine v_if (hi_X12_readNumber_54 hT) (fun _ => ?_) (fun hc42 => absurd (show 0 < (h 121 12).2 from hc37) hc42)
            refine v_push (0) (hi_X12_readNumber_57 hT) rfl ?_
            refine v_ret (hi_X12_readNumber_58 hT) (Or.inl rfl) ?_
            exact k10 hc1 hc2 hc20 hc37 hc39
          · have hc39 : u ≤ (h 121 17).2 := Int.not_lt.mp hc39
            refine v_load (v := (1, (h 121 17).2)) (hi_X12_isIn_6 hT) rfl rfl ?_
            refine v_load (v := (1, v)) (hi_X12_isIn_7 hT) rfl rfl ?_
            refine v_lif (hi_X12_isIn_9 hT) (hi_X12_isIn_10 hT) (fun hc43 => ?_) (fun hc43 => ?_)
            · have hc43 : v < (h 121 17).2 := hc43
              refine v_push (0) (hi_X12_isIn_17 hT) rfl ?_
              refine v_ret (hi_X12_isIn_18 hT) (Or.inl rfl) ?_
              show vP D T N 300 38 h [some (2, 121), some (0, u), some (0, v), none] [(0, 0)] _
              refine v_if (hi_X12_readNumber_38 hT) (fun _ => ?_) (fun hc44 => absurd (show (0 : Int) = 0 from (by decide)) hc44)
              refine v_load (v := (2, 121)) (hi_X12_readNumber_41 hT) rfl rfl ?_
              refine v_push (4) (hi_X12_readNumber_42 hT) rfl ?_
              refine v_load (v := (2, 121)) (hi_X12_readNumber_43 hT) rfl rfl ?_
              refine v_getI (t := 0) (r := 121) (hi_X12_readNumber_44 hT) rfl rfl rfl ?_
              refine v_call (w := 3) [some (2, 121), some (0, 4), some (0, (h 121 15).2)] hO (hi_X12_readNumber_47 hT) rfl rfl ?_
              refine v_load (v := (2, 121)) (hi_X12_fail_0 hT) rfl rfl ?_
              refine v_getI (t := 0) (r := 121) (hi_X12_fail_1 hT) rfl rfl rfl ?_
              refine v_if (hi_X12_fail_4 hT) (fun _ => ?_) (fun hc45 => absurd (show 0 < (h 121 12).2 from hc37) hc45)
              refine v_ret0 (hi_X12_fail_7 hT) ?_
              show vP D T N 300 50 h [some (2, 121), some (0, u), some (0, v), none] [] _
              refine v_load (v := (2, 121)) (hi_X12_readNumber_50 hT) rfl rfl ?_
              refine v_getI (t := 0) (r := 121) (hi_X12_readNumber_51 hT) rfl rfl rfl ?_
              refine v_if (hi_X12_readNumber_54 hT) (fun _ => ?_) (fun hc46 => absurd (show 0 < (h 121 12).2 from hc37) hc46)
              refine v_push (0) (hi_X12_readNumber_57 hT) rfl ?_
              refine v_ret (hi_X12_readNumber_58 hT) (Or.inl rfl) ?_
              exact k11 hc1 hc2 hc20 hc37 hc39 hc43
            · have hc43 : (h 121 17).2 ≤ v := Int.not_lt.mp hc43
              refine v_push (1) (hi_X12_isIn_13 hT) rfl ?_
              refine v_goto (hi_X12_isIn_14 hT) ?_
              refine v_ret (hi_X12_isIn_18 hT) (Or.inl rfl) ?_
              show vP D T N 300 38 h [some (2, 121), some (0, u), some (0, v), none] [(0, 1)] _
              refine v_if (hi_X12_readNumber_38 hT) (fun hc47 => absurd (show (1 : Int) = 0 from hc47) (by decide)) (fun _ => ?_)
              refine v_load (v := (2, 121)) (hi_X12_readNumber_50 hT) rfl rfl ?_
              refine v_getI (t := 0) (r := 121) (hi_X12_readNumber_51 hT) rfl rfl rfl ?_
              refine v_if (hi_X12_readNumber_54 hT) (fun _ => ?_) (fun hc48 => absurd (show 0 < (h 121 12).2 from hc37) hc48)
              refine v_push (0) (hi_X12_readNumber_57 hT) rfl ?_
              refine v_ret (hi_X12_readNumber_58 hT) (Or.inl rfl) ?_
              exact k12 hc1 hc2 hc20 hc37 hc39 hc43
        · have hc37 : (h 121 12).2 ≤ 0 := Int.not_lt.mp hc37
          refine v_load (v := (2, 121)) (hi_X12_fail_8 hT) rfl rfl ?_
          refine v_load (v := (0, 2)) (hi_X12_fail_9 hT) rfl rfl ?_
          refine v_putf (r := 121) hO (hi_X12_fail_10 hT) rfl (fun hf49 => ?_)
          refine v_load (v := (2, 121)) (hi_X12_fail_13 hT) rfl rfl ?_
          refine v_load (v := (0, (h 121 15).2)) (hi_X12_fail_14 hT) rfl rfl ?_
          refine v_putf (r := 121) hO (hi_X12_fail_15 hT) rfl (fun hf50 => ?_)
          refine v_ret0 (hi_X12_fail_18 hT) ?_
          show vP D T N 340 21 (zset (zset h 121 12 (0, 2)) 121 13 (0, (h 121 15).2)) [some (2, 121)] [] _
          refine v_ret0 (hi_X12_wrong_21 hT) ?_
          show vP D T N 300 19 (zset (zset h 121 12 (0, 2)) 121 13 (0, (h 121 15).2)) [some (2, 121), some (0, u), some (0, v), none] [] _
          refine v_load (v := (2, 121)) (hi_X12_readNumber_19 hT) rfl rfl ?_
          refine v_getf (v := (0, 2)) (r := 121) (hi_X12_readNumber_20 hT) rfl rfl (fun _ => Eq.trans (zset_ne (fun c => absurd c.2 (by decide))) zset_same) ?_
          refine v_if (hi_X12_readNumber_23 hT) (fun hc51 => absurd (show (2 : Int) = 0 from hc51) (by decide)) (fun _ => ?_)
          refine v_load (v := (2, 121)) (hi_X12_readNumber_50 hT) rfl rfl ?_
          refine v_getf (v := (0, 2)) (r := 121) (hi_X12_readNumber_51 hT) rfl rfl (fun _ => Eq.trans (zset_ne (fun c => absurd c.2 (by decide))) zset_same) ?_
          refine v_if (hi_X12_readNumber_54 hT) (fun _ => ?_) (fun hc52 => absurd (show 0 < (2 : Int) from (by decide)) hc52)
          refine v_push (0) (hi_X12_readNumber_57 hT) rfl ?_
          refine v_ret (hi_X12_readNumber_58 hT) (Or.inl rfl) ?_
          exact k13 hc1 hc2 hc20 hc37
  · have hc1 : (h 121 12).2 ≠ 0 := hc1
    refine v_load (v := (2, 121)) (hi_X12_readNumber_19 hT) rfl rfl ?_
    refine v_getI (t := 0) (r := 121) (hi_X12_readNumber_20 hT) rfl rfl rfl ?_
    refine v_if (hi_X12_readNumber_23 hT) (fun hc53 => absurd (show (h 121 12).2 = 0 from hc53) (by omega)) (fun _ => ?_)
    refine v_load (v := (2, 121)) (hi_X12_readNumber_50 hT) rfl rfl ?_
    refine v_getI (t := 0) (r := 121) (hi_X12_readNumber_51 hT) rfl rfl rfl ?_
    refine v_if (hi_X12_readNumber_54 hT) (fun hc54 => ?_) (fun hc54 => ?_)
    · have hc54 : 0 < (h 121 12).2 := hc54
      refine v_push (0) (hi_X12_readNumber_57 hT) rfl ?_
      refine v_ret (hi_X12_readNumber_58 hT) (Or.inl rfl) ?_
      exact k14 hc1 hc54
    · have hc54 : (h 121 12).2 ≤ 0 := Int.not_lt.mp hc54
      refine v_load (v := (2, 121)) (hz_X12_readNumber hT _ _ rfl) rfl rfl ?_
      refine v_getI (t := 0) (r := 121) (hz_X12_readNumber hT _ _ rfl) rfl rfl rfl ?_
      refine v_store1 [some (2, 121), some (0, u), some (0, v), some (0, (h 121 17).2)] (hz_X12_readNumber hT _ _ rfl) ⟨rfl, Nat.ne_of_beq_eq_false rfl⟩ (Nat.le_of_ble_eq_true rfl) rfl ?_
      refine v_load (v := (2, 121)) (hz_X12_readNumber hT _ _ rfl) rfl rfl ?_
      refine v_call (w := 2) [some (2, 121), none] hO (hz_X12_readNumber hT _ _ rfl) rfl rfl ?_
      exact k15 hc1 hc54
theorem q_rnum68 {D : zD} {T : zT} (hT : hTab T) (hO : vOK T) {N : Nat} {h : zH} {Q : zR → Prop} (u v w : Int) (hv0 : zHv h)
    (k0 : Q (h, some (0, w))) :
    vP D T N 300 68 h [some (2, 121), some (0, u), some (0, v), some (0, w)] [] Q := by
  refine v_load (v := (0, w)) (hz_X12_readNumber hT _ _ rfl) rfl rfl ?_
  refine v_ret (hz_X12_readNumber hT _ _ rfl) (Or.inl rfl) ?_
  exact k0 
end
