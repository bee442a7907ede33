/-! WAYS, PURE: weights on cells below 48 (C: the cells; nb: what lies beside; co: what it costs to come in; g: a cost's weight) -/
def wFar : Int := 1000000
def wAdj (nb : Nat → Nat → Int) (a b : Nat) : Prop := ∃ d, d < 4 ∧ nb a d = (b : Int)
def wOk (C : Nat → Prop) (nb : Nat → Nat → Int) : Prop := (∀ a, C a → a < 48) ∧ ∀ a d, C a → d < 4 → nb a d = -1 ∨ ∃ b : Nat, C b ∧ nb a d = (b : Int) ∧ wAdj nb b a
theorem wOk.sym {C : Nat → Prop} {nb : Nat → Nat → Int} (h : wOk C nb) {a b : Nat} (ca : C a) (hb : wAdj nb a b) : wAdj nb b a ∧ C b := by
  obtain ⟨d, hd, e⟩ := hb
  rcases h.2 a d ca hd with q | ⟨b', cb, q, k⟩
  · rw [e] at q; omega
  · have : b' = b := by rw [e] at q; omega
    subst this
    exact ⟨k, cb⟩
def wU (C : Nat → Prop) (nb : Nat → Nat → Int) (co : Nat → Int) (g : Int → Int) (to : Nat) (f : Nat → Int) : Prop := (∀ a, C a → 0 ≤ f a ∧ f a ≤ wFar) ∧ (∀ a, C a → a ≠ to → f a < wFar → ∃ b, C b ∧ wAdj nb a b ∧ 0 < co b ∧ f b < wFar ∧ g (co b) + f b ≤ f a)
def wD (C : Nat → Prop) (nb : Nat → Nat → Int) (co : Nat → Int) (g : Int → Int) (to : Nat) (d : Nat → Int) : Prop := d to = 0 ∧ wU C nb co g to d ∧ (∀ a b, C a → C b → wAdj nb a b → 0 < co b → d b < wFar → d a ≤ g (co b) + d b)
theorem wD.suc {C : Nat → Prop} {nb : Nat → Nat → Int} {co : Nat → Int} {g : Int → Int} {to : Nat} {d : Nat → Int} (h : wD C nb co g to d) {a : Nat} (ca : C a) (hn : a ≠ to) (hf : d a < wFar) : ∃ b, C b ∧ wAdj nb a b ∧ 0 < co b ∧ d b < wFar ∧ d a = g (co b) + d b := by
  obtain ⟨b, cb, ab, pb, fb, l⟩ := h.2.1.2 a ca hn hf
  have := h.2.2 a b ca cb ab pb fb
  exact ⟨b, cb, ab, pb, fb, by omega⟩
/-- nothing that goes along real rows lies below the true weight -/
theorem wlow {C : Nat → Prop} {nb : Nat → Nat → Int} {co : Nat → Int} {g : Int → Int} {to : Nat} {e f : Nat → Int} (hg : ∀ c, 0 < c → 0 < g c) (he : wD C nb co g to e) (hu : wU C nb co g to f) : ∀ (n : Nat) (a : Nat), C a → (f a).toNat = n → e a ≤ f a := by
  intro n
  induction n using Nat.strongRecOn with
  | ind n ih =>
    intro a ca hn
    have b1 := hu.1 a ca
    have b2 := he.2.1.1 a ca
    by_cases hat : a = to
    · rw [hat] at b1 ⊢
      rw [he.1]
      exact b1.1
    · by_cases hf : f a < wFar
      · obtain ⟨b, cb, ab, pb, fb, l⟩ := hu.2 a ca hat hf
        have g0 := hg _ pb
        have b3 := hu.1 b cb
        have k := ih (f b).toNat (by omega) b cb rfl
        have := he.2.2 a b ca cb ab pb (by omega)
        omega
      · omega
theorem wD_uni {C : Nat → Prop} {nb : Nat → Nat → Int} {co : Nat → Int} {g : Int → Int} {to : Nat} {d e : Nat → Int} (hg : ∀ c, 0 < c → 0 < g c) (h : wD C nb co g to d) (h' : wD C nb co g to e) {a : Nat} (ca : C a) : d a = e a := by
  have k1 := wlow hg h h'.2.1 _ a ca rfl
  have k2 := wlow hg h' h.2.1 _ a ca rfl
  omega
def wsum (d : Nat → Int) : Nat → Nat
  | 0 => 0
  | n + 1 => wsum d n + (d n).toNat
theorem wsum_le {d e : Nat → Int} (h : ∀ x, (d x).toNat ≤ (e x).toNat) : ∀ n, wsum d n ≤ wsum e n
  | 0 => Nat.le_refl _
  | n + 1 => Nat.add_le_add (wsum_le h n) (h n)
theorem wsum_lt {d e : Nat → Int} (h : ∀ x, (d x).toNat ≤ (e x).toNat) {j : Nat} (hj : (d j).toNat < (e j).toNat) : ∀ n, j < n → wsum d n < wsum e n
  | 0, h0 => absurd h0 (Nat.not_lt_zero _)
  | n + 1, h0 => by
    show wsum d n + (d n).toNat < wsum e n + (e n).toNat
    have hn := h n
    by_cases c : j = n
    · subst c
      have := wsum_le h j
      omega
    · have := wsum_lt h hj n (by omega)
      omega
theorem wD_ex {C : Nat → Prop} {nb : Nat → Nat → Int} {co : Nat → Int} {g : Int → Int} {to : Nat} (hg : ∀ c, 0 < c → 0 < g c) (hC : ∀ a, C a → a < 48) : ∃ d, wD C nb co g to d := by
  have key : ∀ (m : Nat) (d : Nat → Int), wsum d 48 = m → d to = 0 → (∀ a, 0 ≤ d a ∧ d a ≤ wFar) → (∀ a, C a → a ≠ to → d a < wFar → ∃ b, C b ∧ wAdj nb a b ∧ 0 < co b ∧ d b < wFar ∧ g (co b) + d b ≤ d a) → ∃ d, wD C nb co g to d := by
    intro m
    induction m using Nat.strongRecOn with
    | ind m ih =>
      intro d hm h0 hb h3
      by_cases hv : ∃ a b, C a ∧ C b ∧ wAdj nb a b ∧ 0 < co b ∧ d b < wFar ∧ g (co b) + d b < d a
      · obtain ⟨a, b, ca, cb, ab, pb, fb, hl⟩ := hv
        have g0 := hg _ pb
        have ba := hb a
        have bb := hb b
        have hba : b ≠ a := fun c => by rw [c] at hl; rw [c] at g0; omega
        have hat : a ≠ to := fun c => by rw [c, h0] at hl; omega
        have eA : (if a = a then g (co b) + d b else d a) = g (co b) + d b := if_pos rfl
        refine ih (wsum (fun x => if x = a then g (co b) + d b else d x) 48) ?_ (fun x => if x = a then g (co b) + d b else d x) rfl ?_ ?_ ?_
        · rw [← hm]
          refine wsum_lt (j := a) (fun x => ?_) ?_ 48 (hC a ca)
          · show (if x = a then g (co b) + d b else d x).toNat ≤ (d x).toNat
            by_cases c : x = a
            · rw [if_pos c, c]; omega
            · rw [if_neg c]; exact Nat.le_refl _
          · show (if a = a then g (co b) + d b else d a).toNat < (d a).toNat
            rw [eA]; omega
        · show (if to = a then g (co b) + d b else d to) = 0
          rw [if_neg (fun c => hat c.symm)]; exact h0
        · intro x
          show 0 ≤ (if x = a then g (co b) + d b else d x) ∧ (if x = a then g (co b) + d b else d x) ≤ wFar
          by_cases c : x = a
          · rw [if_pos c]; omega
          · rw [if_neg c]; exact hb x
        · intro x cx hx fx
          have fx : (if x = a then g (co b) + d b else d x) < wFar := fx
          show ∃ y, C y ∧ wAdj nb x y ∧ 0 < co y ∧ (if y = a then g (co b) + d b else d y) < wFar ∧ g (co y) + (if y = a then g (co b) + d b else d y) ≤ (if x = a then g (co b) + d b else d x)
          by_cases c : x = a
          · refine ⟨b, cb, ?_, pb, ?_, ?_⟩
            · rw [c]; exact ab
            · rw [if_neg hba]; exact fb
            · rw [if_neg hba, if_pos c]; omega
          · rw [if_neg c] at fx ⊢
            obtain ⟨y, cy, ay, py, fy, ly⟩ := h3 x cx hx fx
            refine ⟨y, cy, ay, py, ?_, ?_⟩
            · by_cases cc : y = a
              · rw [if_pos cc]; omega
              · rw [if_neg cc]; exact fy
            · by_cases cc : y = a
              · rw [if_pos cc]
                rw [cc] at ly ⊢
                omega
              · rw [if_neg cc]; exact ly
      · refine ⟨d, h0, ⟨fun a _ => hb a, h3⟩, fun a b ca cb ab pb fb => Int.not_lt.mp (fun hl => hv ⟨a, b, ca, cb, ab, pb, fb, hl⟩)⟩
  refine key _ (fun x => if x = to then 0 else wFar) rfl (if_pos rfl) (fun a => ?_) (fun a ca hat hf => ?_)
  · show 0 ≤ (if a = to then (0 : Int) else wFar) ∧ (if a = to then (0 : Int) else wFar) ≤ wFar
    by_cases c : a = to
    · rw [if_pos c]; unfold wFar; omega
    · rw [if_neg c]; unfold wFar; omega
  · have hf : (if a = to then (0 : Int) else wFar) < wFar := hf
    rw [if_neg hat] at hf
    omega
/-! how many cells lie nearer: rows are short -/
def wcnt (d : Nat → Int) (v : Int) : Nat → Nat
  | 0 => 0
  | n + 1 => wcnt d v n + (if d n < v then 1 else 0)
theorem wcnt_le {d : Nat → Int} {v : Int} : ∀ n, wcnt d v n ≤ n
  | 0 => Nat.le_refl _
  | n + 1 => by
    have := wcnt_le (d := d) (v := v) n
    show wcnt d v n + (if d n < v then 1 else 0) ≤ n + 1
    split <;> omega
theorem wcnt_lt {d : Nat → Int} {v : Int} {a : Nat} (ha : ¬ d a < v) : ∀ n, a < n → wcnt d v n < n
  | 0, h => absurd h (Nat.not_lt_zero _)
  | n + 1, h => by
    show wcnt d v n + (if d n < v then 1 else 0) < n + 1
    by_cases c : a = n
    · subst c
      rw [if_neg ha]
      have := wcnt_le (d := d) (v := v) a
      omega
    · have := wcnt_lt ha n (by omega)
      split <;> omega
theorem wcnt_mono {d : Nat → Int} {u v : Int} (huv : u ≤ v) : ∀ n, wcnt d u n ≤ wcnt d v n
  | 0 => Nat.le_refl _
  | n + 1 => by
    have := wcnt_mono (d := d) huv n
    show wcnt d u n + (if d n < u then 1 else 0) ≤ wcnt d v n + (if d n < v then 1 else 0)
    by_cases c : d n < u
    · rw [if_pos c, if_pos (by omega)]; omega
    · rw [if_neg c]; split <;> omega
theorem wcnt_s {d : Nat → Int} {v : Int} {b : Nat} (hb : d b < v) : ∀ n, b < n → wcnt d (d b) n + 1 ≤ wcnt d v n
  | 0, h => absurd h (Nat.not_lt_zero _)
  | n + 1, h => by
    show wcnt d (d b) n + (if d n < d b then 1 else 0) + 1 ≤ wcnt d v n + (if d n < v then 1 else 0)
    by_cases c : b = n
    · subst c
      have := wcnt_mono (d := d) (Int.le_of_lt hb) b
      rw [if_neg (Int.lt_irrefl _), if_pos hb]
      omega
    · have := wcnt_s hb n (by omega)
      by_cases c2 : d n < d b
      · rw [if_pos c2, if_pos (by omega)]; omega
      · rw [if_neg c2]; split <;> omega
def g100 (c : Int) : Int := 100 * c + 1
def g64 (c : Int) : Int := 64 * c + 1
theorem g100_p : ∀ c, 0 < c → 0 < g100 c := fun c h => by unfold g100; omega
theorem g64_p : ∀ c, 0 < c → 0 < g64 c := fun c h => by unfold g64; omega
section WR
variable {C : Nat → Prop} {nb : Nat → Nat → Int} {co : Nat → Int} {to : Nat} {d : Nat → Int}
theorem wrank (hC : ∀ a, C a → a < 48) (hco : ∀ a, C a → co a ≤ 14) (h : wD C nb co g100 to d) : ∀ (n : Nat) (a : Nat), C a → (d a).toNat = n → d a < wFar → d a % 100 ≤ (wcnt d (d a) 48 : Int) ∧ d a ≤ 1401 * (wcnt d (d a) 48 : Int) := by
  intro n
  induction n using Nat.strongRecOn with
  | ind n ih =>
    intro a ca hn hf
    by_cases hat : a = to
    · rw [hat, h.1]
      omega
    · obtain ⟨b, cb, ab, pb, fb, e⟩ := h.suc ca hat hf
      have b1 := h.2.1.1 b cb
      have c14 := hco b cb
      unfold g100 at e
      have k := ih (d b).toNat (by omega) b cb rfl fb
      have r1 := wcnt_s (d := d) (v := d a) (b := b) (by omega) 48 (hC b cb)
      have r2 := wcnt_lt (d := d) (v := d a) (a := a) (Int.lt_irrefl _) 48 (hC a ca)
      omega
theorem wrank2 (hC : ∀ a, C a → a < 48) (hco : ∀ a, C a → co a ≤ 14) (h : wD C nb co g100 to d) {a : Nat} (ca : C a) (hf : d a < wFar) : d a % 100 ≤ 47 ∧ d a ≤ 65847 := by
  have k := wrank hC hco h _ a ca rfl hf
  have r2 := wcnt_lt (d := d) (v := d a) (a := a) (Int.lt_irrefl _) 48 (hC a ca)
  omega
theorem wsuc2 (hC : ∀ a, C a → a < 48) (hco : ∀ a, C a → co a ≤ 14) (h : wD C nb co g100 to d) {a b : Nat} (ca : C a) (cb : C b) (hf : d a < wFar) (hb : d b < wFar) (e : d a = g100 (co b) + d b) : d a % 100 = d b % 100 + 1 ∧ d a / 100 = co b + d b / 100 := by
  have k := wrank2 hC hco h ca hf
  have k2 := wrank2 hC hco h cb hb
  unfold g100 at e
  omega
/-- the same by the other weight -/
def wEe (d : Nat → Int) (a : Nat) : Int := if d a < wFar then 64 * (d a / 100) + d a % 100 else wFar
theorem wE_f {a : Nat} (h : d a < wFar) : wEe d a = 64 * (d a / 100) + d a % 100 := if_pos h
theorem wE_n {a : Nat} (h : ¬ d a < wFar) : wEe d a = wFar := if_neg h
theorem wE_lt {a : Nat} (h0 : 0 ≤ d a) : wEe d a < wFar ↔ d a < wFar := by
  by_cases c : d a < wFar
  · rw [wE_f c]; omega
  · rw [wE_n c]; omega
theorem wE_D (hC : ∀ a, C a → a < 48) (hco : ∀ a, C a → co a ≤ 14) (h : wD C nb co g100 to d) : wD C nb co g64 to (wEe d) := by
  have b0 := h.2.1.1
  refine ⟨?_, ⟨fun a ca => ?_, fun a ca hat hf => ?_⟩, fun a b ca cb ab pb fb => ?_⟩
  · rw [wE_f (by rw [h.1]; decide), h.1]; decide
  · have := b0 a ca
    by_cases c : d a < wFar
    · rw [wE_f c]; omega
    · rw [wE_n c]; unfold wFar; omega
  · have hf := (wE_lt (b0 a ca).1).mp hf
    obtain ⟨b, cb, ab, pb, fb, e⟩ := h.suc ca hat hf
    have k := wsuc2 hC hco h ca cb hf fb e
    refine ⟨b, cb, ab, pb, (wE_lt (b0 b cb).1).mpr fb, ?_⟩
    rw [wE_f hf, wE_f fb]
    unfold g64
    omega
  · have fb := (wE_lt (b0 b cb).1).mp fb
    have l := h.2.2 a b ca cb ab pb fb
    have k2 := wrank2 hC hco h cb fb
    have c14 := hco b cb
    unfold g100 at l
    have hf : d a < wFar := by unfold wFar; omega
    have k := wrank2 hC hco h ca hf
    rw [wE_f hf, wE_f fb]
    unfold g64
    omega
theorem wE_m (hC : ∀ a, C a → a < 48) (hco : ∀ a, C a → co a ≤ 14) (h : wD C nb co g100 to d) {a : Nat} (ca : C a) (hf : d a < wFar) : wEe d a % 64 = d a % 100 ∧ wEe d a / 64 = d a / 100 := by
  have k := wrank2 hC hco h ca hf
  rw [wE_f hf]
  omega
end WR
