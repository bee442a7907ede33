/-! TOKENS: the class's rows -/
def TXc (B : Nat → Int) (n : Nat) (h : zH) : Prop := BB B n ∧ ∀ q, q < n → h 11 q = (0, B q)
theorem TXc.z {B : Nat → Int} {n : Nat} {h : zH} {r k : Nat} {v : zV} (hr : r ≠ 11) (hx : TXc B n h) : TXc B n (zset h r k v) := ⟨hx.1, fun q hq => (zset_ne (fun c => hr c.1.symm)).trans (hx.2 q hq)⟩
theorem TXc.at {B : Nat → Int} {n : Nat} {h : zH} (hx : TXc B n h) {q : Nat} (hq : q < n) : (h 11 q).2 = B q := congrArg Prod.snd (hx.2 q hq)
-- where reservedIndex stands: word w, o of its letters
def RS (B : Nat → Int) (s e i w o : Nat) (m a : Int) : Prop := ((i < 118 ∧ RWp[i]? = some (w, o)) ∨ (i = 118 ∧ w = 22)) ∧ (∀ w' l, w' < w → RW[w']? = some l → ¬ Mw B s e l) ∧ ((a = 1 ∧ m = ((s + o : Nat) : Int) ∧ s + o ≤ e ∧ ∀ l, RW[w]? = some l → ∀ j, j < o → B (s + j) = l.getD j 0) ∨ (a = 0 ∧ (0 ≤ m ∧ m ≤ 900) ∧ ∀ l, RW[w]? = some l → ¬ Mw B s e l))
theorem RS_new {B : Nat → Int} {s e i w o : Nat} {l : List Int} (hse : s ≤ e) (hi : i < 118) (h1 : RWp[i]? = some (w, o)) (hl : RW[w]? = some l) (hn : i = 117 ∨ RWp[i + 1]? = some (w + 1, 0)) (hp : ∀ w' l, w' < w → RW[w']? = some l → ¬ Mw B s e l) (hm : ¬ Mw B s e l) : RS B s e (i + 1) (w + 1) 0 (s : Int) 1 := by
  refine ⟨?_, fun w' l' h1 h2 => ?_, Or.inl ⟨rfl, by omega, hse, fun _ _ j hj => absurd hj (by omega)⟩⟩
  · by_cases e : i = 117
    · subst e
      rw [RWp_last] at h1
      cases h1
      exact Or.inr ⟨rfl, rfl⟩
    · rcases hn with g | g
      · exact absurd g e
      · exact Or.inl ⟨by omega, g⟩
  · by_cases e : w' = w
    · rw [e, hl] at h2
      cases h2
      exact hm
    · exact hp w' l' (by omega) h2
theorem c_res {D : zD} {T : zT} (hT : hTab T) (hO : vOK T) {N : Nat} {h : zH} {B : Nat → Int} {n s e : Nat} (hx : TXc B n h) (hse : s ≤ e) (hen : e ≤ n) : vP D T N 117 0 h [some (2, 10), some (0, (s : Int)), some (0, (e : Int)), none, none, none, none, none] [] (fun r => r.1 = h ∧ ∃ v, r.2 = some (0, v) ∧ RI B s e v) := by
  have b9 := hx.1.1
  have hz : ∀ D : zD, ((zlen D 3 : Nat) : Int) = 118 := fun D => congrArg Int.ofNat (RWp_len.2.1 : (zTx 3).length = 118)
  refine vP_hv (fun hv => q_res0 hT hO s e hv ?_)
  refine vP_loop (fun h' l => h' = h ∧ ∃ (i w o : Nat) (m a : Int) (y : Option zV), l = [some (2, 10), some (0, (s : Int)), some (0, (e : Int)), some (0, (w : Int)), some (0, m), some (0, a), some (0, (i : Int)), y] ∧ RS B s e i w o m a) ?_ N _ _ ⟨rfl, 0, 0, 0, (s : Int), 1, none, rfl, Or.inl ⟨by decide, by decide +kernel⟩, fun w' l h => absurd h (by omega), Or.inl ⟨rfl, by omega, hse, fun _ _ j hj => absurd hj (by omega)⟩⟩
  rintro N h' l ⟨rfl, i, w, o, m, a, y, rfl, hi, hp, ha⟩ ih
  have hi7 : i ≤ 118 := by omega
  have hw : w ≤ 900 := by
    rcases hi with ⟨h1, h2⟩ | ⟨_, h2⟩
    · obtain ⟨l, h3, _⟩ := RWp_at h1 h2
      have := (List.getElem?_eq_some_iff.mp h3).1
      have := RWp_len.2.2
      omega
    · omega
  have hm : 0 ≤ m ∧ m ≤ 900 := by
    rcases ha with ⟨_, h1, h2, _⟩ | ⟨_, h1, _⟩
    · omega
    · exact h1
  have hlt : ((i : Int) < (zlen D 3 : Int)) → i < 118 ∧ RWp[i]? = some (w, o) := fun c => by
    rw [hz D] at c
    rcases hi with g | ⟨g, _⟩
    · exact g
    · omega
  have hch : zat D 3 (i : Int).toNat = (zTx 3).getD i 0 := by
    rw [Int.toNat_natCast]
    rfl
  have fin : ∀ i' w' : Nat, ∀ m' a' : Int, ∀ y', ∀ o', (RS B s e i' w' o' m' a') → ∀ x' j' : Int, x' = (w' : Int) → j' = (i' : Int) → vP D T N 117 11 h' [some (2, 10), some (0, (s : Int)), some (0, (e : Int)), some (0, x'), some (0, m'), some (0, a'), some (0, j'), y'] [] (fun r => r.1 = h' ∧ ∃ v, r.2 = some (0, v) ∧ RI B s e v) := fun i' w' m' a' y' o' g x' j' e1 e2 => by
    rw [e1, e2]
    exact ih _ _ ⟨rfl, i', w', o', m', a', y', rfl, g⟩
  refine vP_hv (fun hv => q_res11 hT hO s e w m a i y hv ⟨by omega, by omega⟩ hm ⟨by omega, by omega⟩ ?_ ?_ ?_ ?_ ?_ ?_ ?_ ?_)
  · intro c1 _ _ c2 c3
    obtain ⟨i1, i2⟩ := hlt c1
    rw [hch] at c2
    obtain ⟨l, hl, ⟨_, _, g3⟩ | ⟨g1, _⟩⟩ := RWp_at i1 i2
    · rcases ha with ⟨a1, _⟩ | ⟨_, _, a3⟩
      · omega
      · exact fin (i + 1) (w + 1) _ _ _ 0 (RS_new hse i1 i2 hl g3 hp (a3 l hl)) _ _ (by omega) (by omega)
    · exact absurd c2 g1
  · intro c1 _ _ c2 c3 c4
    obtain ⟨i1, i2⟩ := hlt c1
    rw [hch] at c2
    obtain ⟨l, hl, ⟨_, g2, g3⟩ | ⟨g1, _⟩⟩ := RWp_at i1 i2
    · rcases ha with ⟨_, a1, a2, a3⟩ | ⟨a1, _⟩
      · refine ⟨rfl, (w : Int), rfl, Or.inl ⟨w, l, hl, rfl, by omega, fun j hj => a3 l hl j (by omega)⟩⟩
      · exact absurd a1 c3
    · exact absurd c2 g1
  · intro c1 _ _ c2 c3 c4
    obtain ⟨i1, i2⟩ := hlt c1
    rw [hch] at c2
    obtain ⟨l, hl, ⟨_, g2, g3⟩ | ⟨g1, _⟩⟩ := RWp_at i1 i2
    · rcases ha with ⟨_, a1, a2, a3⟩ | ⟨a1, _⟩
      · exact fin (i + 1) (w + 1) _ _ _ 0 (RS_new hse i1 i2 hl g3 hp (fun f => by have := f.1; omega)) _ _ (by omega) (by omega)
      · exact absurd a1 c3
    · exact absurd c2 g1
  · intro c1 _ _ c2 c3
    obtain ⟨i1, i2⟩ := hlt c1
    rw [hch] at c2
    obtain ⟨l, hl, ⟨g1, _⟩ | ⟨_, g2, g3, g4⟩⟩ := RWp_at i1 i2
    · exact absurd g1 c2
    · rcases ha with ⟨a1, _⟩ | ⟨_, a2, a3⟩
      · omega
      · exact fin (i + 1) w _ _ _ (o + 1) ⟨Or.inl ⟨by have := (List.getElem?_eq_some_iff.mp g4).1; have := RWp_len.1; omega, g4⟩, hp, Or.inr ⟨rfl, a2, a3⟩⟩ _ _ rfl (by omega)
  · intro c1 _ _ c2 c3 c4 c5 c6 c7
    obtain ⟨i1, i2⟩ := hlt c1
    rw [hch] at c2 c7
    obtain ⟨l, hl, ⟨g1, _⟩ | ⟨_, g2, g3, g4⟩⟩ := RWp_at i1 i2
    · exact absurd g1 c2
    · rcases ha with ⟨a1, a2, a3, a4⟩ | ⟨a1, _⟩
      · refine fin (i + 1) w _ _ _ (o + 1) ⟨Or.inl ⟨by have := (List.getElem?_eq_some_iff.mp g4).1; have := RWp_len.1; omega, g4⟩, hp, Or.inl ⟨a1, by omega, by omega, fun l' hl' j hj => ?_⟩⟩ _ _ rfl (by omega)
        rw [hl] at hl'
        cases hl'
        by_cases ej : j = o
        · rw [ej, g3, ← c7, ← hx.at (q := s + o) (by omega), show m.toNat = s + o from by omega]
        · exact a4 l hl j (by omega)
      · exact absurd a1 c3
  · intro c1 _ _ c2 c3 c4 c5 c6 c7
    obtain ⟨i1, i2⟩ := hlt c1
    rw [hch] at c2 c7
    obtain ⟨l, hl, ⟨g1, _⟩ | ⟨_, g2, g3, g4⟩⟩ := RWp_at i1 i2
    · exact absurd g1 c2
    · rcases ha with ⟨a1, a2, a3, a4⟩ | ⟨a1, _⟩
      · refine fin (i + 1) w _ _ _ (o + 1) ⟨Or.inl ⟨by have := (List.getElem?_eq_some_iff.mp g4).1; have := RWp_len.1; omega, g4⟩, hp, Or.inr ⟨rfl, hm, fun l' hl' f => ?_⟩⟩ _ _ rfl (by omega)
        rw [hl] at hl'
        cases hl'
        have := f.2 o g2
        rw [g3, ← hx.at (q := s + o) (by omega), show s + o = m.toNat from by omega] at this
        exact c7 this
      · exact absurd a1 c3
  · intro c1 _ _ c2 c3 c4
    obtain ⟨i1, i2⟩ := hlt c1
    rw [hch] at c2
    obtain ⟨l, hl, ⟨g1, _⟩ | ⟨_, g2, g3, g4⟩⟩ := RWp_at i1 i2
    · exact absurd g1 c2
    · rcases ha with ⟨a1, a2, a3, a4⟩ | ⟨a1, _⟩
      · refine fin (i + 1) w _ _ _ (o + 1) ⟨Or.inl ⟨by have := (List.getElem?_eq_some_iff.mp g4).1; have := RWp_len.1; omega, g4⟩, hp, Or.inr ⟨rfl, hm, fun l' hl' f => ?_⟩⟩ _ _ rfl (by omega)
        rw [hl] at hl'
        cases hl'
        have := f.1
        omega
      · exact absurd a1 c3
  · intro c1
    rw [hz D] at c1
    refine ⟨rfl, -1, rfl, Or.inr ⟨rfl, fun l hl f => ?_⟩⟩
    obtain ⟨w', hw'⟩ := List.getElem?_of_mem hl
    have h1 := (List.getElem?_eq_some_iff.mp hw').1
    have h2 := RWp_len.2.2
    exact hp w' l (by omega) hw' f
/-! the class's rows of tokens, one by one -/
def VC (B : Nat → Int) (k : Int) (s e : Nat) (v : Int) : Prop := (k = 1 → RI B s e v) ∧ (k = 2 → v = nv B s (e - s)) ∧ (k = 3 → v = B s)
def Tc (t : Nat) (k : Int) (s e : Nat) (v : Int) (h : zH) : Prop := h 12 t = (0, k) ∧ h 13 t = (0, (s : Int)) ∧ h 14 t = (0, (e : Int)) ∧ h 15 t = (0, v)
def cF (t : Nat) (h0 h : zH) : Prop := ∀ a b, ¬ ((a = 12 ∨ a = 13 ∨ a = 14 ∨ a = 15) ∧ b = t) → h a b = h0 a b
theorem cF.rfl {t : Nat} {h : zH} : cF t h h := fun _ _ _ => Eq.refl _
theorem cF.z {t : Nat} {h0 h : zH} {r : Nat} {v : zV} (hr : r = 12 ∨ r = 13 ∨ r = 14 ∨ r = 15) (g : cF t h0 h) : cF t h0 (zset h r t v) := fun a b hn => (zset_ne (fun c => hn ⟨by omega, c.2⟩)).trans (g a b hn)
theorem cF.trans {t : Nat} {h0 h1 h2 : zH} (a : cF t h0 h1) (b : cF t h1 h2) : cF t h0 h2 := fun x y hn => (b x y hn).trans (a x y hn)
theorem TXc.f {B : Nat → Int} {n t : Nat} {h0 h : zH} (g : cF t h0 h) (hx : TXc B n h0) : TXc B n h := ⟨hx.1, fun q hq => (g 11 q (fun c => by omega)).trans (hx.2 q hq)⟩
def Wc (B : Nat → Int) (n t s : Nat) (h0 : zH) (r : zR) : Prop := r.2 = none ∧ ∃ e v, Rn iL B n s e ∧ RI B s e v ∧ Tc t 1 s e v r.1 ∧ cF t h0 r.1
theorem Wc_mk {B : Nat → Int} {n t s e : Nat} {v : Int} {h0 h : zH} (hR : Rn iL B n s e) (hI : RI B s e v) (hT : Tc t 1 s e v h) (hF : cF t h0 h) : Wc B n t s h0 (h, none) := ⟨rfl, e, v, hR, hI, hT, hF⟩
theorem c_wordE {D : zD} {T : zT} (hT : hTab T) (hO : vOK T) {N : Nat} {B : Nat → Int} {n t s e : Nat} {h : zH} (hx : TXc B n h) (h13 : h 13 t = (0, (s : Int))) (hse : s ≤ e) (hen : e ≤ n) (hR : Rn iL B n s e) : vP D T N 117 0 (zset (zset h 12 t (0, 1)) 14 t (0, (e : Int))) [some (2, 10), some (0, (s : Int)), some (0, (e : Int)), none, none, none, none, none] [] (fun r1 => vP D T N 120 60 r1.1 [some (2, 10), some (0, (t : Int)), some (0, (n : Int)), some (0, (e : Int))] (zpush r1.2 [(0, (t : Int)), (2, 15)]) (Wc B n t s h)) := by
  refine vP_Q (fun r hr => ?_) (c_res hT hO ((hx.z (by decide)).z (by decide)) hse hen)
  obtain ⟨h', v'⟩ := r
  obtain ⟨h1, v, h2, h3⟩ := hr
  have h1 : h' = _ := h1
  have h2 : v' = _ := h2
  subst h1
  subst h2
  show vP D T N 120 60 (zset (zset h 12 t (0, 1)) 14 t (0, (e : Int))) [some (2, 10), some (0, (t : Int)), some (0, (n : Int)), some (0, (e : Int))] [(0, v), (0, (t : Int)), (2, 15)] (Wc B n t s h)
  refine vP_hv (fun hv => q_word60 hT hO t n e v hv (fun _ _ => ?_))
  exact Wc_mk (e := e) (v := v) (hR) (h3) ⟨(zset_ne (fun c => absurd c.1 (by decide))).trans ((zset_ne (fun c => absurd c.1 (by decide))).trans zset_same), (zset_ne (fun c => absurd c.1 (by decide))).trans ((zset_ne (fun c => absurd c.1 (by decide))).trans ((zset_ne (fun c => absurd c.1 (by decide))).trans h13)), (zset_ne (fun c => absurd c.1 (by decide))).trans zset_same, zset_same⟩ (((cF.rfl.z (by decide)).z (by decide)).z (by decide))
theorem c_word {D : zD} {T : zT} (hT : hTab T) (hO : vOK T) {N : Nat} {B : Nat → Int} {n t s : Nat} {h : zH} (hx : TXc B n h) (h13 : h 13 t = (0, (s : Int))) (hs : s < n) : vP D T N 120 0 h [some (2, 10), some (0, (t : Int)), some (0, (n : Int)), none] [] (Wc B n t s h) := by
  have b9 := hx.1.1
  have e13 : (h 13 (t : Int).toNat).2 = (s : Int) := congrArg Prod.snd h13
  refine vP_hv (fun hv => q_word0 hT hO t n hv (fun _ _ => ?_))
  rw [e13]
  refine vP_loop (fun h' l => h' = h ∧ ∃ j : Nat, l = [some (2, 10), some (0, (t : Int)), some (0, (n : Int)), some (0, ((s + j : Nat) : Int))] ∧ ∀ q, s ≤ q → q < s + j → q < n ∧ iL (B q) ≠ 0) ?_ N _ _ ⟨rfl, 0, rfl, fun q h1 h2 => absurd h2 (by omega)⟩
  rintro N h' l ⟨rfl, j, rfl, hq⟩ ih
  have hjn := run_le (Nat.le_of_lt hs) hq
  have et : ((s + j : Nat) : Int).toNat = s + j := Int.toNat_natCast _
  refine vP_hv (fun hv => q_word7 hT hO t n ((s + j : Nat) : Int) hv ⟨by omega, by omega⟩ ?_ ?_ ?_)
  · intro c1 _ _ c2 _ _
    have c1 : s + j < n := by omega
    rw [et, hx.at c1] at c2
    rw [e13]
    exact c_wordE hT hO hx h13 (Nat.le_add_right _ _) hjn ⟨Nat.le_add_right _ _, hq, fun _ => c2⟩
  · intro c1 _ _ c2
    have c1 : s + j < n := by omega
    rw [et, hx.at c1] at c2
    refine ih _ _ ⟨rfl, j + 1, ?_, run_ext hq ⟨c1, c2⟩⟩
    rw [show ((s + j : Nat) : Int) + 1 = ((s + (j + 1) : Nat) : Int) from by omega]
  · intro c1 _ _
    rw [e13]
    exact c_wordE hT hO hx h13 (Nat.le_add_right _ _) hjn ⟨Nat.le_add_right _ _, hq, fun c => absurd c (by omega)⟩
def Nc (B : Nat → Int) (n t s : Nat) (h0 : zH) (r : zR) : Prop := r.2 = none ∧ ∃ e v, Rn iD B n s e ∧ (e ≤ s + 4 → v = nv B s (e - s)) ∧ Tc t (if e ≤ s + 4 then 2 else 4) s e v r.1 ∧ cF t h0 r.1
theorem Nc_mk {B : Nat → Int} {n t s e : Nat} {v : Int} {h0 h : zH} (hR : Rn iD B n s e) (hI : e ≤ s + 4 → v = nv B s (e - s)) (hT : Tc t (if e ≤ s + 4 then 2 else 4) s e v h) (hF : cF t h0 h) : Nc B n t s h0 (h, none) := ⟨rfl, e, v, hR, hI, hT, hF⟩
theorem c_num {D : zD} {T : zT} (hT : hTab T) (hO : vOK T) {N : Nat} {B : Nat → Int} {n t s : Nat} {h : zH} (hx : TXc B n h) (h13 : h 13 t = (0, (s : Int))) (hs : s < n) : vP D T N 118 0 h [some (2, 10), some (0, (t : Int)), some (0, (n : Int)), none, none] [] (Nc B n t s h) := by
  have b9 := hx.1.1
  have e13 : (h 13 (t : Int).toNat).2 = (s : Int) := congrArg Prod.snd h13
  refine vP_hv (fun hv => q_num0 hT hO t n hv (fun _ _ => ?_))
  rw [e13]
  refine vP_loop (fun h' l => h' = h ∧ ∃ (j : Nat) (v : Int), l = [some (2, 10), some (0, (t : Int)), some (0, (n : Int)), some (0, ((s + j : Nat) : Int)), some (0, v)] ∧ (j ≤ 4 → v = nv B s j) ∧ ∀ q, s ≤ q → q < s + j → q < n ∧ iD (B q) ≠ 0) ?_ N _ _ ⟨rfl, 0, 0, rfl, fun _ => rfl, fun q h1 h2 => absurd h2 (by omega)⟩
  rintro N h' l ⟨rfl, j, v, rfl, hv4, hq⟩ ih
  have hjn := run_le (Nat.le_of_lt hs) hq
  have et : ((s + j : Nat) : Int).toNat = s + j := Int.toNat_natCast _
  have big : ∀ hR : Rn iD B n s (s + j), (4 < ((s + j : Nat) : Int) - (s : Int)) → Nc B n t s h' (zset (zset (zset h' 12 t (0, 4)) 14 t (0, ((s + j : Nat) : Int))) 15 t (0, v), none) := fun hR c => Nc_mk (e := s + j) (v := v) (hR) (fun f => absurd f (by omega)) (by
    rw [if_neg (by omega)]
    exact ⟨(zset_ne (fun c => absurd c.1 (by decide))).trans ((zset_ne (fun c => absurd c.1 (by decide))).trans zset_same), (zset_ne (fun c => absurd c.1 (by decide))).trans ((zset_ne (fun c => absurd c.1 (by decide))).trans ((zset_ne (fun c => absurd c.1 (by decide))).trans h13)), (zset_ne (fun c => absurd c.1 (by decide))).trans zset_same, zset_same⟩) (((cF.rfl.z (by decide)).z (by decide)).z (by decide))
  have small : ∀ hR : Rn iD B n s (s + j), (((s + j : Nat) : Int) - (s : Int) ≤ 4) → Nc B n t s h' (zset (zset (zset h' 12 t (0, 2)) 14 t (0, ((s + j : Nat) : Int))) 15 t (0, v), none) := fun hR c => Nc_mk (e := s + j) (v := v) (hR) (fun _ => by rw [Nat.add_sub_cancel_left]; exact hv4 (by omega)) (by
    rw [if_pos (by omega)]
    exact ⟨(zset_ne (fun c => absurd c.1 (by decide))).trans ((zset_ne (fun c => absurd c.1 (by decide))).trans zset_same), (zset_ne (fun c => absurd c.1 (by decide))).trans ((zset_ne (fun c => absurd c.1 (by decide))).trans ((zset_ne (fun c => absurd c.1 (by decide))).trans h13)), (zset_ne (fun c => absurd c.1 (by decide))).trans zset_same, zset_same⟩) (((cF.rfl.z (by decide)).z (by decide)).z (by decide))
  refine vP_hv (fun hv => q_num10 hT hO t n ((s + j : Nat) : Int) v hv ⟨by rw [e13]; omega, by rw [e13]; omega⟩ ⟨by omega, by omega⟩ ?_ ?_ ?_ ?_ ?_)
  · intro c1 _ _ c2 _ _ c3
    have c1 : s + j < n := by omega
    rw [et, hx.at c1] at c2
    rw [e13] at c3
    exact big ⟨Nat.le_add_right _ _, hq, fun _ => c2⟩ c3
  · intro c1 _ _ c2 _ _ c3
    have c1 : s + j < n := by omega
    rw [et, hx.at c1] at c2
    rw [e13] at c3
    exact small ⟨Nat.le_add_right _ _, hq, fun _ => c2⟩ c3
  · intro c1 _ _ c2
    have c1 : s + j < n := by omega
    rw [et, hx.at c1] at c2 ⊢
    refine ih _ _ ⟨rfl, j + 1, _, by rw [show ((s + j : Nat) : Int) + 1 = ((s + (j + 1) : Nat) : Int) from by omega], fun hj => ?_, run_ext hq ⟨c1, c2⟩⟩
    have e4 := hv4 (by omega)
    have d := iD_ne c2
    have nb := nv_bd (B := B) (s := s) (l := j) (fun q h1 h2 => iD_ne (hq q h1 h2).2)
    have np := p10_le j (by omega)
    rw [e4]
    have e7 : v32 1 (B (s + j)) 48 = B (s + j) - 48 := hq_sub (by omega) (by omega)
    rw [e7]
    have e5 : v32 2 (nv B s j) 10 = nv B s j * 10 := hq_mul (by omega) (by omega)
    rw [e5]
    have e6 : v32 0 (nv B s j * 10) (B (s + j) - 48) = nv B s j * 10 + (B (s + j) - 48) := hq_add (by omega) (by omega)
    rw [e6]
    show nv B s j * 10 + (B (s + j) - 48) = 10 * nv B s j + (B (s + j) - 48)
    omega
  · intro c1 _ _ c3
    rw [e13] at c3
    exact big ⟨Nat.le_add_right _ _, hq, fun c => absurd c (by omega)⟩ c3
  · intro c1 _ _ c3
    rw [e13] at c3
    exact small ⟨Nat.le_add_right _ _, hq, fun c => absurd c (by omega)⟩ c3
/-! one token; then all -/
def Sc (B : Nat → Int) (n p t : Nat) (h0 : zH) (r : zR) : Prop := r.2 = none ∧ ∃ k s e v, Tk B n p k s e ∧ VC B k s e v ∧ Tc t k s e v r.1 ∧ cF t h0 r.1
theorem Sc_mk {B : Nat → Int} {n p t : Nat} {k : Int} {s e : Nat} {v : Int} {h0 h : zH} (hK : Tk B n p k s e) (hI : VC B k s e v) (hT : Tc t k s e v h) (hF : cF t h0 h) : Sc B n p t h0 (h, none) := ⟨rfl, k, s, e, v, hK, hI, hT, hF⟩
theorem c_scan {D : zD} {T : zT} (hT : hTab T) (hO : vOK T) {N : Nat} {B : Nat → Int} {n t p : Nat} {h : zH} (hx : TXc B n h) (hp : p ≤ n) : vP D T N 119 0 h [some (2, 10), some (0, (t : Int)), some (0, (p : Int)), some (0, (n : Int)), none] [] (Sc B n p t h) := by
  have b9 := hx.1.1
  refine vP_hv (fun hv => q_scan0 hT hO t p n hv ?_)
  refine vP_loop (fun h' l => h' = h ∧ ∃ s : Nat, l = [some (2, 10), some (0, (t : Int)), some (0, (p : Int)), some (0, (n : Int)), some (0, (s : Int))] ∧ p ≤ s ∧ s ≤ n ∧ ∀ q, p ≤ q → q < s → q < n ∧ iB (B q) ≠ 0) ?_ N _ _ ⟨rfl, p, rfl, Nat.le_refl _, hp, fun q h1 h2 => absurd h2 (by omega)⟩
  rintro N h' l ⟨rfl, s, rfl, hps, hsn, hq⟩ ih
  have es : ((s : Nat) : Int).toNat = s := Int.toNat_natCast _
  have h13 : zset (zset (zset h' 13 t (0, (s : Int))) 14 t (0, (s : Int))) 15 t (0, -1) 13 t = (0, (s : Int)) := (zset_ne (fun c => absurd c.1 (by decide))).trans ((zset_ne (fun c => absurd c.1 (by decide))).trans zset_same)
  have hx3 : TXc B n (zset (zset (zset h' 13 t (0, (s : Int))) 14 t (0, (s : Int))) 15 t (0, -1)) := ((hx.z (by decide)).z (by decide)).z (by decide)
  have hf3 : cF t h' (zset (zset (zset h' 13 t (0, (s : Int))) 14 t (0, (s : Int))) 15 t (0, -1)) := ((cF.rfl.z (by decide)).z (by decide)).z (by decide)
  refine vP_hv (fun hv => q_scan3 hT hO t p n s hv ⟨by omega, by omega⟩ ?_ ?_ ?_ ?_ ?_ ?_)
  · intro c1 _ _ c2 _ _ c3 c4 c5
    have c1 : s < n := by omega
    rw [es, hx.at c1] at c2 c3 c4 c5 ⊢
    refine Sc_mk (k := 4) (s := s) (e := s + 1) (v := B s) ⟨⟨hps, hq, fun _ => c2⟩, Or.inr ⟨c1, Or.inr (Or.inr ⟨c3, c4, (if_neg (fun f => f c5)).symm, rfl⟩)⟩⟩ ⟨fun c => absurd c (by decide), fun c => absurd c (by decide), fun c => absurd c (by decide)⟩ ⟨?_, ?_, ?_, ?_⟩ (((hf3.z (by decide)).z (by decide)).z (by decide))
    · exact (zset_ne (fun c => absurd c.1 (by decide))).trans ((zset_ne (fun c => absurd c.1 (by decide))).trans zset_same)
    · exact (zset_ne (fun c => absurd c.1 (by decide))).trans ((zset_ne (fun c => absurd c.1 (by decide))).trans ((zset_ne (fun c => absurd c.1 (by decide))).trans h13))
    · exact zset_same
    · exact (zset_ne (fun c => absurd c.1 (by decide))).trans zset_same
  · intro c1 _ _ c2 _ _ c3 c4 c5
    have c1 : s < n := by omega
    rw [es, hx.at c1] at c2 c3 c4 c5 ⊢
    refine Sc_mk (k := 3) (s := s) (e := s + 1) (v := B s) ⟨⟨hps, hq, fun _ => c2⟩, Or.inr ⟨c1, Or.inr (Or.inr ⟨c3, c4, (if_pos c5).symm, rfl⟩)⟩⟩ ⟨fun c => absurd c (by decide), fun c => absurd c (by decide), fun _ => rfl⟩ ⟨?_, ?_, ?_, ?_⟩ (((hf3.z (by decide)).z (by decide)).z (by decide))
    · exact (zset_ne (fun c => absurd c.1 (by decide))).trans ((zset_ne (fun c => absurd c.1 (by decide))).trans zset_same)
    · exact (zset_ne (fun c => absurd c.1 (by decide))).trans ((zset_ne (fun c => absurd c.1 (by decide))).trans ((zset_ne (fun c => absurd c.1 (by decide))).trans h13))
    · exact zset_same
    · exact (zset_ne (fun c => absurd c.1 (by decide))).trans zset_same
  · intro c1 _ _ c2 _ _ c3 c4
    have c1 : s < n := by omega
    rw [es, hx.at c1] at c2 c3 c4
    refine vP_Q (fun r hr => ?_) (c_num hT hO hx3 h13 c1)
    obtain ⟨h1, v1⟩ := r
    obtain ⟨g1, e, v, g2, g3, g4, g5⟩ := hr
    have g1 : v1 = none := g1
    subst g1
    refine vP_hv (fun hv => q_scan108 hT hO t p n s hv ?_)
    refine Sc_mk (k := (if e ≤ s + 4 then 2 else 4)) (s := s) (e := e) (v := v) ⟨⟨hps, hq, fun _ => c2⟩, Or.inr ⟨c1, Or.inr (Or.inl ⟨c3, c4, rfl, g2⟩)⟩⟩ ⟨fun c => ?_, fun c => ?_, fun c => ?_⟩ (g4) (hf3.trans g5)
    · by_cases f : e ≤ s + 4
      · rw [if_pos f] at c; exact absurd c (by decide)
      · rw [if_neg f] at c; exact absurd c (by decide)
    · by_cases f : e ≤ s + 4
      · exact g3 f
      · rw [if_neg f] at c; exact absurd c (by decide)
    · by_cases f : e ≤ s + 4
      · rw [if_pos f] at c; exact absurd c (by decide)
      · rw [if_neg f] at c; exact absurd c (by decide)
  · intro c1 _ _ c2 _ _ c3
    have c1 : s < n := by omega
    rw [es, hx.at c1] at c2 c3
    refine vP_Q (fun r hr => ?_) (c_word hT hO hx3 h13 c1)
    obtain ⟨h1, v1⟩ := r
    obtain ⟨g1, e, v, g2, g3, g4, g5⟩ := hr
    have g1 : v1 = none := g1
    subst g1
    refine vP_hv (fun hv => q_scan86 hT hO t p n s hv ?_)
    exact Sc_mk (k := 1) (s := s) (e := e) (v := v) ⟨⟨hps, hq, fun _ => c2⟩, Or.inr ⟨c1, Or.inl ⟨c3, rfl, g2⟩⟩⟩ ⟨fun _ => g3, fun c => absurd c (by decide), fun c => absurd c (by decide)⟩ (g4) (hf3.trans g5)
  · intro c1 _ _ c2
    have c1 : s < n := by omega
    rw [es, hx.at c1] at c2
    refine ih _ _ ⟨rfl, s + 1, ?_, by omega, by omega, fun q h1 h2 => ?_⟩
    · rw [show ((s : Nat) : Int) + 1 = ((s + 1 : Nat) : Int) from by omega]
    · rcases Nat.lt_or_ge q s with g | g
      · exact hq q h1 g
      · have e : q = s := by omega
        rw [e]
        exact ⟨c1, c2⟩
  · intro c1 _ _
    have c1 : n ≤ s := by omega
    refine Sc_mk (k := 0) (s := s) (e := s) (v := -1) ⟨⟨hps, hq, fun c => absurd c (by omega)⟩, Or.inl ⟨c1, rfl, rfl⟩⟩ ⟨fun c => absurd c (by decide), fun c => absurd c (by decide), fun c => absurd c (by decide)⟩ ⟨zset_same, ?_, ?_, ?_⟩ (hf3.z (by decide))
    · exact (zset_ne (fun c => absurd c.1 (by decide))).trans h13
    · exact (zset_ne (fun c => absurd c.1 (by decide))).trans ((zset_ne (fun c => absurd c.1 (by decide))).trans zset_same)
    · exact (zset_ne (fun c => absurd c.1 (by decide))).trans zset_same
/-- the tokens of a text, by their number -/
def TS (B : Nat → Int) (n : Nat) : Nat → Int → Nat → Nat → Prop
  | 0, k, s, e => Tk B n 0 k s e
  | j + 1, k, s, e => ∃ k' s' e', TS B n j k' s' e' ∧ k' ≠ 0 ∧ k' ≠ 4 ∧ Tk B n e' k s e
theorem TS.uniq {B : Nat → Int} {n : Nat} : ∀ {j : Nat} {k k' : Int} {s s' e e' : Nat}, TS B n j k s e → TS B n j k' s' e' → k = k' ∧ s = s' ∧ e = e'
  | 0, _, _, _, _, _, _, a, b => Tk.uniq a b
  | j + 1, _, _, _, _, _, _, ⟨_, _, _, a1, _, _, a2⟩, ⟨_, _, _, b1, _, _, b2⟩ => by
    obtain ⟨_, _, h⟩ := TS.uniq a1 b1
    rw [h] at a2
    exact Tk.uniq a2 b2
theorem TS.bd {B : Nat → Int} {n : Nat} : ∀ {j : Nat} {k : Int} {s e : Nat}, TS B n j k s e → j ≤ s ∧ s ≤ n ∧ s ≤ e ∧ e ≤ n ∧ (k ≠ 0 → j < e)
  | 0, _, _, _, a => by
    obtain ⟨h1, h2, h3, h4, h5⟩ := a.se (Nat.zero_le _)
    exact ⟨h1, h2, h3, h4, fun c => by have := h5 c; omega⟩
  | j + 1, _, _, _, ⟨_, _, _, a1, a2, _, a3⟩ => by
    obtain ⟨_, _, _, g4, g5⟩ := TS.bd a1
    have g5 := g5 a2
    obtain ⟨h1, h2, h3, h4, h5⟩ := a3.se g4
    exact ⟨by omega, h2, h3, h4, fun c => by have := h5 c; omega⟩
def Rw (B : Nat → Int) (n j : Nat) (h : zH) : Prop := ∃ k s e v, TS B n j k s e ∧ VC B k s e v ∧ Tc j k s e v h
/-- what beginText leaves: the tokens up to the last, which is the end or none -/
def Txt (B : Nat → Int) (n m : Nat) (h : zH) : Prop := m ≤ 900 ∧ (∀ j, j ≤ m → Rw B n j h) ∧ ((h 12 m).2 = 0 ∨ (h 12 m).2 = 4)
def bF (h0 h : zH) : Prop := ∀ a b, ¬ (a = 12 ∨ a = 13 ∨ a = 14 ∨ a = 15 ∨ (a = 10 ∧ 6 ≤ b ∧ b ≤ 8)) → h a b = h0 a b
theorem Rw.f {B : Nat → Int} {n j t : Nat} {h0 h : zH} (g : cF t h0 h) (hj : j ≠ t) (a : Rw B n j h0) : Rw B n j h := by
  obtain ⟨k, s, e, v, a1, a2, a3, a4, a5, a6⟩ := a
  exact ⟨k, s, e, v, a1, a2, (g 12 j (fun c => hj c.2)).trans a3, (g 13 j (fun c => hj c.2)).trans a4, (g 14 j (fun c => hj c.2)).trans a5, (g 15 j (fun c => hj c.2)).trans a6⟩
def Bg (B : Nat → Int) (n : Nat) (h0 : zH) (r : zR) : Prop := r.2 = none ∧ ∃ m, Txt B n m r.1 ∧ bF h0 r.1 ∧ r.1 10 6 = (0, 0) ∧ r.1 10 7 = (0, 0) ∧ r.1 10 8 = (0, -1)
theorem c_begin {D : zD} {T : zT} (hT : hTab T) (hO : vOK T) {N : Nat} {B : Nat → Int} {n : Nat} {h : zH} (hx : TXc B n h) (hn : (n : Int) ≤ (h 10 1).2) : vP D T N 102 0 h [some (2, 10), some (0, (n : Int)), none, none, none] [] (Bg B n h) := by
  have b9 := hx.1.1
  refine vP_hv (fun hv => q_beg0 hT hO n hv ?_)
  have en : (if 0 < (if (h 10 1).2 < (n : Int) then (h 10 1).2 else (n : Int)) then (if (h 10 1).2 < (n : Int) then (h 10 1).2 else (n : Int)) else 0) = (n : Int) := by
    have e1 : (if (h 10 1).2 < (n : Int) then (h 10 1).2 else (n : Int)) = (n : Int) := if_neg (by omega)
    rw [e1]
    by_cases c : 0 < (n : Int)
    · exact if_pos c
    · rw [if_neg c]; omega
  rw [en]
  refine vP_loop (fun h' l => ∃ t p : Nat, l = [some (2, 10), some (0, (n : Int)), some (0, (n : Int)), some (0, (p : Int)), some (0, (t : Int))] ∧ TXc B n h' ∧ bF h h' ∧ h' 10 6 = (0, 0) ∧ h' 10 7 = (0, 0) ∧ h' 10 8 = (0, -1) ∧ (∀ j, j < t → Rw B n j h') ∧ p ≤ n ∧ ((t = 0 ∧ p = 0) ∨ ∃ k s, TS B n (t - 1) k s p ∧ k ≠ 0 ∧ k ≠ 4 ∧ 1 ≤ t)) ?_ N _ _ ⟨0, 0, rfl, ((hx.z (by decide)).z (by decide)).z (by decide), fun a b hn => (zset_ne (fun c => by omega)).trans ((zset_ne (fun c => by omega)).trans (zset_ne (fun c => by omega))), (zset_ne (by decide)).trans ((zset_ne (by decide)).trans zset_same), (zset_ne (by decide)).trans zset_same, zset_same, fun j hj => absurd hj (by omega), Nat.zero_le _, Or.inl ⟨rfl, rfl⟩⟩
  rintro N h' l ⟨t, p, rfl, hx', hf, h6, h7, h8, hr, hp, hl⟩ ih
  have ht9 : t ≤ 900 := by
    rcases hl with ⟨e, _⟩ | ⟨k, s, g1, g2, _, g4⟩
    · omega
    · have := g1.bd
      have := this.2.2.2.2 g2
      omega
  refine vP_hv (fun hv => q_beg33 hT hO n n p t hv (fun c => absurd c (by omega)) (fun _ => ?_))
  refine vP_Q (fun r hr' => ?_) (c_scan hT hO hx' hp)
  obtain ⟨h1, v1⟩ := r
  obtain ⟨g1, k, s, e, v, g2, g3, g4, g5⟩ := hr'
  have g1 : v1 = none := g1
  subst g1
  have g4 : Tc t k s e v h1 := g4
  have g5 : cF t h' h1 := g5
  have hts : TS B n t k s e := by
    rcases hl with ⟨e1, e2⟩ | ⟨k', s', f1, f2, f3, f4⟩
    · rw [e2] at g2
      rw [e1]
      exact g2
    · obtain ⟨t', rfl⟩ : ∃ t', t = t' + 1 := ⟨t - 1, by omega⟩
      exact ⟨k', s', p, f1, f2, f3, g2⟩
  have hbf : bF h h1 := fun a b hn => (g5 a b (fun c => hn (by omega))).trans (hf a b hn)
  have hrw : ∀ j, j ≤ t → Rw B n j h1 := fun j hj => by
    by_cases e1 : j = t
    · rw [e1]
      exact ⟨k, s, e, v, hts, g3, g4⟩
    · exact (hr j (by omega)).f g5 e1
  have h6' : h1 10 6 = (0, 0) := (g5 10 6 (fun c => by omega)).trans h6
  have h7' : h1 10 7 = (0, 0) := (g5 10 7 (fun c => by omega)).trans h7
  have h8' : h1 10 8 = (0, -1) := (g5 10 8 (fun c => by omega)).trans h8
  have ek : (h1 12 (t : Int).toNat).2 = k := congrArg Prod.snd g4.1
  have ee : (h1 14 (t : Int).toNat).2 = (e : Int) := congrArg Prod.snd g4.2.2.1
  refine vP_hv (fun hv => q_beg49 hT hO n n p t hv ⟨by omega, by omega⟩ ?_ ?_ ?_)
  · intro _ _ c
    exact ⟨rfl, t, ⟨ht9, hrw, Or.inl c⟩, hbf, h6', h7', h8'⟩
  · intro _ _ _ c
    exact ⟨rfl, t, ⟨ht9, hrw, Or.inr c⟩, hbf, h6', h7', h8'⟩
  · intro _ _ c1 c2
    rw [ek] at c1 c2
    rw [ee]
    refine ih _ _ ⟨t + 1, e, by rw [show ((t : Nat) : Int) + 1 = ((t + 1 : Nat) : Int) from by omega], hx'.f g5, hbf, h6', h7', h8', fun j hj => hrw j (by omega), hts.bd.2.2.2.1, Or.inr ⟨k, s, hts, c1, c2, by omega⟩⟩
