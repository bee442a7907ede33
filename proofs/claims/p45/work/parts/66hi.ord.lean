/-! WHAT ORDERS SAY: so many STEPS, so deep; P: the LAND (wide, rows, copies, its companies' names) -/
def pCm (τ : PT) (i : Nat) : Er ⊕ (Int × Nat) := if τ 0 i = 3 ∧ iC (τ 3 i) ≠ 0 then .inr (τ 3 i, i + 1) else .inl (eF τ i 2)
def pNm (τ P : PT) (i : Nat) : Er ⊕ (Int × Nat) := if bN τ i ≠ 0 then (if pIx (P 4) (τ 4 i) (P 0 3).toNat 0 ≠ -1 then .inr (pIx (P 4) (τ 4 i) (P 0 3).toNat 0, i + 1) else .inl (eF τ i 3)) else .inl (eF τ i 2)
def oArg (τ P : PT) (w : Int) (i : Nat) : Er ⊕ Nat := if w = 8 ∨ w = 10 ∨ w = 16 then eb (pNum τ 0 (P 0 2 - 1) i) fun a => eb (pWord τ 6 a.2) fun j => eb (pCell τ (P 0 0) (P 0 1) j) fun c => .inr c.2.2
  else if w = 9 then eb (pNum τ 0 (P 0 2 - 1) i) fun a => .inr a.2
  else if w = 11 then eb (pNum τ 0 (P 0 2 - 1) i) fun a => eb (pWord τ 7 a.2) fun j => eb (pNum τ 0 (P 0 2 - 1) j) fun b => .inr b.2
  else if w = 12 then eb (pNum τ 0 (P 0 2 - 1) i) fun a => eb (pWord τ 3 a.2) fun j => eb (pNum τ 0 12 j) fun b => .inr b.2
  else if w = 13 ∨ w = 17 then eb (pNm τ P i) fun a => .inr a.2
  else if w = 19 then eb (pNum τ 1 99 i) fun a => .inr a.2
  else if w = 18 then eb (pCm τ i) fun a => eb (pNum τ 0 9999 a.2) fun b => .inr b.2
  else .inr i
def opW (w : Int) : Bool := decide (w = 15 ∨ w = 19)
theorem opW15 : opW 15 = true := by decide
def pStep (τ P : PT) (s d i : Nat) : Er ⊕ (Nat × Nat × Nat) :=
  if bW τ 20 i ≠ 0 then (if d = 0 then .inl (eF τ i 2) else eb (pSg τ 59 (i + 1)) fun j => .inr (s, d - 1, j))
  else if swd τ i < 0 then .inl (eF τ i 2)
  else if 30 ≤ s then .inl (eF τ i 6)
  else if opW (τ 3 i) = true ∧ 3 ≤ d then .inl (eF τ i 7)
  else eb (if τ 3 i = 15 then (if twd τ (i + 1) < 0 then .inl (eF τ (i + 1) 2) else oArg τ P (τ 3 (i + 1)) (i + 1 + 1)) else oArg τ P (τ 3 i) (i + 1)) fun j => eb (pSg τ 59 j) fun k => .inr (s + 1, if opW (τ 3 i) = true then d + 1 else d, k)
def pOrd (τ P : PT) : Nat → Nat → Nat → Nat → Er ⊕ Nat
  | 0, s, _, _ => .inr s
  | f + 1, s, d, i => if τ 0 i = 0 then (if d = 0 then .inr s else .inl (eF τ i 2)) else eb (pStep τ P s d i) fun a => pOrd τ P f a.1 a.2.1 a.2.2
/-- a word's index, as the reference counts it -/
theorem swd_v {τ : PT} {i : Nat} (h : τ 0 i = 1) : swd τ i = if τ 3 i = 8 then 0 else if τ 3 i = 9 then 1 else if τ 3 i = 10 then 2 else if τ 3 i = 11 then 3 else if τ 3 i = 12 then 4 else if τ 3 i = 13 then 5 else if τ 3 i = 14 then 6 else if τ 3 i = 15 then 7 else if τ 3 i = 19 then 8 else if τ 3 i = 21 then 9 else -1 := by
  unfold swd
  simp only [bW_y, h, true_and]
theorem twd_v {τ : PT} {i : Nat} (h : τ 0 i = 1) : twd τ i = if τ 3 i = 16 then 0 else if τ 3 i = 17 then 1 else if τ 3 i = 18 then 2 else -1 := by
  unfold twd
  simp only [bW_y, h, true_and]
/-! the class's orders under way: size, STEPS, depth -/
def cOo (s d : Nat) (h : zH) : Prop := h 18 1 = (0, (s : Int)) ∧ h 17 4 = (0, (d : Int)) ∧ s ≤ 30 ∧ d ≤ 3 ∧ h 18 0 = (0, (h 18 0).2) ∧ 0 ≤ (h 18 0).2 ∧ (h 18 0).2 + d ≤ 2 * s ∧ ∀ e : Nat, e < d → 0 ≤ (h 23 e).2 ∧ (h 23 e).2 < (h 18 0).2
/-! ORDERS: small things -/
theorem cP.tf {r : Nat} {P : PT} {h h' : zH} (g : cP r P h) (f : tF h h') (hr : 16 < r := by decide) : cP r P h' := g.eq (fun a b h1 h2 => f a b (fun c => by omega))
theorem cP.z {r a b : Nat} {P : PT} {h : zH} {v : zV} (ha : a < r ∨ r + 9 < a) (g : cP r P h) : cP r P (zset h a b v) := g.eq (fun x y h1 h2 => zset_ne (fun c => by omega))
theorem o23_t {h h' : zH} {t : Nat → zV} (f : tF h h') (k : ∀ e, h 23 e = t e) : ∀ e, h' 23 e = t e := fun e => (f 23 e (fun c => by omega)).trans (k e)
theorem o23_n {h h0 : zH} {r k : Nat} {v : zV} (hr : r ≠ 23) (g : ∀ e, h 23 e = h0 23 e) : ∀ e, zset h r k v 23 e = h0 23 e := fun e => (zset_ne (fun c => hr c.1.symm)).trans (g e)
theorem o23_z {h h0 : zH} {k : Nat} {v : zV} (g : ∀ e, h 23 e = h0 23 e) : ∀ e, zset h 23 k v 23 e = zset h0 23 k v 23 e := fun e => by
  by_cases c : e = k
  · rw [c, zset_same, zset_same]
  · rw [zset_ne (fun f => c f.2), zset_ne (fun f => c f.2)]
    exact g e
theorem ob_same {h g : zH} {d d' : Nat} {z z' : Int} (k : ∀ e, g 23 e = h 23 e) (ho : ∀ e : Nat, e < d → 0 ≤ (h 23 e).2 ∧ (h 23 e).2 < z) (hd : d' ≤ d) (hz : z ≤ z') : ∀ e : Nat, e < d' → 0 ≤ (g 23 e).2 ∧ (g 23 e).2 < z' := fun e he => by
  rw [k e]
  have := ho e (by omega)
  omega
theorem ob_open {h g : zH} {d : Nat} {z z' : Int} (k : ∀ e, g 23 e = zset h 23 ((d : Int)).toNat (0, z) 23 e) (ho : ∀ e : Nat, e < d → 0 ≤ (h 23 e).2 ∧ (h 23 e).2 < z) (bz : 0 ≤ z) (hz : z < z') : ∀ e : Nat, e < d + 1 → 0 ≤ (g 23 e).2 ∧ (g 23 e).2 < z' := fun e he => by
  rw [k e]
  by_cases c : e = d
  · rw [show ((d : Int)).toNat = e from by omega, zset_same]
    exact ⟨bz, hz⟩
  · rw [zset_ne (fun f => c (by omega))]
    have := ho e (by omega)
    omega
def oFr (h0 h : zH) : Prop := ∀ a b, ¬ ((a = 10 ∧ 6 ≤ b ∧ b ≤ 8) ∨ (a = 17 ∧ b = 4) ∨ (18 ≤ a ∧ a ≤ 23)) → h a b = h0 a b
theorem oFr.rfl {h : zH} : oFr h h := fun _ _ _ => Eq.refl _
theorem oFr.t {h0 h h' : zH} (g : oFr h0 h) (f : tF h h') : oFr h0 h' := fun a b hn => (f a b (fun c => hn (Or.inl c))).trans (g a b hn)
theorem oFr.z {a b : Nat} {v : zV} {h0 h : zH} (ha : (a = 17 ∧ b = 4) ∨ (18 ≤ a ∧ a ≤ 23)) (g : oFr h0 h) : oFr h0 (zset h a b v) := fun x y hn => (zset_ne (fun c => hn (by omega))).trans (g x y hn)
theorem oFr.trans {h0 h h' : zH} (g : oFr h0 h) (f : oFr h h') : oFr h0 h' := fun a b hn => (f a b hn).trans (g a b hn)
theorem bEn_n {τ : PT} {i : Nat} (h : τ 0 i ≠ 0) : bEn τ i = 0 := by
  unfold bEn
  exact if_neg h
theorem cx_wordK {D : zD} {T : zT} {N : Nat} {h : zH} {Q : zR → Prop} {B : Nat → Int} {n m i : Nat} {τ : PT} (hT : hTab T) (hO : vOK T) (K : Int) (hX : cX B n m τ i h) (h1 : τ 0 i = 1) (h3 : τ 3 i = K) (k : Q (h, some (0, K))) : vP D T N 126 0 h [some (2, 10)] [] Q := cx_wordHere hT hO hX (by
  unfold bHw
  rw [if_pos h1, h3]
  exact k)
theorem iC_b {x : Int} (h : iC x ≠ 0) : x = 60 ∨ x = 62 ∨ x = 61 := by
  unfold iC at h
  by_cases c : x = 60 ∨ x = 62 ∨ x = 61
  · exact c
  · rw [if_neg c] at h; exact absurd rfl h
theorem cx_cmp {D : zD} {T : zT} {N : Nat} {h : zH} {Q : zR → Prop} {B : Nat → Int} {n m i : Nat} {τ : PT} (hT : hTab T) (hO : vOK T) (hX : cX B n m τ i h) (k1 : ∀ g x, tF h g → pCm τ i = .inr (x, i + 1) → 0 ≤ x → cX B n m τ (i + 1) g → Q (g, some (0, x))) (k2 : ∀ g e, tF h g → pCm τ i = .inl e → cB e g → Q (g, some (0, -1))) : vP D T N 122 0 h [some (2, 10), none] [] Q := by
  have a2 := hX.im
  refine vP_hv (fun hv => qx_cmp hT hO hv hX (fun c d => ?_) (fun c d _ => ?_) (fun c d e => ?_) (fun c d => ?_) (fun c d => ?_))
  · exact k2 _ _ tF_b (if_neg (fun f => f.2 d)) (cB_f2 (by omega))
  · have := iC_b d
    exact k1 _ _ tF_a (if_pos ⟨c, d⟩) (by omega) (hX.next (by omega) (by omega))
  · have a1 := hX.lst (by omega) (by omega)
    omega
  · exact k2 _ _ tF_b (if_neg (fun f => c f.1)) (cB_f1 d)
  · exact k2 _ _ tF_b (if_neg (fun f => c f.1)) (cB_f2 d)
/-! the reference -/
theorem rx_stepK {D : zD} {T : zT} {N : Nat} {h : zH} {Q : zR → Prop} {B : Nat → Int} {n m i : Nat} {τ : PT} {K : Int} (hT : hTab T) (hO : vOK T) (v : Int) (hX : rX B n m τ i h) (h1 : τ 0 i = 1) (h3 : τ 3 i = K) (hv : (if K = 8 then (0 : Int) else if K = 9 then 1 else if K = 10 then 2 else if K = 11 then 3 else if K = 12 then 4 else if K = 13 then 5 else if K = 14 then 6 else if K = 15 then 7 else if K = 19 then 8 else if K = 21 then 9 else -1) = v) (k : Q (h, some (0, v))) : vP D T N 318 0 h [some (2, 121)] [] Q := rx_stepWord hT hO hX (by
  rw [swd_v h1, h3, hv]
  exact k)
theorem rx_testK {D : zD} {T : zT} {N : Nat} {h : zH} {Q : zR → Prop} {B : Nat → Int} {n m i : Nat} {τ : PT} {K : Int} (hT : hTab T) (hO : vOK T) (v : Int) (hX : rX B n m τ i h) (h1 : τ 0 i = 1) (h3 : τ 3 i = K) (hv : (if K = 16 then (0 : Int) else if K = 17 then 1 else if K = 18 then 2 else -1) = v) (k : Q (h, some (0, v))) : vP D T N 325 0 h [some (2, 121)] [] Q := rx_testWord hT hO hX (by
  rw [twd_v h1, h3, hv]
  exact k)
theorem pCm_y {τ : PT} {i : Nat} {x : Int} (hx : iC x ≠ 0) (h : bG τ x i ≠ 0) : pCm τ i = .inr (τ 3 i, i + 1) := by
  obtain ⟨a, b⟩ := bG_y.mp h
  exact if_pos ⟨a, by rw [b]; exact hx⟩
theorem bG_0 {τ : PT} {w : Int} {i : Nat} : bG τ w i = 0 ↔ ¬ (τ 0 i = 3 ∧ τ 3 i = w) := by
  unfold bG
  by_cases c : τ 0 i = 3 ∧ τ 3 i = w
  · rw [if_pos c]; exact ⟨fun f => absurd f (by decide), fun f => absurd c f⟩
  · rw [if_neg c]; exact ⟨fun _ => c, fun _ => rfl⟩
theorem pCm_n {τ : PT} {i : Nat} (h0 : bG τ 60 i = 0) (h2 : bG τ 62 i = 0) (h1 : bG τ 61 i = 0) : pCm τ i = .inl (eF τ i 2) := by
  have a := bG_0.mp h0
  have b := bG_0.mp h1
  have c := bG_0.mp h2
  refine if_neg (fun f => ?_)
  have d := iC_b f.2
  have e := f.1
  omega
def rNm (P : PT) (h : zH) : Prop := ∀ k : Nat, (k : Int) < P 0 3 → h 128 k = (1, P 4 k)
theorem rNm.qf {P : PT} {h h' : zH} (g : rNm P h) (f : qF h h') : rNm P h' := fun k hk => (f 128 k (fun c => by omega)).trans (g k hk)
theorem rNm.z {P : PT} {h : zH} {a b : Nat} {v : zV} (ha : a ≠ 128) (g : rNm P h) : rNm P (zset h a b v) := fun k hk => (zset_ne (fun c => ha c.1.symm)).trans (g k hk)
def roF (h0 h : zH) : Prop := ∀ a b, ¬ ((a = 121 ∧ ((12 ≤ b ∧ b ≤ 19) ∨ b = 25)) ∨ (a = 126 ∧ 2477 ≤ b)) → h a b = h0 a b
theorem roF.rfl {h : zH} : roF h h := fun _ _ _ => Eq.refl _
theorem roF.t {h0 h h' : zH} (g : roF h0 h) (f : qF h h') : roF h0 h' := fun a b hn => (f a b (fun c => hn (by omega))).trans (g a b hn)
theorem roF.z {a b : Nat} {v : zV} {h0 h : zH} (ha : (a = 121 ∧ b = 25) ∨ (a = 126 ∧ 2477 ≤ b)) (g : roF h0 h) : roF h0 (zset h a b v) := fun x y hn => (zset_ne (fun c => hn (by omega))).trans (g x y hn)
theorem roF.trans {h0 h h' : zH} (g : roF h0 h) (f : roF h h') : roF h0 h' := fun a b hn => (f a b hn).trans (g a b hn)
theorem roF.qf {h h' : zH} (f : qF h h') : roF h h' := fun a b hn => f a b (fun c => hn (by omega))
theorem pNm_i {τ P : PT} {i : Nat} {a : Int × Nat} (h : pNm τ P i = .inr a) : a.2 = i + 1 := by
  unfold pNm at h
  by_cases c : bN τ i ≠ 0
  · rw [if_pos c] at h
    by_cases d : pIx (P 4) (τ 4 i) (P 0 3).toNat 0 ≠ -1
    · rw [if_pos d] at h; cases h; rfl
    · rw [if_neg d] at h; cases h
  · rw [if_neg c] at h; cases h
theorem pCm_i {τ : PT} {i : Nat} {a : Int × Nat} (h : pCm τ i = .inr a) : a.2 = i + 1 := by
  unfold pCm at h
  by_cases c : τ 0 i = 3 ∧ iC (τ 3 i) ≠ 0
  · rw [if_pos c] at h; cases h; rfl
  · rw [if_neg c] at h; cases h
theorem oArg_i {τ P : PT} {w : Int} {i j : Nat} (h : oArg τ P w i = .inr j) : i ≤ j := by
  unfold oArg at h
  by_cases c1 : w = 8 ∨ w = 10 ∨ w = 16
  · rw [if_pos c1] at h
    obtain ⟨a, h1, h⟩ := eb_i h
    obtain ⟨b, h2, h⟩ := eb_i h
    obtain ⟨c, h3, h⟩ := eb_i h
    cases h
    have e1 := pNum_j h1
    have e2 := pWord_i h2
    have e3 := pCell_i h3
    omega
  · rw [if_neg c1] at h
    by_cases c2 : w = 9
    · rw [if_pos c2] at h
      obtain ⟨a, h1, h⟩ := eb_i h
      cases h
      have e1 := pNum_j h1
      omega
    · rw [if_neg c2] at h
      by_cases c3 : w = 11
      · rw [if_pos c3] at h
        obtain ⟨a, h1, h⟩ := eb_i h
        obtain ⟨b, h2, h⟩ := eb_i h
        obtain ⟨c, h3, h⟩ := eb_i h
        cases h
        have e1 := pNum_j h1
        have e2 := pWord_i h2
        have e3 := pNum_j h3
        omega
      · rw [if_neg c3] at h
        by_cases c4 : w = 12
        · rw [if_pos c4] at h
          obtain ⟨a, h1, h⟩ := eb_i h
          obtain ⟨b, h2, h⟩ := eb_i h
          obtain ⟨c, h3, h⟩ := eb_i h
          cases h
          have e1 := pNum_j h1
          have e2 := pWord_i h2
          have e3 := pNum_j h3
          omega
        · rw [if_neg c4] at h
          by_cases c5 : w = 13 ∨ w = 17
          · rw [if_pos c5] at h
            obtain ⟨a, h1, h⟩ := eb_i h
            cases h
            have e1 := pNm_i h1
            omega
          · rw [if_neg c5] at h
            by_cases c6 : w = 19
            · rw [if_pos c6] at h
              obtain ⟨a, h1, h⟩ := eb_i h
              cases h
              have e1 := pNum_j h1
              omega
            · rw [if_neg c6] at h
              by_cases c7 : w = 18
              · rw [if_pos c7] at h
                obtain ⟨a, h1, h⟩ := eb_i h
                obtain ⟨b, h2, h⟩ := eb_i h
                cases h
                have e1 := pCm_i h1
                have e2 := pNum_j h2
                omega
              · rw [if_neg c7] at h
                cases h
                exact Nat.le_refl _
theorem pStep_i {τ P : PT} {s d i s' d' j : Nat} (h : pStep τ P s d i = .inr (s', d', j)) : i + 2 ≤ j := by
  unfold pStep at h
  by_cases c1 : bW τ 20 i ≠ 0
  · rw [if_pos c1] at h
    by_cases c2 : d = 0
    · rw [if_pos c2] at h; cases h
    · rw [if_neg c2] at h
      obtain ⟨a, h1, h⟩ := eb_i h
      cases h
      have e1 := pSg_i h1
      omega
  · rw [if_neg c1] at h
    by_cases c2 : swd τ i < 0
    · rw [if_pos c2] at h; cases h
    · rw [if_neg c2] at h
      by_cases c3 : 30 ≤ s
      · rw [if_pos c3] at h; cases h
      · rw [if_neg c3] at h
        by_cases c4 : opW (τ 3 i) = true ∧ 3 ≤ d
        · rw [if_pos c4] at h; cases h
        · rw [if_neg c4] at h
          obtain ⟨a, h1, h⟩ := eb_i h
          obtain ⟨b, h2, h⟩ := eb_i h
          cases h
          have e2 := pSg_i h2
          by_cases c5 : τ 3 i = 15
          · rw [if_pos c5] at h1
            by_cases c6 : twd τ (i + 1) < 0
            · rw [if_pos c6] at h1; cases h1
            · rw [if_neg c6] at h1
              have e1 := oArg_i h1
              omega
          · rw [if_neg c5] at h1
            have e1 := oArg_i h1
            omega
theorem pStep_d {τ P : PT} {s d i s' d' j : Nat} (h : pStep τ P s d i = .inr (s', d', j)) (hE : bW τ 20 i = 0) : s' = s + 1 ∧ s < 30 ∧ (opW (τ 3 i) = true → d' = d + 1 ∧ d < 3) ∧ (opW (τ 3 i) = false → d' = d) := by
  unfold pStep at h
  rw [if_neg (fun c => c hE)] at h
  by_cases c2 : swd τ i < 0
  · rw [if_pos c2] at h; cases h
  · rw [if_neg c2] at h
    by_cases c3 : 30 ≤ s
    · rw [if_pos c3] at h; cases h
    · rw [if_neg c3] at h
      by_cases c4 : opW (τ 3 i) = true ∧ 3 ≤ d
      · rw [if_pos c4] at h; cases h
      · rw [if_neg c4] at h
        obtain ⟨a, h1, h⟩ := eb_i h
        obtain ⟨b, h2, h⟩ := eb_i h
        cases h
        refine ⟨rfl, by omega, fun c => ⟨if_pos c, ?_⟩, fun c => if_neg (fun f => by rw [c] at f; cases f)⟩
        exact Nat.lt_of_not_le (fun f => c4 ⟨c, f⟩)
def oXr (h0 h : zH) : Prop := ∀ a b, ¬ ((a = 10 ∧ 6 ≤ b ∧ b ≤ 8) ∨ (12 ≤ a ∧ a ≤ 15) ∨ (17 ≤ a ∧ a ≤ 23)) → h a b = h0 a b
def cOx (B : Nat → Int) (n r : Nat) (P : PT) (h0 : zH) (x : zR) : Prop := ∃ m τ, Tks B n m τ ∧ ((∃ e, pOrd τ P 900 0 0 0 = .inl e ∧ x.2 = some (0, 0) ∧ cB e x.1) ∨ (∃ (s : Nat) (z : Int), pOrd τ P 900 0 0 0 = .inr s ∧ x.2 = some (0, 1) ∧ x.1 18 1 = (0, (s : Int)) ∧ x.1 18 0 = (0, z) ∧ 0 ≤ z ∧ x.1 10 7 = (0, 0) ∧ x.1 10 8 = (0, -1))) ∧ oXr h0 x.1
theorem cOx_k {D : zD} {T : zT} {N mi pc : Nat} {l : List (Option zV)} {S : List zV} {Q : zR → Prop} {B : Nat → Int} {n r : Nat} {P : PT} {h : zH} (H : vP D T N mi pc h l S (cOx B n r P h)) (k1 : ∀ g m τ s z, oXr h g → Tks B n m τ → pOrd τ P 900 0 0 0 = .inr s → g 18 1 = (0, (s : Int)) → g 18 0 = (0, z) → 0 ≤ z → g 10 7 = (0, 0) → g 10 8 = (0, -1) → Q (g, some (0, 1))) (k2 : ∀ g m τ e, oXr h g → Tks B n m τ → pOrd τ P 900 0 0 0 = .inl e → cB e g → Q (g, some (0, 0))) : vP D T N mi pc h l S Q := vP_Q (fun x hx => by
  obtain ⟨g, v⟩ := x
  obtain ⟨m, τ, hK, h1, hf⟩ := hx
  rcases h1 with ⟨e, h1, h2, h3⟩ | ⟨s, z, h1, h2, h3, h4, h5, h6, h7⟩
  · have h2 : v = some (0, 0) := h2
    subst h2
    exact k2 g m τ e hf hK h1 h3
  · have h2 : v = some (0, 1) := h2
    subst h2
    exact k1 g m τ s z hf hK h1 h3 h4 h5 h6 h7) H
def cOd (r : Nat) (B : Nat → Int) (n : Nat) (P : PT) (h0 : zH) (x : zR) : Prop := (∀ a b, ¬ ((a = 0 ∧ b = 0) ∨ a = 10 ∨ (12 ≤ a ∧ a ≤ 15) ∨ (17 ≤ a ∧ a ≤ 23) ∨ (r + 10 ≤ a ∧ a ≤ r + 14)) → x.1 a b = h0 a b) ∧ ∃ m τ, Tks B n m τ ∧ ((∃ e, pOrd τ P 900 0 0 0 = .inl e ∧ x.2 = some (0, -1) ∧ x.1 10 9 = (0, e.1) ∧ x.1 10 10 = (0, e.2) ∧ ∀ j, x.1 (r + 10) j = h0 (r + 10) j) ∨ (∃ s : Nat, pOrd τ P 900 0 0 0 = .inr s ∧ x.2 = some (0, (s : Int)) ∧ x.1 10 9 = (0, 0) ∧ x.1 10 10 = (0, -1) ∧ x.1 (r + 10) 1 = (0, (s : Int)) ∧ ∃ z : Int, 0 ≤ z ∧ x.1 (r + 10) 0 = (0, z)))
