/-! TOKENS: the bytes as the reference reads them -/
def vU (x : Int) : Int := if x < 0 then x + 256 else x
theorem vU_all : ∀ i : Fin 256, v32 3 ((i.val : Int) - 128) 255 = vU ((i.val : Int) - 128) := by decide +kernel
theorem vU_and {x : Int} (h1 : -128 ≤ x) (h2 : x ≤ 127) : v32 3 x 255 = vU x := by
  have h := vU_all ⟨(x + 128).toNat, by omega⟩
  have e : (((x + 128).toNat : Int) - 128) = x := by omega
  have h : v32 3 (((x + 128).toNat : Int) - 128) 255 = vU (((x + 128).toNat : Int) - 128) := h
  rw [e] at h
  exact h
theorem vU_nn {x : Int} (h : 0 ≤ x) : vU x = x := if_neg (by omega)
def lk (B : Nat → Int) (n : Nat) (p : Int) : Int := if 0 ≤ p ∧ p < (n : Int) then vU (B p.toNat) else 0
def BB (B : Nat → Int) (n : Nat) : Prop := n ≤ 900 ∧ ∀ q, q < n → -128 ≤ B q ∧ B q ≤ 127
def TXr (B : Nat → Int) (n : Nat) (h : zH) : Prop := h 121 9 = (0, (n : Int)) ∧ BB B n ∧ ∀ q, q < n → h 125 q = (0, B q)
theorem TXr.z {B : Nat → Int} {n : Nat} {h : zH} {k : Nat} {v : zV} (hk : k ≠ 9) (hx : TXr B n h) : TXr B n (zset h 121 k v) := ⟨(zset_ne (fun c => hk c.2.symm)).trans hx.1, hx.2.1, fun q hq => (zset_ne (fun c => absurd c.1 (by decide))).trans (hx.2.2 q hq)⟩
theorem lk_bd {B : Nat → Int} {n : Nat} (hb : BB B n) (p : Int) : 0 ≤ lk B n p ∧ lk B n p ≤ 255 := by
  unfold lk
  by_cases c : 0 ≤ p ∧ p < (n : Int)
  · rw [if_pos c]
    have := hb.2 p.toNat (by omega)
    unfold vU
    by_cases d : B p.toNat < 0
    · rw [if_pos d]; omega
    · rw [if_neg d]; omega
  · rw [if_neg c]; omega
theorem lk_in {B : Nat → Int} {n p : Nat} (hp : p < n) : lk B n (p : Int) = vU (B p) := by
  unfold lk
  rw [if_pos ⟨by omega, by omega⟩, Int.toNat_natCast]
theorem lk_out {B : Nat → Int} {n p : Nat} (hp : n ≤ p) : lk B n (p : Int) = 0 := if_neg (fun c => by omega)
theorem vU_of {f : Int → Int} (hf : ∀ x, 128 ≤ x → x ≤ 255 → f x = 0) (hg : ∀ x, -128 ≤ x → x < 0 → f x = 0) {x : Int} (h1 : -128 ≤ x) (h2 : x ≤ 127) : f (vU x) = f x := by
  unfold vU
  by_cases c : x < 0
  · rw [if_pos c, hf _ (by omega) (by omega), hg _ h1 c]
  · rw [if_neg c]
theorem iL_vU {x : Int} : -128 ≤ x → x ≤ 127 → iL (vU x) = iL x := vU_of (fun x h1 h2 => by unfold iL; exact if_neg (by omega)) (fun x h1 h2 => by unfold iL; exact if_neg (by omega))
theorem iD_vU {x : Int} : -128 ≤ x → x ≤ 127 → iD (vU x) = iD x := vU_of (fun x h1 h2 => by unfold iD; exact if_neg (by omega)) (fun x h1 h2 => by unfold iD; exact if_neg (by omega))
theorem iB_vU {x : Int} : -128 ≤ x → x ≤ 127 → iB (vU x) = iB x := vU_of (fun x h1 h2 => by unfold iB; exact if_neg (by omega)) (fun x h1 h2 => by unfold iB; exact if_neg (by omega))
theorem iS_vU {x : Int} : -128 ≤ x → x ≤ 127 → iS (vU x) = iS x := vU_of (fun x h1 h2 => by unfold iS; exact if_neg (by omega)) (fun x h1 h2 => by unfold iS; exact if_neg (by omega))
theorem lk_iff {f : Int → Int} (hf : ∀ x, -128 ≤ x → x ≤ 127 → f (vU x) = f x) (h0 : f 0 = 0) {B : Nat → Int} {n p : Nat} (hb : BB B n) : f (lk B n (p : Int)) ≠ 0 ↔ p < n ∧ f (B p) ≠ 0 := by
  rcases Nat.lt_or_ge p n with hp | hp
  · rw [lk_in hp, hf _ (hb.2 p hp).1 (hb.2 p hp).2]
    exact ⟨fun h => ⟨hp, h⟩, fun h => h.2⟩
  · rw [lk_out hp]
    exact ⟨fun h => absurd h0 h, fun h => absurd h.1 (by omega)⟩
theorem kL {B : Nat → Int} {n p : Nat} (hb : BB B n) : iL (lk B n (p : Int)) ≠ 0 ↔ p < n ∧ iL (B p) ≠ 0 := lk_iff (fun _ => iL_vU) (by decide) hb
theorem kD {B : Nat → Int} {n p : Nat} (hb : BB B n) : iD (lk B n (p : Int)) ≠ 0 ↔ p < n ∧ iD (B p) ≠ 0 := lk_iff (fun _ => iD_vU) (by decide) hb
theorem q_b_blank {D : zD} {T : zT} (hT : hTab T) (hO : vOK T) {N : Nat} {h : zH} {Q : zR → Prop} (x : Int)
    (k0 : (x = 10) → Q (h, some (0, 1)))
    (k1 : (x ≠ 10) → (x = 32) → Q (h, some (0, 1)))
    (k2 : (x ≠ 10) → (x ≠ 32) → Q (h, some (0, 0))) :
    vP D T N 107 0 h [some (0, x)] [] Q := by
  refine v_load (v := (0, x)) (hz_X8_isBlank hT _ _ rfl) rfl rfl ?_
  refine v_push (10) (hz_X8_isBlank hT _ _ rfl) rfl ?_
  refine v_ic (hz_X8_isBlank hT _ _ rfl) (fun hc1 => ?_) (fun hc1 => ?_)
  · have hc1 : x = 10 := hc1
    refine v_push (1) (hz_X8_isBlank hT _ _ rfl) rfl ?_
    refine v_goto (hz_X8_isBlank hT _ _ rfl) ?_
    refine v_ret (hz_X8_isBlank hT _ _ rfl) (Or.inl rfl) ?_
    exact k0 hc1
  · have hc1 : x ≠ 10 := hc1
    refine v_load (v := (0, x)) (hz_X8_isBlank hT _ _ rfl) rfl rfl ?_
    refine v_push (32) (hz_X8_isBlank hT _ _ rfl) rfl ?_
    refine v_ic (hz_X8_isBlank hT _ _ rfl) (fun hc2 => ?_) (fun hc2 => ?_)
    · have hc2 : x = 32 := hc2
      refine v_push (1) (hz_X8_isBlank hT _ _ rfl) rfl ?_
      refine v_goto (hz_X8_isBlank hT _ _ rfl) ?_
      refine v_ret (hz_X8_isBlank hT _ _ rfl) (Or.inl rfl) ?_
      exact k1 hc1 hc2
    · have hc2 : x ≠ 32 := hc2
      refine v_push (0) (hz_X8_isBlank hT _ _ rfl) rfl ?_
      refine v_ret (hz_X8_isBlank hT _ _ rfl) (Or.inl rfl) ?_
      exact k2 hc1 hc2
theorem b_blank {D : zD} {T : zT} (hT : hTab T) (hO : vOK T) {N : Nat} {h : zH} {Q : zR → Prop} (x : Int) (k : Q (h, some (0, iB x))) : vP D T N 107 0 h [some (0, x)] [] Q := by
  refine q_b_blank hT hO x ?_ ?_ ?_ <;> intros <;> first | (rw [show iB x = 1 from if_pos (by omega)] at k; exact k) | (rw [show iB x = 0 from if_neg (by omega)] at k; exact k)
theorem q_b_letter {D : zD} {T : zT} (hT : hTab T) (hO : vOK T) {N : Nat} {h : zH} {Q : zR → Prop} (x : Int)
    (k0 : (x < 97) → Q (h, some (0, 0)))
    (k1 : (97 ≤ x) → (122 < x) → Q (h, some (0, 0)))
    (k2 : (97 ≤ x) → (x ≤ 122) → Q (h, some (0, 1))) :
    vP D T N 111 0 h [some (0, x)] [] Q := by
  refine v_load (v := (0, x)) (hz_X8_isLetter hT _ _ rfl) rfl rfl ?_
  refine v_push (97) (hz_X8_isLetter hT _ _ rfl) rfl ?_
  refine v_ic (hz_X8_isLetter hT _ _ rfl) (fun hc1 => ?_) (fun hc1 => ?_)
  · have hc1 : x < 97 := hc1
    refine v_push (0) (hz_X8_isLetter hT _ _ rfl) rfl ?_
    refine v_ret (hz_X8_isLetter hT _ _ rfl) (Or.inl rfl) ?_
    exact k0 hc1
  · have hc1 : 97 ≤ x := Int.not_lt.mp hc1
    refine v_load (v := (0, x)) (hz_X8_isLetter hT _ _ rfl) rfl rfl ?_
    refine v_push (122) (hz_X8_isLetter hT _ _ rfl) rfl ?_
    refine v_ic (hz_X8_isLetter hT _ _ rfl) (fun hc2 => ?_) (fun hc2 => ?_)
    · have hc2 : 122 < x := hc2
      refine v_push (0) (hz_X8_isLetter hT _ _ rfl) rfl ?_
      refine v_ret (hz_X8_isLetter hT _ _ rfl) (Or.inl rfl) ?_
      exact k1 hc1 hc2
    · have hc2 : x ≤ 122 := Int.not_lt.mp hc2
      refine v_push (1) (hz_X8_isLetter hT _ _ rfl) rfl ?_
      refine v_goto (hz_X8_isLetter hT _ _ rfl) ?_
      refine v_ret (hz_X8_isLetter hT _ _ rfl) (Or.inl rfl) ?_
      exact k2 hc1 hc2
theorem b_letter {D : zD} {T : zT} (hT : hTab T) (hO : vOK T) {N : Nat} {h : zH} {Q : zR → Prop} (x : Int) (k : Q (h, some (0, iL x))) : vP D T N 111 0 h [some (0, x)] [] Q := by
  refine q_b_letter hT hO x ?_ ?_ ?_ <;> intros <;> first | (rw [show iL x = 1 from if_pos (by omega)] at k; exact k) | (rw [show iL x = 0 from if_neg (by omega)] at k; exact k)
theorem q_b_digit {D : zD} {T : zT} (hT : hTab T) (hO : vOK T) {N : Nat} {h : zH} {Q : zR → Prop} (x : Int)
    (k0 : (x < 48) → Q (h, some (0, 0)))
    (k1 : (48 ≤ x) → (57 < x) → Q (h, some (0, 0)))
    (k2 : (48 ≤ x) → (x ≤ 57) → Q (h, some (0, 1))) :
    vP D T N 109 0 h [some (0, x)] [] Q := by
  refine v_load (v := (0, x)) (hz_X8_isDigit hT _ _ rfl) rfl rfl ?_
  refine v_push (48) (hz_X8_isDigit hT _ _ rfl) rfl ?_
  refine v_ic (hz_X8_isDigit hT _ _ rfl) (fun hc1 => ?_) (fun hc1 => ?_)
  · have hc1 : x < 48 := hc1
    refine v_push (0) (hz_X8_isDigit hT _ _ rfl) rfl ?_
    refine v_ret (hz_X8_isDigit hT _ _ rfl) (Or.inl rfl) ?_
    exact k0 hc1
  · have hc1 : 48 ≤ x := Int.not_lt.mp hc1
    refine v_load (v := (0, x)) (hz_X8_isDigit hT _ _ rfl) rfl rfl ?_
    refine v_push (57) (hz_X8_isDigit hT _ _ rfl) rfl ?_
    refine v_ic (hz_X8_isDigit hT _ _ rfl) (fun hc2 => ?_) (fun hc2 => ?_)
    · have hc2 : 57 < x := hc2
      refine v_push (0) (hz_X8_isDigit hT _ _ rfl) rfl ?_
      refine v_ret (hz_X8_isDigit hT _ _ rfl) (Or.inl rfl) ?_
      exact k1 hc1 hc2
    · have hc2 : x ≤ 57 := Int.not_lt.mp hc2
      refine v_push (1) (hz_X8_isDigit hT _ _ rfl) rfl ?_
      refine v_goto (hz_X8_isDigit hT _ _ rfl) ?_
      refine v_ret (hz_X8_isDigit hT _ _ rfl) (Or.inl rfl) ?_
      exact k2 hc1 hc2
theorem b_digit {D : zD} {T : zT} (hT : hTab T) (hO : vOK T) {N : Nat} {h : zH} {Q : zR → Prop} (x : Int) (k : Q (h, some (0, iD x))) : vP D T N 109 0 h [some (0, x)] [] Q := by
  refine q_b_digit hT hO x ?_ ?_ ?_ <;> intros <;> first | (rw [show iD x = 1 from if_pos (by omega)] at k; exact k) | (rw [show iD x = 0 from if_neg (by omega)] at k; exact k)
theorem q_b_sign {D : zD} {T : zT} (hT : hTab T) (hO : vOK T) {N : Nat} {h : zH} {Q : zR → Prop} (x : Int)
    (k0 : (x = 59) → Q (h, some (0, 1)))
    (k1 : (x ≠ 59) → (x = 60) → Q (h, some (0, 1)))
    (k2 : (x ≠ 59) → (x ≠ 60) → (x = 62) → Q (h, some (0, 1)))
    (k3 : (x ≠ 59) → (x ≠ 60) → (x ≠ 62) → (x = 61) → Q (h, some (0, 1)))
    (k4 : (x ≠ 59) → (x ≠ 60) → (x ≠ 62) → (x ≠ 61) → Q (h, some (0, 0))) :
    vP D T N 113 0 h [some (0, x)] [] Q := by
  refine v_load (v := (0, x)) (hz_X8_isSign hT _ _ rfl) rfl rfl ?_
  refine v_push (59) (hz_X8_isSign hT _ _ rfl) rfl ?_
  refine v_ic (hz_X8_isSign hT _ _ rfl) (fun hc1 => ?_) (fun hc1 => ?_)
  · have hc1 : x = 59 := hc1
    refine v_push (1) (hz_X8_isSign hT _ _ rfl) rfl ?_
    refine v_goto (hz_X8_isSign hT _ _ rfl) ?_
    refine v_ret (hz_X8_isSign hT _ _ rfl) (Or.inl rfl) ?_
    exact k0 hc1
  · have hc1 : x ≠ 59 := hc1
    refine v_load (v := (0, x)) (hz_X8_isSign hT _ _ rfl) rfl rfl ?_
    refine v_call (w := 1) [some (0, x)] hO (hz_X8_isSign hT _ _ rfl) rfl rfl ?_
    refine v_load (v := (0, x)) (hz_X8_isCompare hT _ _ rfl) rfl rfl ?_
    refine v_push (60) (hz_X8_isCompare hT _ _ rfl) rfl ?_
    refine v_ic (hz_X8_isCompare hT _ _ rfl) (fun hc2 => ?_) (fun hc2 => ?_)
    · have hc2 : x = 60 := hc2
      refine v_push (1) (hz_X8_isCompare hT _ _ rfl) rfl ?_
      refine v_goto (hz_X8_isCompare hT _ _ rfl) ?_
      refine v_ret (hz_X8_isCompare hT _ _ rfl) (Or.inl rfl) ?_
      show vP D T N 113 10 h [some (0, x)] [(0, 1)] _
      refine v_if (hz_X8_isSign hT _ _ rfl) (fun hc3 => absurd (show (1 : Int) = 0 from hc3) (by decide)) (fun _ => ?_)
      refine v_push (1) (hz_X8_isSign hT _ _ rfl) rfl ?_
      refine v_goto (hz_X8_isSign hT _ _ rfl) ?_
      refine v_ret (hz_X8_isSign hT _ _ rfl) (Or.inl rfl) ?_
      exact k1 hc1 hc2
    · have hc2 : x ≠ 60 := hc2
      refine v_load (v := (0, x)) (hz_X8_isCompare hT _ _ rfl) rfl rfl ?_
      refine v_push (62) (hz_X8_isCompare hT _ _ rfl) rfl ?_
      refine v_ic (hz_X8_isCompare hT _ _ rfl) (fun hc4 => ?_) (fun hc4 => ?_)
      · have hc4 : x = 62 := hc4
        refine v_push (1) (hz_X8_isCompare hT _ _ rfl) rfl ?_
        refine v_goto (hz_X8_isCompare hT _ _ rfl) ?_
        refine v_ret (hz_X8_isCompare hT _ _ rfl) (Or.inl rfl) ?_
        show vP D T N 113 10 h [some (0, x)] [(0, 1)] _
        refine v_if (hz_X8_isSign hT _ _ rfl) (fun hc5 => absurd (show (1 : Int) = 0 from hc5) (by decide)) (fun _ => ?_)
        refine v_push (1) (hz_X8_isSign hT _ _ rfl) rfl ?_
        refine v_goto (hz_X8_isSign hT _ _ rfl) ?_
        refine v_ret (hz_X8_isSign hT _ _ rfl) (Or.inl rfl) ?_
        exact k2 hc1 hc2 hc4
      · have hc4 : x ≠ 62 := hc4
        refine v_load (v := (0, x)) (hz_X8_isCompare hT _ _ rfl) rfl rfl ?_
        refine v_push (61) (hz_X8_isCompare hT _ _ rfl) rfl ?_
        refine v_ic (hz_X8_isCompare hT _ _ rfl) (fun hc6 => ?_) (fun hc6 => ?_)
        · have hc6 : x = 61 := hc6
          refine v_push (1) (hz_X8_isCompare hT _ _ rfl) rfl ?_
          refine v_goto (hz_X8_isCompare hT _ _ rfl) ?_
          refine v_ret (hz_X8_isCompare hT _ _ rfl) (Or.inl rfl) ?_
          show vP D T N 113 10 h [some (0, x)] [(0, 1)] _
          refine v_if (hz_X8_isSign hT _ _ rfl) (fun hc7 => absurd (show (1 : Int) = 0 from hc7) (by decide)) (fun _ => ?_)
          refine v_push (1) (hz_X8_isSign hT _ _ rfl) rfl ?_
          refine v_goto (hz_X8_isSign hT _ _ rfl) ?_
          refine v_ret (hz_X8_isSign hT _ _ rfl) (Or.inl rfl) ?_
          exact k3 hc1 hc2 hc4 hc6
        · have hc6 : x ≠ 61 := hc6
          refine v_push (0) (hz_X8_isCompare hT _ _ rfl) rfl ?_
          refine v_ret (hz_X8_isCompare hT _ _ rfl) (Or.inl rfl) ?_
          show vP D T N 113 10 h [some (0, x)] [(0, 0)] _
          refine v_if (hz_X8_isSign hT _ _ rfl) (fun _ => ?_) (fun hc8 => absurd (show (0 : Int) = 0 from (by decide)) hc8)
          refine v_push (0) (hz_X8_isSign hT _ _ rfl) rfl ?_
          refine v_ret (hz_X8_isSign hT _ _ rfl) (Or.inl rfl) ?_
          exact k4 hc1 hc2 hc4 hc6
theorem b_sign {D : zD} {T : zT} (hT : hTab T) (hO : vOK T) {N : Nat} {h : zH} {Q : zR → Prop} (x : Int) (k : Q (h, some (0, iS x))) : vP D T N 113 0 h [some (0, x)] [] Q := by
  refine q_b_sign hT hO x ?_ ?_ ?_ ?_ ?_ <;> intros <;> first | (rw [show iS x = 1 from if_pos (by omega)] at k; exact k) | (rw [show iS x = 0 from if_neg (by omega)] at k; exact k)
theorem q_b_cmp {D : zD} {T : zT} (hT : hTab T) (hO : vOK T) {N : Nat} {h : zH} {Q : zR → Prop} (x : Int)
    (k0 : (x = 60) → Q (h, some (0, 1)))
    (k1 : (x ≠ 60) → (x = 62) → Q (h, some (0, 1)))
    (k2 : (x ≠ 60) → (x ≠ 62) → (x = 61) → Q (h, some (0, 1)))
    (k3 : (x ≠ 60) → (x ≠ 62) → (x ≠ 61) → Q (h, some (0, 0))) :
    vP D T N 108 0 h [some (0, x)] [] Q := by
  refine v_load (v := (0, x)) (hz_X8_isCompare hT _ _ rfl) rfl rfl ?_
  refine v_push (60) (hz_X8_isCompare hT _ _ rfl) rfl ?_
  refine v_ic (hz_X8_isCompare hT _ _ rfl) (fun hc1 => ?_) (fun hc1 => ?_)
  · have hc1 : x = 60 := hc1
    refine v_push (1) (hz_X8_isCompare hT _ _ rfl) rfl ?_
    refine v_goto (hz_X8_isCompare hT _ _ rfl) ?_
    refine v_ret (hz_X8_isCompare hT _ _ rfl) (Or.inl rfl) ?_
    exact k0 hc1
  · have hc1 : x ≠ 60 := hc1
    refine v_load (v := (0, x)) (hz_X8_isCompare hT _ _ rfl) rfl rfl ?_
    refine v_push (62) (hz_X8_isCompare hT _ _ rfl) rfl ?_
    refine v_ic (hz_X8_isCompare hT _ _ rfl) (fun hc2 => ?_) (fun hc2 => ?_)
    · have hc2 : x = 62 := hc2
      refine v_push (1) (hz_X8_isCompare hT _ _ rfl) rfl ?_
      refine v_goto (hz_X8_isCompare hT _ _ rfl) ?_
      refine v_ret (hz_X8_isCompare hT _ _ rfl) (Or.inl rfl) ?_
      exact k1 hc1 hc2
    · have hc2 : x ≠ 62 := hc2
      refine v_load (v := (0, x)) (hz_X8_isCompare hT _ _ rfl) rfl rfl ?_
      refine v_push (61) (hz_X8_isCompare hT _ _ rfl) rfl ?_
      refine v_ic (hz_X8_isCompare hT _ _ rfl) (fun hc3 => ?_) (fun hc3 => ?_)
      · have hc3 : x = 61 := hc3
        refine v_push (1) (hz_X8_isCompare hT _ _ rfl) rfl ?_
        refine v_goto (hz_X8_isCompare hT _ _ rfl) ?_
        refine v_ret (hz_X8_isCompare hT _ _ rfl) (Or.inl rfl) ?_
        exact k2 hc1 hc2 hc3
      · have hc3 : x ≠ 61 := hc3
        refine v_push (0) (hz_X8_isCompare hT _ _ rfl) rfl ?_
        refine v_ret (hz_X8_isCompare hT _ _ rfl) (Or.inl rfl) ?_
        exact k3 hc1 hc2 hc3
theorem b_cmp {D : zD} {T : zT} (hT : hTab T) (hO : vOK T) {N : Nat} {h : zH} {Q : zR → Prop} (x : Int) (k : Q (h, some (0, iC x))) : vP D T N 108 0 h [some (0, x)] [] Q := by
  refine q_b_cmp hT hO x ?_ ?_ ?_ ?_ <;> intros <;> first | (rw [show iC x = 1 from if_pos (by omega)] at k; exact k) | (rw [show iC x = 0 from if_neg (by omega)] at k; exact k)
theorem q_r_letter {D : zD} {T : zT} (hT : hTab T) (hO : vOK T) {N : Nat} {h : zH} {Q : zR → Prop} (x : Int)
    (k0 : (x < 97) → Q (h, some (0, 0)))
    (k1 : (97 ≤ x) → (122 < x) → Q (h, some (0, 0)))
    (k2 : (97 ≤ x) → (x ≤ 122) → Q (h, some (0, 1))) :
    vP D T N 254 0 h [some (0, x)] [] Q := by
  refine v_load (v := (0, x)) (hz_X12_isLetter hT _ _ rfl) rfl rfl ?_
  refine v_push (97) (hz_X12_isLetter hT _ _ rfl) rfl ?_
  refine v_ic (hz_X12_isLetter hT _ _ rfl) (fun hc1 => ?_) (fun hc1 => ?_)
  · have hc1 : x < 97 := hc1
    refine v_push (0) (hz_X12_isLetter hT _ _ rfl) rfl ?_
    refine v_ret (hz_X12_isLetter hT _ _ rfl) (Or.inl rfl) ?_
    exact k0 hc1
  · have hc1 : 97 ≤ x := Int.not_lt.mp hc1
    refine v_load (v := (0, x)) (hz_X12_isLetter hT _ _ rfl) rfl rfl ?_
    refine v_push (122) (hz_X12_isLetter hT _ _ rfl) rfl ?_
    refine v_ic (hz_X12_isLetter hT _ _ rfl) (fun hc2 => ?_) (fun hc2 => ?_)
    · have hc2 : 122 < x := hc2
      refine v_push (0) (hz_X12_isLetter hT _ _ rfl) rfl ?_
      refine v_ret (hz_X12_isLetter hT _ _ rfl) (Or.inl rfl) ?_
      exact k1 hc1 hc2
    · have hc2 : x ≤ 122 := Int.not_lt.mp hc2
      refine v_push (1) (hz_X12_isLetter hT _ _ rfl) rfl ?_
      refine v_goto (hz_X12_isLetter hT _ _ rfl) ?_
      refine v_ret (hz_X12_isLetter hT _ _ rfl) (Or.inl rfl) ?_
      exact k2 hc1 hc2
theorem r_letter {D : zD} {T : zT} (hT : hTab T) (hO : vOK T) {N : Nat} {h : zH} {Q : zR → Prop} (x : Int) (k : Q (h, some (0, iL x))) : vP D T N 254 0 h [some (0, x)] [] Q := by
  refine q_r_letter hT hO x ?_ ?_ ?_ <;> intros <;> first | (rw [show iL x = 1 from if_pos (by omega)] at k; exact k) | (rw [show iL x = 0 from if_neg (by omega)] at k; exact k)
theorem q_r_digit {D : zD} {T : zT} (hT : hTab T) (hO : vOK T) {N : Nat} {h : zH} {Q : zR → Prop} (x : Int)
    (k0 : (x < 48) → Q (h, some (0, 0)))
    (k1 : (48 ≤ x) → (57 < x) → Q (h, some (0, 0)))
    (k2 : (48 ≤ x) → (x ≤ 57) → Q (h, some (0, 1))) :
    vP D T N 249 0 h [some (0, x)] [] Q := by
  refine v_load (v := (0, x)) (hz_X12_isDigit hT _ _ rfl) rfl rfl ?_
  refine v_push (48) (hz_X12_isDigit hT _ _ rfl) rfl ?_
  refine v_ic (hz_X12_isDigit hT _ _ rfl) (fun hc1 => ?_) (fun hc1 => ?_)
  · have hc1 : x < 48 := hc1
    refine v_push (0) (hz_X12_isDigit hT _ _ rfl) rfl ?_
    refine v_ret (hz_X12_isDigit hT _ _ rfl) (Or.inl rfl) ?_
    exact k0 hc1
  · have hc1 : 48 ≤ x := Int.not_lt.mp hc1
    refine v_load (v := (0, x)) (hz_X12_isDigit hT _ _ rfl) rfl rfl ?_
    refine v_push (57) (hz_X12_isDigit hT _ _ rfl) rfl ?_
    refine v_ic (hz_X12_isDigit hT _ _ rfl) (fun hc2 => ?_) (fun hc2 => ?_)
    · have hc2 : 57 < x := hc2
      refine v_push (0) (hz_X12_isDigit hT _ _ rfl) rfl ?_
      refine v_ret (hz_X12_isDigit hT _ _ rfl) (Or.inl rfl) ?_
      exact k1 hc1 hc2
    · have hc2 : x ≤ 57 := Int.not_lt.mp hc2
      refine v_push (1) (hz_X12_isDigit hT _ _ rfl) rfl ?_
      refine v_goto (hz_X12_isDigit hT _ _ rfl) ?_
      refine v_ret (hz_X12_isDigit hT _ _ rfl) (Or.inl rfl) ?_
      exact k2 hc1 hc2
theorem r_digit {D : zD} {T : zT} (hT : hTab T) (hO : vOK T) {N : Nat} {h : zH} {Q : zR → Prop} (x : Int) (k : Q (h, some (0, iD x))) : vP D T N 249 0 h [some (0, x)] [] Q := by
  refine q_r_digit hT hO x ?_ ?_ ?_ <;> intros <;> first | (rw [show iD x = 1 from if_pos (by omega)] at k; exact k) | (rw [show iD x = 0 from if_neg (by omega)] at k; exact k)
theorem q_r_sign {D : zD} {T : zT} (hT : hTab T) (hO : vOK T) {N : Nat} {h : zH} {Q : zR → Prop} (x : Int)
    (k0 : (x = 59) → Q (h, some (0, 1)))
    (k1 : (x ≠ 59) → (x = 60) → Q (h, some (0, 1)))
    (k2 : (x ≠ 59) → (x ≠ 60) → (x = 62) → Q (h, some (0, 1)))
    (k3 : (x ≠ 59) → (x ≠ 60) → (x ≠ 62) → (x = 61) → Q (h, some (0, 1)))
    (k4 : (x ≠ 59) → (x ≠ 60) → (x ≠ 62) → (x ≠ 61) → Q (h, some (0, 0))) :
    vP D T N 260 0 h [some (2, 121), some (0, x)] [] Q := by
  refine v_load (v := (0, x)) (hz_X12_isSignByte hT _ _ rfl) rfl rfl ?_
  refine v_push (59) (hz_X12_isSignByte hT _ _ rfl) rfl ?_
  refine v_ic (hz_X12_isSignByte hT _ _ rfl) (fun hc1 => ?_) (fun hc1 => ?_)
  · have hc1 : x = 59 := hc1
    refine v_push (1) (hz_X12_isSignByte hT _ _ rfl) rfl ?_
    refine v_goto (hz_X12_isSignByte hT _ _ rfl) ?_
    refine v_ret (hz_X12_isSignByte hT _ _ rfl) (Or.inl rfl) ?_
    exact k0 hc1
  · have hc1 : x ≠ 59 := hc1
    refine v_load (v := (0, x)) (hz_X12_isSignByte hT _ _ rfl) rfl rfl ?_
    refine v_push (60) (hz_X12_isSignByte hT _ _ rfl) rfl ?_
    refine v_ic (hz_X12_isSignByte hT _ _ rfl) (fun hc2 => ?_) (fun hc2 => ?_)
    · have hc2 : x = 60 := hc2
      refine v_push (1) (hz_X12_isSignByte hT _ _ rfl) rfl ?_
      refine v_goto (hz_X12_isSignByte hT _ _ rfl) ?_
      refine v_ret (hz_X12_isSignByte hT _ _ rfl) (Or.inl rfl) ?_
      exact k1 hc1 hc2
    · have hc2 : x ≠ 60 := hc2
      refine v_load (v := (0, x)) (hz_X12_isSignByte hT _ _ rfl) rfl rfl ?_
      refine v_push (62) (hz_X12_isSignByte hT _ _ rfl) rfl ?_
      refine v_ic (hz_X12_isSignByte hT _ _ rfl) (fun hc3 => ?_) (fun hc3 => ?_)
      · have hc3 : x = 62 := hc3
        refine v_push (1) (hz_X12_isSignByte hT _ _ rfl) rfl ?_
        refine v_goto (hz_X12_isSignByte hT _ _ rfl) ?_
        refine v_ret (hz_X12_isSignByte hT _ _ rfl) (Or.inl rfl) ?_
        exact k2 hc1 hc2 hc3
      · have hc3 : x ≠ 62 := hc3
        refine v_load (v := (0, x)) (hz_X12_isSignByte hT _ _ rfl) rfl rfl ?_
        refine v_push (61) (hz_X12_isSignByte hT _ _ rfl) rfl ?_
        refine v_ic (hz_X12_isSignByte hT _ _ rfl) (fun hc4 => ?_) (fun hc4 => ?_)
        · have hc4 : x = 61 := hc4
          refine v_push (1) (hz_X12_isSignByte hT _ _ rfl) rfl ?_
          refine v_goto (hz_X12_isSignByte hT _ _ rfl) ?_
          refine v_ret (hz_X12_isSignByte hT _ _ rfl) (Or.inl rfl) ?_
          exact k3 hc1 hc2 hc3 hc4
        · have hc4 : x ≠ 61 := hc4
          refine v_push (0) (hz_X12_isSignByte hT _ _ rfl) rfl ?_
          refine v_ret (hz_X12_isSignByte hT _ _ rfl) (Or.inl rfl) ?_
          exact k4 hc1 hc2 hc3 hc4
theorem r_sign {D : zD} {T : zT} (hT : hTab T) (hO : vOK T) {N : Nat} {h : zH} {Q : zR → Prop} (x : Int) (k : Q (h, some (0, iS x))) : vP D T N 260 0 h [some (2, 121), some (0, x)] [] Q := by
  refine q_r_sign hT hO x ?_ ?_ ?_ ?_ ?_ <;> intros <;> first | (rw [show iS x = 1 from if_pos (by omega)] at k; exact k) | (rw [show iS x = 0 from if_neg (by omega)] at k; exact k)
theorem q_look {D : zD} {T : zT} (hT : hTab T) (hO : vOK T) {N : Nat} {h : zH} {Q : zR → Prop} (p : Int) (hv0 : zHv h)
    (k0 : (p < (h 121 9).2) → (0 ≤ p) → (p < 900) → Q (h, some (0, (v32 3 ((h 125 p.toNat).2) 255))))
    (k1 : ((h 121 9).2 ≤ p) → Q (h, some (0, 0))) :
    vP D T N 272 0 h [some (2, 121), some (0, p)] [] Q := by
  refine v_load (v := (0, p)) (hz_X12_look2 hT _ _ rfl) rfl rfl ?_
  refine v_load (v := (2, 121)) (hz_X12_look2 hT _ _ rfl) rfl rfl ?_
  refine v_getI (t := 0) (r := 121) (hz_X12_look2 hT _ _ rfl) rfl rfl rfl ?_
  refine v_ic (hz_X12_look2 hT _ _ rfl) (fun hc1 => ?_) (fun hc1 => ?_)
  · have hc1 : p < (h 121 9).2 := hc1
    refine v_load (v := (2, 121)) (hz_X12_look2 hT _ _ rfl) rfl rfl ?_
    refine v_getR (c := 125) (r := 121) (hz_X12_look2 hT _ _ rfl) rfl rfl rfl ?_
    refine v_load (v := (0, p)) (hz_X12_look2 hT _ _ rfl) rfl rfl ?_
    refine v_ald (t := 0) (r := 125) (hz_X12_look2 hT _ _ rfl) rfl rfl rfl (fun ha2 hb3 => ?_)
    refine v_push (255) (hz_X12_look2 hT _ _ rfl) rfl ?_
    refine v_bin (w := (v32 3 ((h 125 p.toNat).2) 255)) (hz_X12_look2 hT _ _ rfl) rfl ?_
    refine v_goto (hz_X12_look2 hT _ _ rfl) ?_
    refine v_ret (hz_X12_look2 hT _ _ rfl) (Or.inl rfl) ?_
    exact k0 hc1 ha2 hb3
  · have hc1 : (h 121 9).2 ≤ p := Int.not_lt.mp hc1
    refine v_push (0) (hz_X12_look2 hT _ _ rfl) rfl ?_
    refine v_ret (hz_X12_look2 hT _ _ rfl) (Or.inl rfl) ?_
    exact k1 hc1

theorem r_look {D : zD} {T : zT} (hT : hTab T) (hO : vOK T) {N : Nat} {h : zH} {Q : zR → Prop} {B : Nat → Int} {n : Nat} (hx : TXr B n h) (p : Int) (k : Q (h, some (0, lk B n p))) : vP D T N 272 0 h [some (2, 121), some (0, p)] [] Q := by
  refine vP_hv (fun hv => q_look hT hO p hv ?_ ?_)
  · intro c1 c2 c3
    rw [hx.1] at c1
    have c1 : p < (n : Int) := c1
    have b := hx.2.1.2 p.toNat (by omega)
    rw [hx.2.2 p.toNat (by omega)]
    show Q (h, some (0, v32 3 (B p.toNat) 255))
    rw [vU_and b.1 b.2]
    have e : lk B n p = vU (B p.toNat) := if_pos ⟨c2, c1⟩
    rw [e] at k
    exact k
  · intro c1
    rw [hx.1] at c1
    have c1 : (n : Int) ≤ p := c1
    have e : lk B n p = 0 := if_neg (fun c => by omega)
    rw [e] at k
    exact k
theorem q_next0 {D : zD} {T : zT} (hT : hTab T) (hO : vOK T) {N : Nat} {h : zH} {Q : zR → Prop} (B : Nat → Int) (n : Nat) (hv0 : zHv h) (hx : TXr B n h)
    (k0 : vP D T N 284 8 (zset h 121 15 (0, (h 121 16).2)) [some (2, 121), none] [] Q) :
    vP D T N 284 0 h [some (2, 121), none] [] Q := by
  refine v_load (v := (2, 121)) (hz_X12_next hT _ _ rfl) rfl rfl ?_
  refine v_load (v := (2, 121)) (hz_X12_next hT _ _ rfl) rfl rfl ?_
  refine v_getI (t := 0) (r := 121) (hz_X12_next hT _ _ rfl) rfl rfl rfl ?_
  refine v_putf (r := 121) hO (hz_X12_next hT _ _ rfl) rfl (fun hf1 => ?_)
  exact k0 
theorem q_next8 {D : zD} {T : zT} (hT : hTab T) (hO : vOK T) {N : Nat} {h : zH} {Q : zR → Prop} (B : Nat → Int) (n : Nat) (hv0 : zHv h) (hx : TXr B n h) (b15 : 0 ≤ (h 121 15).2 ∧ (h 121 15).2 ≤ 900)
    (k0 : ((h 121 15).2 < (h 121 9).2) → ((lk B n ((h 121 15).2)) = 10) → vP D T N 284 8 (zset h 121 15 (0, ((h 121 15).2 + 1))) [some (2, 121), none] [] Q)
    (k1 : ((h 121 15).2 < (h 121 9).2) → ((lk B n ((h 121 15).2)) ≠ 10) → ((lk B n ((h 121 15).2)) = 32) → vP D T N 284 8 (zset h 121 15 (0, ((h 121 15).2 + 1))) [some (2, 121), none] [] Q)
    (k2 : ((h 121 15).2 < (h 121 9).2) → ((lk B n ((h 121 15).2)) ≠ 10) → ((lk B n ((h 121 15).2)) ≠ 32) → ((iL ((lk B n ((h 121 15).2)))) = 0) → ((iD ((lk B n ((h 121 15).2)))) = 0) → ((iS ((lk B n ((h 121 15).2)))) = 0) → Q (zset (zset (zset (zset h 121 16 (0, (h 121 15).2)) 121 16 (0, ((h 121 15).2 + 1))) 121 17 (0, (lk B n ((h 121 15).2)))) 121 14 (0, 4), none))
    (k3 : ((h 121 15).2 < (h 121 9).2) → ((lk B n ((h 121 15).2)) ≠ 10) → ((lk B n ((h 121 15).2)) ≠ 32) → ((iL ((lk B n ((h 121 15).2)))) = 0) → ((iD ((lk B n ((h 121 15).2)))) = 0) → ((iS ((lk B n ((h 121 15).2)))) ≠ 0) → Q (zset (zset (zset (zset h 121 16 (0, (h 121 15).2)) 121 16 (0, ((h 121 15).2 + 1))) 121 17 (0, (lk B n ((h 121 15).2)))) 121 14 (0, 3), none))
    (k4 : ((h 121 15).2 < (h 121 9).2) → ((lk B n ((h 121 15).2)) ≠ 10) → ((lk B n ((h 121 15).2)) ≠ 32) → ((iL ((lk B n ((h 121 15).2)))) = 0) → ((iD ((lk B n ((h 121 15).2)))) ≠ 0) → vP D T N 284 210 (zset (zset h 121 16 (0, (h 121 15).2)) 121 17 (0, 0)) [some (2, 121), some (0, (lk B n ((h 121 15).2)))] [] Q)
    (k5 : ((h 121 15).2 < (h 121 9).2) → ((lk B n ((h 121 15).2)) ≠ 10) → ((lk B n ((h 121 15).2)) ≠ 32) → ((iL ((lk B n ((h 121 15).2)))) ≠ 0) → vP D T N 284 109 (zset (zset (zset h 121 16 (0, (h 121 15).2)) 121 14 (0, 1)) 121 19 (1, 0)) [some (2, 121), some (0, (lk B n ((h 121 15).2)))] [] Q)
    (k6 : ((h 121 9).2 ≤ (h 121 15).2) → Q (zset (zset h 121 16 (0, (h 121 15).2)) 121 14 (0, 0), none)) :
    vP D T (N + 1) 284 8 h [some (2, 121), none] [] Q := by
  refine v_loadS (v := (2, 121)) (hz_X12_next hT _ _ rfl) rfl rfl ?_
  refine v_getI (t := 0) (r := 121) (hz_X12_next hT _ _ rfl) rfl rfl rfl ?_
  refine v_load (v := (2, 121)) (hz_X12_next hT _ _ rfl) rfl rfl ?_
  refine v_getI (t := 0) (r := 121) (hz_X12_next hT _ _ rfl) rfl rfl rfl ?_
  refine v_ic (hz_X12_next hT _ _ rfl) (fun hc1 => ?_) (fun hc1 => ?_)
  · have hc1 : (h 121 15).2 < (h 121 9).2 := hc1
    refine v_load (v := (2, 121)) (hz_X12_next hT _ _ rfl) rfl rfl ?_
    refine v_load (v := (2, 121)) (hz_X12_next hT _ _ rfl) rfl rfl ?_
    refine v_getI (t := 0) (r := 121) (hz_X12_next hT _ _ rfl) rfl rfl rfl ?_
    refine v_call (w := 2) [some (2, 121), some (0, (h 121 15).2)] hO (hz_X12_next hT _ _ rfl) rfl rfl (r_look hT hO hx ((h 121 15).2) ?_)
    show vP D T N 284 27 h [some (2, 121), none] [(0, (lk B n ((h 121 15).2)))] _
    refine v_push (10) (hz_X12_next hT _ _ rfl) rfl ?_
    refine v_ic (hz_X12_next hT _ _ rfl) (fun hc2 => ?_) (fun hc2 => ?_)
    · have hc2 : (lk B n ((h 121 15).2)) = 10 := hc2
      refine v_load (v := (2, 121)) (hz_X12_next hT _ _ rfl) rfl rfl ?_
      refine v_dup (hz_X12_next hT _ _ rfl) (Nat.ne_of_beq_eq_false rfl) ?_
      refine v_getI (t := 0) (r := 121) (hz_X12_next hT _ _ rfl) rfl rfl rfl ?_
      refine v_push (1) (hz_X12_next hT _ _ rfl) rfl ?_
      refine v_bin (w := ((h 121 15).2 + 1)) (hz_X12_next hT _ _ rfl) (hq_add (by omega) (by omega)) ?_
      refine v_putf (r := 121) hO (hz_X12_next hT _ _ rfl) rfl (fun hf3 => ?_)
      refine v_goto (hz_X12_next hT _ _ rfl) ?_
      exact k0 hc1 hc2
    · have hc2 : (lk B n ((h 121 15).2)) ≠ 10 := hc2
      refine v_load (v := (2, 121)) (hz_X12_next hT _ _ rfl) rfl rfl ?_
      refine v_load (v := (2, 121)) (hz_X12_next hT _ _ rfl) rfl rfl ?_
      refine v_getI (t := 0) (r := 121) (hz_X12_next hT _ _ rfl) rfl rfl rfl ?_
      refine v_call (w := 2) [some (2, 121), some (0, (h 121 15).2)] hO (hz_X12_next hT _ _ rfl) rfl rfl (r_look hT hO hx ((h 121 15).2) ?_)
      show vP D T N 284 40 h [some (2, 121), none] [(0, (lk B n ((h 121 15).2)))] _
      refine v_push (32) (hz_X12_next hT _ _ rfl) rfl ?_
      refine v_ic (hz_X12_next hT _ _ rfl) (fun hc4 => ?_) (fun hc4 => ?_)
      · have hc4 : (lk B n ((h 121 15).2)) = 32 := hc4
        refine v_load (v := (2, 121)) (hz_X12_next hT _ _ rfl) rfl rfl ?_
        refine v_dup (hz_X12_next hT _ _ rfl) (Nat.ne_of_beq_eq_false rfl) ?_
        refine v_getI (t := 0) (r := 121) (hz_X12_next hT _ _ rfl) rfl rfl rfl ?_
        refine v_push (1) (hz_X12_next hT _ _ rfl) rfl ?_
        refine v_bin (w := ((h 121 15).2 + 1)) (hz_X12_next hT _ _ rfl) (hq_add (by omega) (by omega)) ?_
        refine v_putf (r := 121) hO (hz_X12_next hT _ _ rfl) rfl (fun hf5 => ?_)
        refine v_goto (hz_X12_next hT _ _ rfl) ?_
        exact k1 hc1 hc2 hc4
      · have hc4 : (lk B n ((h 121 15).2)) ≠ 32 := hc4
        refine v_load (v := (2, 121)) (hz_X12_next hT _ _ rfl) rfl rfl ?_
        refine v_load (v := (2, 121)) (hz_X12_next hT _ _ rfl) rfl rfl ?_
        refine v_getI (t := 0) (r := 121) (hz_X12_next hT _ _ rfl) rfl rfl rfl ?_
        refine v_putf (r := 121) hO (hz_X12_next hT _ _ rfl) rfl (fun hf6 => ?_)
        refine v_load (v := (2, 121)) (hz_X12_next hT _ _ rfl) rfl rfl ?_
        refine v_getf (v := (0, (h 121 15).2)) (r := 121) (hz_X12_next hT _ _ rfl) rfl rfl (fun hv_ => Eq.trans (zset_ne (fun c => absurd c.2 (by decide))) (hv0.at rfl)) ?_
        refine v_load (v := (2, 121)) (hz_X12_next hT _ _ rfl) rfl rfl ?_
        refine v_getf (v := (0, (h 121 9).2)) (r := 121) (hz_X12_next hT _ _ rfl) rfl rfl (fun hv_ => Eq.trans (zset_ne (fun c => absurd c.2 (by decide))) (hv0.at rfl)) ?_
        refine v_ic (hz_X12_next hT _ _ rfl) (fun _ => ?_) (fun hc7 => absurd (show (h 121 15).2 < (h 121 9).2 from hc1) hc7)
        refine v_load (v := (2, 121)) (hz_X12_next hT _ _ rfl) rfl rfl ?_
        refine v_load (v := (2, 121)) (hz_X12_next hT _ _ rfl) rfl rfl ?_
        refine v_getf (v := (0, (h 121 15).2)) (r := 121) (hz_X12_next hT _ _ rfl) rfl rfl (fun hv_ => Eq.trans (zset_ne (fun c => absurd c.2 (by decide))) (hv0.at rfl)) ?_
        refine v_call (w := 2) [some (2, 121), some (0, (h 121 15).2)] hO (hz_X12_next hT _ _ rfl) rfl rfl (r_look hT hO (TXr.z (k := 16) (v := (0, (h 121 15).2)) (by decide) hx) ((h 121 15).2) ?_)
        show vP D T N 284 91 (zset h 121 16 (0, (h 121 15).2)) [some (2, 121), none] [(0, (lk B n ((h 121 15).2)))] _
        refine v_store1 [some (2, 121), some (0, (lk B n ((h 121 15).2)))] (hz_X12_next hT _ _ rfl) ⟨rfl, Nat.ne_of_beq_eq_false rfl⟩ (Nat.le_of_ble_eq_true rfl) rfl ?_
        refine v_load (v := (0, (lk B n ((h 121 15).2)))) (hz_X12_next hT _ _ rfl) rfl rfl ?_
        refine v_call (w := 1) [some (0, (lk B n ((h 121 15).2)))] hO (hz_X12_next hT _ _ rfl) rfl rfl (r_letter hT hO ((lk B n ((h 121 15).2))) ?_)
        show vP D T N 284 96 (zset h 121 16 (0, (h 121 15).2)) [some (2, 121), some (0, (lk B n ((h 121 15).2)))] [(0, (iL ((lk B n ((h 121 15).2)))))] _
        refine v_if (hz_X12_next hT _ _ rfl) (fun hc8 => ?_) (fun hc8 => ?_)
        · have hc8 : (iL ((lk B n ((h 121 15).2)))) = 0 := hc8
          refine v_load (v := (0, (lk B n ((h 121 15).2)))) (hz_X12_next hT _ _ rfl) rfl rfl ?_
          refine v_call (w := 1) [some (0, (lk B n ((h 121 15).2)))] hO (hz_X12_next hT _ _ rfl) rfl rfl (r_digit hT hO ((lk B n ((h 121 15).2))) ?_)
          show vP D T N 284 202 (zset h 121 16 (0, (h 121 15).2)) [some (2, 121), some (0, (lk B n ((h 121 15).2)))] [(0, (iD ((lk B n ((h 121 15).2)))))] _
          refine v_if (hz_X12_next hT _ _ rfl) (fun hc9 => ?_) (fun hc9 => ?_)
          · have hc9 : (iD ((lk B n ((h 121 15).2)))) = 0 := hc9
            refine v_load (v := (2, 121)) (hz_X12_next hT _ _ rfl) rfl rfl ?_
            refine v_load (v := (2, 121)) (hz_X12_next hT _ _ rfl) rfl rfl ?_
            refine v_getf (v := (0, (h 121 15).2)) (r := 121) (hz_X12_next hT _ _ rfl) rfl rfl (fun hv_ => Eq.trans (zset_ne (fun c => absurd c.2 (by decide))) (hv0.at rfl)) ?_
            refine v_push (1) (hz_X12_next hT _ _ rfl) rfl ?_
            refine v_bin (w := ((h 121 15).2 + 1)) (hz_X12_next hT _ _ rfl) (hq_add (by omega) (by omega)) ?_
            refine v_putf (r := 121) hO (hz_X12_next hT _ _ rfl) rfl (fun hf10 => ?_)
            refine v_load (v := (2, 121)) (hz_X12_next hT _ _ rfl) rfl rfl ?_
            refine v_load (v := (0, (lk B n ((h 121 15).2)))) (hz_X12_next hT _ _ rfl) rfl rfl ?_
            refine v_putf (r := 121) hO (hz_X12_next hT _ _ rfl) rfl (fun hf11 => ?_)
            refine v_load (v := (2, 121)) (hz_X12_next hT _ _ rfl) rfl rfl ?_
            refine v_load (v := (2, 121)) (hz_X12_next hT _ _ rfl) rfl rfl ?_
            refine v_load (v := (0, (lk B n ((h 121 15).2)))) (hz_X12_next hT _ _ rfl) rfl rfl ?_
            refine v_call (w := 2) [some (2, 121), some (0, (lk B n ((h 121 15).2)))] hO (hz_X12_next hT _ _ rfl) rfl rfl (r_sign hT hO ((lk B n ((h 121 15).2))) ?_)
            show vP D T N 284 319 (zset (zset (zset h 121 16 (0, (h 121 15).2)) 121 16 (0, ((h 121 15).2 + 1))) 121 17 (0, (lk B n ((h 121 15).2)))) [some (2, 121), some (0, (lk B n ((h 121 15).2)))] [(0, (iS ((lk B n ((h 121 15).2))))), (2, 121)] _
            refine v_if (hz_X12_next hT _ _ rfl) (fun hc12 => ?_) (fun hc12 => ?_)
            · have hc12 : (iS ((lk B n ((h 121 15).2)))) = 0 := hc12
              refine v_push (4) (hz_X12_next hT _ _ rfl) rfl ?_
              refine v_putf (r := 121) hO (hz_X12_next hT _ _ rfl) rfl (fun hf13 => ?_)
              refine v_ret0 (hz_X12_next hT _ _ rfl) ?_
              exact k2 hc1 hc2 hc4 hc8 hc9 hc12
            · have hc12 : (iS ((lk B n ((h 121 15).2)))) ≠ 0 := hc12
              refine v_push (3) (hz_X12_next hT _ _ rfl) rfl ?_
              refine v_goto (hz_X12_next hT _ _ rfl) ?_
              refine v_putf (r := 121) hO (hz_X12_next hT _ _ rfl) rfl (fun hf14 => ?_)
              refine v_ret0 (hz_X12_next hT _ _ rfl) ?_
              exact k3 hc1 hc2 hc4 hc8 hc9 hc12
          · have hc9 : (iD ((lk B n ((h 121 15).2)))) ≠ 0 := hc9
            refine v_load (v := (2, 121)) (hz_X12_next hT _ _ rfl) rfl rfl ?_
            refine v_push (0) (hz_X12_next hT _ _ rfl) rfl ?_
            refine v_putf (r := 121) hO (hz_X12_next hT _ _ rfl) rfl (fun hf15 => ?_)
            exact k4 hc1 hc2 hc4 hc8 hc9
        · have hc8 : (iL ((lk B n ((h 121 15).2)))) ≠ 0 := hc8
          refine v_load (v := (2, 121)) (hz_X12_next hT _ _ rfl) rfl rfl ?_
          refine v_push (1) (hz_X12_next hT _ _ rfl) rfl ?_
          refine v_putf (r := 121) hO (hz_X12_next hT _ _ rfl) rfl (fun hf16 => ?_)
          refine v_load (v := (2, 121)) (hz_X12_next hT _ _ rfl) rfl rfl ?_
          refine v_push (0) (hz_X12_next hT _ _ rfl) rfl ?_
          refine v_putf (r := 121) hO (hz_X12_next hT _ _ rfl) rfl (fun hf17 => ?_)
          exact k5 hc1 hc2 hc4 hc8
  · have hc1 : (h 121 9).2 ≤ (h 121 15).2 := Int.not_lt.mp hc1
    refine v_load (v := (2, 121)) (hz_X12_next hT _ _ rfl) rfl rfl ?_
    refine v_load (v := (2, 121)) (hz_X12_next hT _ _ rfl) rfl rfl ?_
    refine v_getI (t := 0) (r := 121) (hz_X12_next hT _ _ rfl) rfl rfl rfl ?_
    refine v_putf (r := 121) hO (hz_X12_next hT _ _ rfl) rfl (fun hf18 => ?_)
    refine v_load (v := (2, 121)) (hz_X12_next hT _ _ rfl) rfl rfl ?_
    refine v_getf (v := (0, (h 121 15).2)) (r := 121) (hz_X12_next hT _ _ rfl) rfl rfl (fun hv_ => Eq.trans (zset_ne (fun c => absurd c.2 (by decide))) (hv0.at rfl)) ?_
    refine v_load (v := (2, 121)) (hz_X12_next hT _ _ rfl) rfl rfl ?_
    refine v_getf (v := (0, (h 121 9).2)) (r := 121) (hz_X12_next hT _ _ rfl) rfl rfl (fun hv_ => Eq.trans (zset_ne (fun c => absurd c.2 (by decide))) (hv0.at rfl)) ?_
    refine v_ic (hz_X12_next hT _ _ rfl) (fun hc19 => absurd (show (h 121 15).2 < (h 121 9).2 from hc19) (by omega)) (fun _ => ?_)
    refine v_load (v := (2, 121)) (hz_X12_next hT _ _ rfl) rfl rfl ?_
    refine v_push (0) (hz_X12_next hT _ _ rfl) rfl ?_
    refine v_putf (r := 121) hO (hz_X12_next hT _ _ rfl) rfl (fun hf20 => ?_)
    refine v_ret0 (hz_X12_next hT _ _ rfl) ?_
    exact k6 hc1
theorem q_next109 {D : zD} {T : zT} (hT : hTab T) (hO : vOK T) {N : Nat} {h : zH} {Q : zR → Prop} (B : Nat → Int) (n : Nat) (x : Int) (hv0 : zHv h) (hx : TXr B n h) (b16 : 0 ≤ (h 121 16).2 ∧ (h 121 16).2 ≤ 900) (b15 : 0 ≤ (h 121 15).2 ∧ (h 121 15).2 ≤ 900) (bl : 0 ≤ lk B n ((h 121 16).2) ∧ lk B n ((h 121 16).2) ≤ 255) (b19 : -1 ≤ (h 121 19).2 ∧ (h 121 19).2 ≤ 1099511627776)
    (k0 : ((iL ((lk B n ((h 121 16).2)))) = 0) → Q (zset h 121 18 (0, ((h 121 16).2 - (h 121 15).2)), none))
    (k1 : ((iL ((lk B n ((h 121 16).2)))) ≠ 0) → (((h 121 16).2 - (h 121 15).2) < 8) → vP D T N 284 109 (zset (zset h 121 19 (1, ((((h 121 19).2 * 32) + (lk B n ((h 121 16).2))) - 96))) 121 16 (0, ((h 121 16).2 + 1))) [some (2, 121), some (0, x)] [] Q)
    (k2 : ((iL ((lk B n ((h 121 16).2)))) ≠ 0) → (8 ≤ ((h 121 16).2 - (h 121 15).2)) → vP D T N 284 109 (zset (zset h 121 19 (1, -1)) 121 16 (0, ((h 121 16).2 + 1))) [some (2, 121), some (0, x)] [] Q) :
    vP D T (N + 1) 284 109 h [some (2, 121), some (0, x)] [] Q := by
  refine v_loadS (v := (2, 121)) (hz_X12_next hT _ _ rfl) rfl rfl ?_
  refine v_load (v := (2, 121)) (hz_X12_next hT _ _ rfl) rfl rfl ?_
  refine v_getI (t := 0) (r := 121) (hz_X12_next hT _ _ rfl) rfl rfl rfl ?_
  refine v_call (w := 2) [some (2, 121), some (0, (h 121 16).2)] hO (hz_X12_next hT _ _ rfl) rfl rfl (r_look hT hO hx ((h 121 16).2) ?_)
  show vP D T N 284 117 h [some (2, 121), some (0, x)] [(0, (lk B n ((h 121 16).2)))] _
  refine v_call (w := 1) [some (0, (lk B n ((h 121 16).2)))] hO (hz_X12_next hT _ _ rfl) rfl rfl (r_letter hT hO ((lk B n ((h 121 16).2))) ?_)
  show vP D T N 284 120 h [some (2, 121), some (0, x)] [(0, (iL ((lk B n ((h 121 16).2)))))] _
  refine v_if (hz_X12_next hT _ _ rfl) (fun hc1 => ?_) (fun hc1 => ?_)
  · have hc1 : (iL ((lk B n ((h 121 16).2)))) = 0 := hc1
    refine v_load (v := (2, 121)) (hz_X12_next hT _ _ rfl) rfl rfl ?_
    refine v_load (v := (2, 121)) (hz_X12_next hT _ _ rfl) rfl rfl ?_
    refine v_getI (t := 0) (r := 121) (hz_X12_next hT _ _ rfl) rfl rfl rfl ?_
    refine v_load (v := (2, 121)) (hz_X12_next hT _ _ rfl) rfl rfl ?_
    refine v_getI (t := 0) (r := 121) (hz_X12_next hT _ _ rfl) rfl rfl rfl ?_
    refine v_bin (w := ((h 121 16).2 - (h 121 15).2)) (hz_X12_next hT _ _ rfl) (hq_sub (by omega) (by omega)) ?_
    refine v_putf (r := 121) hO (hz_X12_next hT _ _ rfl) rfl (fun hf2 => ?_)
    refine v_goto (hz_X12_next hT _ _ rfl) ?_
    refine v_ret0 (hz_X12_next hT _ _ rfl) ?_
    exact k0 hc1
  · have hc1 : (iL ((lk B n ((h 121 16).2)))) ≠ 0 := hc1
    refine v_load (v := (2, 121)) (hz_X12_next hT _ _ rfl) rfl rfl ?_
    refine v_load (v := (2, 121)) (hz_X12_next hT _ _ rfl) rfl rfl ?_
    refine v_getI (t := 0) (r := 121) (hz_X12_next hT _ _ rfl) rfl rfl rfl ?_
    refine v_load (v := (2, 121)) (hz_X12_next hT _ _ rfl) rfl rfl ?_
    refine v_getI (t := 0) (r := 121) (hz_X12_next hT _ _ rfl) rfl rfl rfl ?_
    refine v_bin (w := ((h 121 16).2 - (h 121 15).2)) (hz_X12_next hT _ _ rfl) (hq_sub (by omega) (by omega)) ?_
    refine v_push (8) (hz_X12_next hT _ _ rfl) rfl ?_
    refine v_ic (hz_X12_next hT _ _ rfl) (fun hc3 => ?_) (fun hc3 => ?_)
    · have hc3 : ((h 121 16).2 - (h 121 15).2) < 8 := hc3
      refine v_load (v := (2, 121)) (hz_X12_next hT _ _ rfl) rfl rfl ?_
      refine v_getI (t := 1) (r := 121) (hz_X12_next hT _ _ rfl) rfl rfl rfl ?_
      refine v_push (32) (hz_X12_next hT _ _ rfl) rfl ?_
      refine v_bin64 (w := ((h 121 19).2 * 32)) (hz_X12_next hT _ _ rfl) (vz_mulL (by omega) (by omega)) ?_
      refine v_load (v := (2, 121)) (hz_X12_next hT _ _ rfl) rfl rfl ?_
      refine v_load (v := (2, 121)) (hz_X12_next hT _ _ rfl) rfl rfl ?_
      refine v_getI (t := 0) (r := 121) (hz_X12_next hT _ _ rfl) rfl rfl rfl ?_
      refine v_call (w := 2) [some (2, 121), some (0, (h 121 16).2)] hO (hz_X12_next hT _ _ rfl) rfl rfl (r_look hT hO hx ((h 121 16).2) ?_)
      show vP D T N 284 154 h [some (2, 121), some (0, x)] [(0, (lk B n ((h 121 16).2))), (1, ((h 121 19).2 * 32)), (2, 121)] _
      refine v_i2l (hz_X12_next hT _ _ rfl) ?_
      refine v_bin64 (w := (((h 121 19).2 * 32) + (lk B n ((h 121 16).2)))) (hz_X12_next hT _ _ rfl) (vz_addL (by omega) (by omega)) ?_
      refine v_push (96) (hz_X12_next hT _ _ rfl) rfl ?_
      refine v_bin64 (w := ((((h 121 19).2 * 32) + (lk B n ((h 121 16).2))) - 96)) (hz_X12_next hT _ _ rfl) (vz_subL (by omega) (by omega)) ?_
      refine v_goto (hz_X12_next hT _ _ rfl) ?_
      refine v_putf (r := 121) hO (hz_X12_next hT _ _ rfl) rfl (fun hf4 => ?_)
      refine v_load (v := (2, 121)) (hz_X12_next hT _ _ rfl) rfl rfl ?_
      refine v_dup (hz_X12_next hT _ _ rfl) (Nat.ne_of_beq_eq_false rfl) ?_
      refine v_getf (v := (0, (h 121 16).2)) (r := 121) (hz_X12_next hT _ _ rfl) rfl rfl (fun hv_ => Eq.trans (zset_ne (fun c => absurd c.2 (by decide))) (hv0.at rfl)) ?_
      refine v_push (1) (hz_X12_next hT _ _ rfl) rfl ?_
      refine v_bin (w := ((h 121 16).2 + 1)) (hz_X12_next hT _ _ rfl) (hq_add (by omega) (by omega)) ?_
      refine v_putf (r := 121) hO (hz_X12_next hT _ _ rfl) rfl (fun hf5 => ?_)
      refine v_goto (hz_X12_next hT _ _ rfl) ?_
      exact k1 hc1 hc3
    · have hc3 : 8 ≤ ((h 121 16).2 - (h 121 15).2) := Int.not_lt.mp hc3
      refine v_push (-1) (hz_X12_next hT _ _ rfl) rfl ?_
      refine v_putf (r := 121) hO (hz_X12_next hT _ _ rfl) rfl (fun hf6 => ?_)
      refine v_load (v := (2, 121)) (hz_X12_next hT _ _ rfl) rfl rfl ?_
      refine v_dup (hz_X12_next hT _ _ rfl) (Nat.ne_of_beq_eq_false rfl) ?_
      refine v_getf (v := (0, (h 121 16).2)) (r := 121) (hz_X12_next hT _ _ rfl) rfl rfl (fun hv_ => Eq.trans (zset_ne (fun c => absurd c.2 (by decide))) (hv0.at rfl)) ?_
      refine v_push (1) (hz_X12_next hT _ _ rfl) rfl ?_
      refine v_bin (w := ((h 121 16).2 + 1)) (hz_X12_next hT _ _ rfl) (hq_add (by omega) (by omega)) ?_
      refine v_putf (r := 121) hO (hz_X12_next hT _ _ rfl) rfl (fun hf7 => ?_)
      refine v_goto (hz_X12_next hT _ _ rfl) ?_
      exact k2 hc1 hc3
theorem q_next210 {D : zD} {T : zT} (hT : hTab T) (hO : vOK T) {N : Nat} {h : zH} {Q : zR → Prop} (B : Nat → Int) (n : Nat) (x : Int) (hv0 : zHv h) (hx : TXr B n h) (b16 : 0 ≤ (h 121 16).2 ∧ (h 121 16).2 ≤ 900) (b15 : 0 ≤ (h 121 15).2 ∧ (h 121 15).2 ≤ 900) (bl : 0 ≤ lk B n ((h 121 16).2) ∧ lk B n ((h 121 16).2) ≤ 255) (b17 : 0 ≤ (h 121 17).2 ∧ (h 121 17).2 ≤ 9999)
    (k0 : ((iD ((lk B n ((h 121 16).2)))) = 0) → (4 < ((h 121 16).2 - (h 121 15).2)) → Q (zset h 121 14 (0, 4), none))
    (k1 : ((iD ((lk B n ((h 121 16).2)))) = 0) → (((h 121 16).2 - (h 121 15).2) ≤ 4) → Q (zset h 121 14 (0, 2), none))
    (k2 : ((iD ((lk B n ((h 121 16).2)))) ≠ 0) → (((h 121 16).2 - (h 121 15).2) < 4) → vP D T N 284 210 (zset (zset h 121 17 (0, (((10 * (h 121 17).2) + (lk B n ((h 121 16).2))) - 48))) 121 16 (0, ((h 121 16).2 + 1))) [some (2, 121), some (0, x)] [] Q)
    (k3 : ((iD ((lk B n ((h 121 16).2)))) ≠ 0) → (4 ≤ ((h 121 16).2 - (h 121 15).2)) → vP D T N 284 210 (zset h 121 16 (0, ((h 121 16).2 + 1))) [some (2, 121), some (0, x)] [] Q) :
    vP D T (N + 1) 284 210 h [some (2, 121), some (0, x)] [] Q := by
  refine v_loadS (v := (2, 121)) (hz_X12_next hT _ _ rfl) rfl rfl ?_
  refine v_load (v := (2, 121)) (hz_X12_next hT _ _ rfl) rfl rfl ?_
  refine v_getI (t := 0) (r := 121) (hz_X12_next hT _ _ rfl) rfl rfl rfl ?_
  refine v_call (w := 2) [some (2, 121), some (0, (h 121 16).2)] hO (hz_X12_next hT _ _ rfl) rfl rfl (r_look hT hO hx ((h 121 16).2) ?_)
  show vP D T N 284 218 h [some (2, 121), some (0, x)] [(0, (lk B n ((h 121 16).2)))] _
  refine v_call (w := 1) [some (0, (lk B n ((h 121 16).2)))] hO (hz_X12_next hT _ _ rfl) rfl rfl (r_digit hT hO ((lk B n ((h 121 16).2))) ?_)
  show vP D T N 284 221 h [some (2, 121), some (0, x)] [(0, (iD ((lk B n ((h 121 16).2)))))] _
  refine v_if (hz_X12_next hT _ _ rfl) (fun hc1 => ?_) (fun hc1 => ?_)
  · have hc1 : (iD ((lk B n ((h 121 16).2)))) = 0 := hc1
    refine v_load (v := (2, 121)) (hz_X12_next hT _ _ rfl) rfl rfl ?_
    refine v_load (v := (2, 121)) (hz_X12_next hT _ _ rfl) rfl rfl ?_
    refine v_getI (t := 0) (r := 121) (hz_X12_next hT _ _ rfl) rfl rfl rfl ?_
    refine v_load (v := (2, 121)) (hz_X12_next hT _ _ rfl) rfl rfl ?_
    refine v_getI (t := 0) (r := 121) (hz_X12_next hT _ _ rfl) rfl rfl rfl ?_
    refine v_bin (w := ((h 121 16).2 - (h 121 15).2)) (hz_X12_next hT _ _ rfl) (hq_sub (by omega) (by omega)) ?_
    refine v_push (4) (hz_X12_next hT _ _ rfl) rfl ?_
    refine v_ic (hz_X12_next hT _ _ rfl) (fun hc2 => ?_) (fun hc2 => ?_)
    · have hc2 : 4 < ((h 121 16).2 - (h 121 15).2) := hc2
      refine v_push (4) (hz_X12_next hT _ _ rfl) rfl ?_
      refine v_goto (hz_X12_next hT _ _ rfl) ?_
      refine v_putf (r := 121) hO (hz_X12_next hT _ _ rfl) rfl (fun hf3 => ?_)
      refine v_goto (hz_X12_next hT _ _ rfl) ?_
      refine v_ret0 (hz_X12_next hT _ _ rfl) ?_
      exact k0 hc1 hc2
    · have hc2 : ((h 121 16).2 - (h 121 15).2) ≤ 4 := Int.not_lt.mp hc2
      refine v_push (2) (hz_X12_next hT _ _ rfl) rfl ?_
      refine v_putf (r := 121) hO (hz_X12_next hT _ _ rfl) rfl (fun hf4 => ?_)
      refine v_goto (hz_X12_next hT _ _ rfl) ?_
      refine v_ret0 (hz_X12_next hT _ _ rfl) ?_
      exact k1 hc1 hc2
  · have hc1 : (iD ((lk B n ((h 121 16).2)))) ≠ 0 := hc1
    refine v_load (v := (2, 121)) (hz_X12_next hT _ _ rfl) rfl rfl ?_
    refine v_getI (t := 0) (r := 121) (hz_X12_next hT _ _ rfl) rfl rfl rfl ?_
    refine v_load (v := (2, 121)) (hz_X12_next hT _ _ rfl) rfl rfl ?_
    refine v_getI (t := 0) (r := 121) (hz_X12_next hT _ _ rfl) rfl rfl rfl ?_
    refine v_bin (w := ((h 121 16).2 - (h 121 15).2)) (hz_X12_next hT _ _ rfl) (hq_sub (by omega) (by omega)) ?_
    refine v_push (4) (hz_X12_next hT _ _ rfl) rfl ?_
    refine v_ic (hz_X12_next hT _ _ rfl) (fun hc5 => ?_) (fun hc5 => ?_)
    · have hc5 : ((h 121 16).2 - (h 121 15).2) < 4 := hc5
      refine v_load (v := (2, 121)) (hz_X12_next hT _ _ rfl) rfl rfl ?_
      refine v_push (10) (hz_X12_next hT _ _ rfl) rfl ?_
      refine v_load (v := (2, 121)) (hz_X12_next hT _ _ rfl) rfl rfl ?_
      refine v_getI (t := 0) (r := 121) (hz_X12_next hT _ _ rfl) rfl rfl rfl ?_
      refine v_bin (w := (10 * (h 121 17).2)) (hz_X12_next hT _ _ rfl) (hq_mul (by omega) (by omega)) ?_
      refine v_load (v := (2, 121)) (hz_X12_next hT _ _ rfl) rfl rfl ?_
      refine v_load (v := (2, 121)) (hz_X12_next hT _ _ rfl) rfl rfl ?_
      refine v_getI (t := 0) (r := 121) (hz_X12_next hT _ _ rfl) rfl rfl rfl ?_
      refine v_call (w := 2) [some (2, 121), some (0, (h 121 16).2)] hO (hz_X12_next hT _ _ rfl) rfl rfl (r_look hT hO hx ((h 121 16).2) ?_)
      show vP D T N 284 253 h [some (2, 121), some (0, x)] [(0, (lk B n ((h 121 16).2))), (0, (10 * (h 121 17).2)), (2, 121)] _
      refine v_bin (w := ((10 * (h 121 17).2) + (lk B n ((h 121 16).2)))) (hz_X12_next hT _ _ rfl) (hq_add (by omega) (by omega)) ?_
      refine v_push (48) (hz_X12_next hT _ _ rfl) rfl ?_
      refine v_bin (w := (((10 * (h 121 17).2) + (lk B n ((h 121 16).2))) - 48)) (hz_X12_next hT _ _ rfl) (hq_sub (by omega) (by omega)) ?_
      refine v_putf (r := 121) hO (hz_X12_next hT _ _ rfl) rfl (fun hf6 => ?_)
      refine v_load (v := (2, 121)) (hz_X12_next hT _ _ rfl) rfl rfl ?_
      refine v_dup (hz_X12_next hT _ _ rfl) (Nat.ne_of_beq_eq_false rfl) ?_
      refine v_getf (v := (0, (h 121 16).2)) (r := 121) (hz_X12_next hT _ _ rfl) rfl rfl (fun hv_ => Eq.trans (zset_ne (fun c => absurd c.2 (by decide))) (hv0.at rfl)) ?_
      refine v_push (1) (hz_X12_next hT _ _ rfl) rfl ?_
      refine v_bin (w := ((h 121 16).2 + 1)) (hz_X12_next hT _ _ rfl) (hq_add (by omega) (by omega)) ?_
      refine v_putf (r := 121) hO (hz_X12_next hT _ _ rfl) rfl (fun hf7 => ?_)
      refine v_goto (hz_X12_next hT _ _ rfl) ?_
      exact k2 hc1 hc5
    · have hc5 : 4 ≤ ((h 121 16).2 - (h 121 15).2) := Int.not_lt.mp hc5
      refine v_load (v := (2, 121)) (hz_X12_next hT _ _ rfl) rfl rfl ?_
      refine v_dup (hz_X12_next hT _ _ rfl) (Nat.ne_of_beq_eq_false rfl) ?_
      refine v_getI (t := 0) (r := 121) (hz_X12_next hT _ _ rfl) rfl rfl rfl ?_
      refine v_push (1) (hz_X12_next hT _ _ rfl) rfl ?_
      refine v_bin (w := ((h 121 16).2 + 1)) (hz_X12_next hT _ _ rfl) (hq_add (by omega) (by omega)) ?_
      refine v_putf (r := 121) hO (hz_X12_next hT _ _ rfl) rfl (fun hf8 => ?_)
      refine v_goto (hz_X12_next hT _ _ rfl) ?_
      exact k3 hc1 hc5

/-! the reference's next(): what it leaves, and that it changes nothing else -/
def nF (h0 h : zH) : Prop := ∀ a b, ¬ (a = 121 ∧ 14 ≤ b ∧ b ≤ 19) → h a b = h0 a b
theorem nF.rfl {h : zH} : nF h h := fun _ _ _ => Eq.refl _
theorem nF.z {h0 h : zH} {k : Nat} {v : zV} (h1 : 14 ≤ k) (h2 : k ≤ 19) (g : nF h0 h) : nF h0 (zset h 121 k v) := fun a b hn => (zset_ne (fun c => hn ⟨c.1, by omega, by omega⟩)).trans (g a b hn)
def NT (B : Nat → Int) (k : Int) (s e : Nat) (h : zH) : Prop := h 121 14 = (0, k) ∧ h 121 15 = (0, (s : Int)) ∧ h 121 16 = (0, (e : Int)) ∧ (k = 1 → h 121 18 = (0, (e : Int) - (s : Int)) ∧ h 121 19 = (1, wv B s (e - s))) ∧ (k = 2 → h 121 17 = (0, nv B s (e - s))) ∧ (k = 3 → h 121 17 = (0, B s))
def Nx (B : Nat → Int) (n p : Nat) (h0 : zH) (r : zR) : Prop := r.2 = none ∧ ∃ k s e, Tk B n p k s e ∧ NT B k s e r.1 ∧ nF h0 r.1
theorem Nx_mk {B : Nat → Int} {n p : Nat} {h0 h : zH} {k : Int} {s e : Nat} (hT : Tk B n p k s e) (hN : NT B k s e h) (hF : nF h0 h) : Nx B n p h0 (h, none) := ⟨rfl, k, s, e, hT, hN, hF⟩
def NW (B : Nat → Int) (n s : Nat) (h0 : zH) (j : Nat) (h : zH) : Prop := TXr B n h ∧ nF h0 h ∧ h 121 14 = (0, 1) ∧ h 121 15 = (0, (s : Int)) ∧ h 121 16 = (0, ((s + j : Nat) : Int)) ∧ h 121 19 = (1, wv B s j) ∧ ∀ q, s ≤ q → q < s + j → q < n ∧ iL (B q) ≠ 0
def NN (B : Nat → Int) (n s : Nat) (h0 : zH) (j : Nat) (h : zH) : Prop := TXr B n h ∧ nF h0 h ∧ h 121 15 = (0, (s : Int)) ∧ h 121 16 = (0, ((s + j : Nat) : Int)) ∧ h 121 17 = (0, nv B s (min j 4)) ∧ ∀ q, s ≤ q → q < s + j → q < n ∧ iD (B q) ≠ 0
theorem run_ext {f : Int → Int} {B : Nat → Int} {n s j : Nat} (hq : ∀ q, s ≤ q → q < s + j → q < n ∧ f (B q) ≠ 0) (hc : s + j < n ∧ f (B (s + j)) ≠ 0) : ∀ q, s ≤ q → q < s + (j + 1) → q < n ∧ f (B q) ≠ 0 := fun q h1 h2 => by
  rcases Nat.lt_or_ge q (s + j) with h | h
  · exact hq q h1 h
  · have e : q = s + j := by omega
    rw [e]
    exact hc
theorem run_le {f : Int → Int} {B : Nat → Int} {n s j : Nat} (hs : s ≤ n) (hq : ∀ q, s ≤ q → q < s + j → q < n ∧ f (B q) ≠ 0) : s + j ≤ n := by
  rcases j with _ | j
  · exact hs
  · have := (hq (s + j) (by omega) (by omega)).1
    omega
theorem next_word {D : zD} {T : zT} (hT : hTab T) (hO : vOK T) {B : Nat → Int} {n p s : Nat} {h0 : zH} (hs : Rn iB B n p s) (hsn : s < n) (hL : iL (B s) ≠ 0) (x : Int) : ∀ N h l, (l = [some (2, 121), some (0, x)] ∧ ∃ j, NW B n s h0 j h) → vP D T N 284 109 h l [] (Nx B n p h0) := by
  refine vP_loop (fun h l => l = [some (2, 121), some (0, x)] ∧ ∃ j, NW B n s h0 j h) ?_
  rintro N h l ⟨rfl, j, hx, hf, h14, h15, h16, h19, hq⟩ ih
  have hjn : s + j ≤ n := run_le (Nat.le_of_lt hsn) hq
  have e16 : (h 121 16).2 = ((s + j : Nat) : Int) := congrArg Prod.snd h16
  have e15 : (h 121 15).2 = (s : Int) := congrArg Prod.snd h15
  have e19 : (h 121 19).2 = wv B s j := congrArg Prod.snd h19
  have hb := hx.2.1
  have b9 := hb.1
  have bw := wv_bd (l := j) (fun q h1 h2 => iL_ne (hq q h1 h2).2)
  refine vP_hv (fun hv => q_next109 hT hO B n x hv hx ⟨by omega, by omega⟩ ⟨by omega, by omega⟩ (lk_bd hb _) ⟨by omega, by omega⟩ ?_ ?_ ?_)
  · intro c1
    rw [e16] at c1
    have hend : s + j < n → iL (B (s + j)) = 0 := fun hlt => Classical.byContradiction fun hc => (kL hb).mpr ⟨hlt, hc⟩ c1
    refine Nx_mk (k := 1) (s := s) (e := s + j) ⟨hs, Or.inr ⟨hsn, Or.inl ⟨hL, rfl, Nat.le_add_right _ _, hq, hend⟩⟩⟩ ⟨(zset_ne (by decide)).trans h14, (zset_ne (by decide)).trans h15, (zset_ne (by decide)).trans h16, fun _ => ⟨?_, ?_⟩, fun c => absurd c (by decide), fun c => absurd c (by decide)⟩ (hf.z (by decide) (by decide))
    · rw [e16, e15]
      exact zset_same
    · rw [Nat.add_sub_cancel_left]
      exact (zset_ne (by decide)).trans h19
  · intro c1 c2
    rw [e16] at c1
    have hc := (kL hb).mp c1
    have e : (h 121 19).2 * 32 + lk B n ((h 121 16).2) - 96 = wv B s (j + 1) := by
      have hr := iL_ne hc.2
      rw [e19, e16, lk_in hc.1, vU_nn (by omega)]
      unfold wv
      rw [if_pos (by omega), if_pos (by omega)]
      show pv B s j * 32 + B (s + j) - 96 = 32 * pv B s j + (B (s + j) - 96)
      omega
    refine ih _ _ ⟨rfl, j + 1, (hx.z (by decide)).z (by decide), (hf.z (by decide) (by decide)).z (by decide) (by decide), (zset_ne (by decide)).trans ((zset_ne (by decide)).trans h14), (zset_ne (by decide)).trans ((zset_ne (by decide)).trans h15), zset_same.trans (congrArg (Prod.mk (0 : Nat)) (by rw [e16]; omega)), (zset_ne (by decide)).trans (zset_same.trans (congrArg (Prod.mk (1 : Nat)) e)), run_ext hq hc⟩
  · intro c1 c2
    rw [e16] at c1
    have hc := (kL hb).mp c1
    have e : (-1 : Int) = wv B s (j + 1) := (if_neg (by omega)).symm
    refine ih _ _ ⟨rfl, j + 1, (hx.z (by decide)).z (by decide), (hf.z (by decide) (by decide)).z (by decide) (by decide), (zset_ne (by decide)).trans ((zset_ne (by decide)).trans h14), (zset_ne (by decide)).trans ((zset_ne (by decide)).trans h15), zset_same.trans (congrArg (Prod.mk (0 : Nat)) (by rw [e16]; omega)), (zset_ne (by decide)).trans (zset_same.trans (congrArg (Prod.mk (1 : Nat)) e)), run_ext hq hc⟩
theorem next_num {D : zD} {T : zT} (hT : hTab T) (hO : vOK T) {B : Nat → Int} {n p s : Nat} {h0 : zH} (hs : Rn iB B n p s) (hsn : s < n) (hL : iL (B s) = 0) (hD : iD (B s) ≠ 0) (x : Int) : ∀ N h l, (l = [some (2, 121), some (0, x)] ∧ ∃ j, NN B n s h0 j h) → vP D T N 284 210 h l [] (Nx B n p h0) := by
  refine vP_loop (fun h l => l = [some (2, 121), some (0, x)] ∧ ∃ j, NN B n s h0 j h) ?_
  rintro N h l ⟨rfl, j, hx, hf, h15, h16, h17, hq⟩ ih
  have hjn : s + j ≤ n := run_le (Nat.le_of_lt hsn) hq
  have e16 : (h 121 16).2 = ((s + j : Nat) : Int) := congrArg Prod.snd h16
  have e15 : (h 121 15).2 = (s : Int) := congrArg Prod.snd h15
  have e17 : (h 121 17).2 = nv B s (min j 4) := congrArg Prod.snd h17
  have hb := hx.2.1
  have b9 := hb.1
  have bw := nv_bd (B := B) (s := s) (l := min j 4) (fun q h1 h2 => iD_ne (hq q h1 (by omega)).2)
  have bp := p10_le (min j 4) (by omega)
  refine vP_hv (fun hv => q_next210 hT hO B n x hv hx ⟨by omega, by omega⟩ ⟨by omega, by omega⟩ (lk_bd hb _) ⟨by omega, by omega⟩ ?_ ?_ ?_ ?_)
  · intro c1 c2
    rw [e16] at c1
    have hend : s + j < n → iD (B (s + j)) = 0 := fun hlt => Classical.byContradiction fun hc => (kD hb).mpr ⟨hlt, hc⟩ c1
    refine Nx_mk (k := 4) (s := s) (e := s + j) ⟨hs, Or.inr ⟨hsn, Or.inr (Or.inl ⟨hL, hD, (if_neg (by omega)).symm, Nat.le_add_right _ _, hq, hend⟩)⟩⟩ ⟨zset_same, (zset_ne (by decide)).trans h15, (zset_ne (by decide)).trans h16, fun c => absurd c (by decide), fun c => absurd c (by decide), fun c => absurd c (by decide)⟩ (hf.z (by decide) (by decide))
  · intro c1 c2
    rw [e16] at c1
    have hend : s + j < n → iD (B (s + j)) = 0 := fun hlt => Classical.byContradiction fun hc => (kD hb).mpr ⟨hlt, hc⟩ c1
    refine Nx_mk (k := 2) (s := s) (e := s + j) ⟨hs, Or.inr ⟨hsn, Or.inr (Or.inl ⟨hL, hD, (if_pos (by omega)).symm, Nat.le_add_right _ _, hq, hend⟩)⟩⟩ ⟨zset_same, (zset_ne (by decide)).trans h15, (zset_ne (by decide)).trans h16, fun c => absurd c (by decide), fun _ => ?_, fun c => absurd c (by decide)⟩ (hf.z (by decide) (by decide))
    have hm : min j 4 = j := by omega
    rw [Nat.add_sub_cancel_left]
    rw [hm] at h17
    exact (zset_ne (by decide)).trans h17
  · intro c1 c2
    rw [e16] at c1
    have hc := (kD hb).mp c1
    have hm : min j 4 = j := by omega
    have hm1 : min (j + 1) 4 = j + 1 := by omega
    have e : 10 * (h 121 17).2 + lk B n ((h 121 16).2) - 48 = nv B s (min (j + 1) 4) := by
      have hr := iD_ne hc.2
      rw [e17, e16, lk_in hc.1, vU_nn (by omega), hm, hm1]
      show 10 * nv B s j + B (s + j) - 48 = 10 * nv B s j + (B (s + j) - 48)
      omega
    refine ih _ _ ⟨rfl, j + 1, (hx.z (by decide)).z (by decide), (hf.z (by decide) (by decide)).z (by decide) (by decide), (zset_ne (by decide)).trans ((zset_ne (by decide)).trans h15), zset_same.trans (congrArg (Prod.mk (0 : Nat)) (by rw [e16]; omega)), (zset_ne (by decide)).trans (zset_same.trans (congrArg (Prod.mk (0 : Nat)) e)), run_ext hq hc⟩
  · intro c1 c2
    rw [e16] at c1
    have hc := (kD hb).mp c1
    have hm : min (j + 1) 4 = min j 4 := by omega
    refine ih _ _ ⟨rfl, j + 1, hx.z (by decide), hf.z (by decide) (by decide), (zset_ne (by decide)).trans h15, zset_same.trans (congrArg (Prod.mk (0 : Nat)) (by rw [e16]; omega)), (zset_ne (by decide)).trans (by rw [hm]; exact h17), run_ext hq hc⟩
theorem next_ok {D : zD} {T : zT} (hT : hTab T) (hO : vOK T) {N : Nat} {B : Nat → Int} {n p : Nat} {h : zH} (hx : TXr B n h) (hp : p ≤ n) (h16 : h 121 16 = (0, (p : Int))) : vP D T N 284 0 h [some (2, 121), none] [] (Nx B n p h) := by
  refine vP_hv (fun hv => q_next0 hT hO B n hv hx ?_)
  refine vP_loop (fun h' l => l = [some (2, 121), none] ∧ ∃ s, p ≤ s ∧ s ≤ n ∧ TXr B n h' ∧ nF h h' ∧ h' 121 15 = (0, (s : Int)) ∧ ∀ q, p ≤ q → q < s → q < n ∧ iB (B q) ≠ 0) ?_ N _ _ ⟨rfl, p, Nat.le_refl _, hp, hx.z (by decide), nF.rfl.z (by decide) (by decide), zset_same.trans (by rw [h16]), fun q h1 h2 => absurd h2 (by omega)⟩
  rintro N h' l ⟨rfl, s, hps, hsn, hx', hf, h15, hq⟩ ih
  have e15 : (h' 121 15).2 = (s : Int) := congrArg Prod.snd h15
  have e9 : (h' 121 9).2 = (n : Int) := congrArg Prod.snd hx'.1
  have hb := hx'.2.1
  have b9 := hb.1
  have blank : s < n → iB (B s) ≠ 0 → vP D T N 284 8 (zset h' 121 15 (0, ((h' 121 15).2 + 1))) [some (2, 121), none] [] (Nx B n p h) := fun c1 c2 => ih _ _ ⟨rfl, s + 1, by omega, by omega, hx'.z (by decide), hf.z (by decide) (by decide), zset_same.trans (congrArg (Prod.mk (0 : Nat)) (by rw [e15]; omega)), fun q h1 h2 => by
    rcases Nat.lt_or_ge q s with g | g
    · exact hq q h1 g
    · have e : q = s := by omega
      rw [e]
      exact ⟨c1, c2⟩⟩
  refine vP_hv (fun hv => q_next8 hT hO B n hv hx' ⟨by omega, by omega⟩ ?_ ?_ ?_ ?_ ?_ ?_ ?_)
  · intro c1 c2
    rw [e15, e9] at c1
    have c1 : s < n := by omega
    rw [e15, lk_in c1] at c2
    refine blank c1 ?_
    rw [← iB_vU (hb.2 s c1).1 (hb.2 s c1).2, c2]
    decide
  · intro c1 _ c2
    rw [e15, e9] at c1
    have c1 : s < n := by omega
    rw [e15, lk_in c1] at c2
    refine blank c1 ?_
    rw [← iB_vU (hb.2 s c1).1 (hb.2 s c1).2, c2]
    decide
  · intro c1 c2 c3 c4 c5 c6
    rw [e15, e9] at c1
    have c1 : s < n := by omega
    have bs := hb.2 s c1
    rw [e15, lk_in c1] at c2 c3 c4 c5 c6
    rw [iL_vU bs.1 bs.2] at c4
    rw [iD_vU bs.1 bs.2] at c5
    rw [iS_vU bs.1 bs.2] at c6
    have hR : Rn iB B n p s := ⟨hps, hq, fun _ => by
      rw [← iB_vU bs.1 bs.2]
      unfold iB
      exact if_neg (by omega)⟩
    refine Nx_mk (k := 4) (s := s) (e := s + 1) ⟨hR, Or.inr ⟨c1, Or.inr (Or.inr ⟨c4, c5, (if_neg (fun f => f c6)).symm, rfl⟩)⟩⟩ ⟨zset_same, ?_, ?_, fun c => absurd c (by decide), fun c => absurd c (by decide), fun c => absurd c (by decide)⟩ ((((hf.z (by decide) (by decide)).z (by decide) (by decide)).z (by decide) (by decide)).z (by decide) (by decide))
    · exact (zset_ne (by decide)).trans ((zset_ne (by decide)).trans ((zset_ne (by decide)).trans ((zset_ne (by decide)).trans h15)))
    · exact (zset_ne (by decide)).trans ((zset_ne (by decide)).trans (zset_same.trans (congrArg (Prod.mk (0 : Nat)) (by rw [e15]; omega))))
  · intro c1 c2 c3 c4 c5 c6
    rw [e15, e9] at c1
    have c1 : s < n := by omega
    have bs := hb.2 s c1
    rw [e15, lk_in c1] at c2 c3 c4 c5 c6
    rw [iL_vU bs.1 bs.2] at c4
    rw [iD_vU bs.1 bs.2] at c5
    rw [iS_vU bs.1 bs.2] at c6
    have hR : Rn iB B n p s := ⟨hps, hq, fun _ => by
      rw [← iB_vU bs.1 bs.2]
      unfold iB
      exact if_neg (by omega)⟩
    refine Nx_mk (k := 3) (s := s) (e := s + 1) ⟨hR, Or.inr ⟨c1, Or.inr (Or.inr ⟨c4, c5, (if_pos c6).symm, rfl⟩)⟩⟩ ⟨zset_same, ?_, ?_, fun c => absurd c (by decide), fun c => absurd c (by decide), fun _ => ?_⟩ ((((hf.z (by decide) (by decide)).z (by decide) (by decide)).z (by decide) (by decide)).z (by decide) (by decide))
    · exact (zset_ne (by decide)).trans ((zset_ne (by decide)).trans ((zset_ne (by decide)).trans ((zset_ne (by decide)).trans h15)))
    · exact (zset_ne (by decide)).trans ((zset_ne (by decide)).trans (zset_same.trans (congrArg (Prod.mk (0 : Nat)) (by rw [e15]; omega))))
    · refine (zset_ne (by decide)).trans (zset_same.trans (congrArg (Prod.mk (0 : Nat)) ?_))
      rw [e15, lk_in c1]
      refine vU_nn ?_
      unfold iS at c6
      by_cases g : B s = 59 ∨ B s = 60 ∨ B s = 62 ∨ B s = 61
      · omega
      · rw [if_neg g] at c6
        exact absurd rfl c6
  · intro c1 c2 c3 c4 c5
    rw [e15, e9] at c1
    have c1 : s < n := by omega
    have bs := hb.2 s c1
    rw [e15, lk_in c1] at c2 c3 c4 c5
    rw [iL_vU bs.1 bs.2] at c4
    rw [iD_vU bs.1 bs.2] at c5
    have hR : Rn iB B n p s := ⟨hps, hq, fun _ => by
      rw [← iB_vU bs.1 bs.2]
      unfold iB
      exact if_neg (by omega)⟩
    exact next_num hT hO hR c1 c4 c5 _ N _ _ ⟨rfl, 0, (hx'.z (by decide)).z (by decide), (hf.z (by decide) (by decide)).z (by decide) (by decide), (zset_ne (by decide)).trans ((zset_ne (by decide)).trans h15), (zset_ne (by decide)).trans (zset_same.trans (congrArg (Prod.mk (0 : Nat)) (by rw [e15]; omega))), zset_same, fun q h1 h2 => absurd h2 (by omega)⟩
  · intro c1 c2 c3 c4
    rw [e15, e9] at c1
    have c1 : s < n := by omega
    have bs := hb.2 s c1
    rw [e15, lk_in c1] at c2 c3 c4
    rw [iL_vU bs.1 bs.2] at c4
    have hR : Rn iB B n p s := ⟨hps, hq, fun _ => by
      rw [← iB_vU bs.1 bs.2]
      unfold iB
      exact if_neg (by omega)⟩
    exact next_word hT hO hR c1 c4 _ N _ _ ⟨rfl, 0, ((hx'.z (by decide)).z (by decide)).z (by decide), ((hf.z (by decide) (by decide)).z (by decide) (by decide)).z (by decide) (by decide), (zset_ne (by decide)).trans zset_same, (zset_ne (by decide)).trans ((zset_ne (by decide)).trans ((zset_ne (by decide)).trans h15)), (zset_ne (by decide)).trans ((zset_ne (by decide)).trans (zset_same.trans (congrArg (Prod.mk (0 : Nat)) (by rw [e15]; omega)))), zset_same, fun q h1 h2 => absurd h2 (by omega)⟩
  · intro c1
    rw [e15, e9] at c1
    have c1 : n ≤ s := by omega
    have e : s = n := by omega
    refine Nx_mk (k := 0) (s := s) (e := s) ⟨⟨hps, hq, fun c => absurd c (by omega)⟩, Or.inl ⟨c1, rfl, rfl⟩⟩ ⟨zset_same, (zset_ne (by decide)).trans ((zset_ne (by decide)).trans h15), (zset_ne (by decide)).trans (zset_same.trans (congrArg (Prod.mk (0 : Nat)) e15)), fun c => absurd c (by decide), fun c => absurd c (by decide), fun c => absurd c (by decide)⟩ ((hf.z (by decide) (by decide)).z (by decide) (by decide))
