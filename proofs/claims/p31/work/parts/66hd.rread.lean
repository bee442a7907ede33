/-! THE REFERENCE, where it stands in the tokens; what it blames; the LAND it reads (block 4) -/
def rX (B : Nat → Int) (n m : Nat) (τ : PT) (i : Nat) (h : zH) : Prop := rS B n i h ∧ i ≤ m ∧ Tks B n m τ
def rE (e : Er) (h : zH) : Prop := h 121 12 = (0, e.1) ∧ 0 < e.1 ∧ h 121 13 = (0, e.2)
section RX
variable {B : Nat → Int} {n m i : Nat} {τ : PT} {h : zH}
theorem rX.b (g : rX B n m τ i h) : h 121 12 = (0, 0) := g.1.2.1
theorem rX.all (g : rX B n m τ i h) : ∃ (k : Int) (s e : Nat) (v : Int), TS B n i k s e ∧ VC B k s e v ∧ τ 0 i = k ∧ τ 1 i = (s : Int) ∧ τ 2 i = (e : Int) ∧ τ 3 i = v ∧ τ 4 i = wv B s (e - s) ∧ NT B k s e h := by
  obtain ⟨⟨_, _, k, s, e, h1, h2⟩, hi, hK⟩ := g
  obtain ⟨k', s', e', v, a1, a2, a3, a4, a5, a6, a7, _⟩ := hK.2.1 i hi
  obtain ⟨e1, e2, e3⟩ := a1.uniq h1
  subst e1 e2 e3
  exact ⟨_, _, _, v, h1, a2, a3, a4, a5, a6, a7, h2⟩
theorem rX.tk (g : rX B n m τ i h) : h 121 14 = (0, τ 0 i) := by
  obtain ⟨k, s, e, v, _, _, a3, _, _, _, _, a8⟩ := g.all
  rw [a3]; exact a8.1
theorem rX.ps (g : rX B n m τ i h) : h 121 15 = (0, τ 1 i) := by
  obtain ⟨k, s, e, v, _, _, _, a4, _, _, _, a8⟩ := g.all
  rw [a4]; exact a8.2.1
theorem rX.ln (g : rX B n m τ i h) (h1 : τ 0 i = 1) : h 121 18 = (0, τ 2 i - τ 1 i) := by
  obtain ⟨k, s, e, v, _, _, a3, a4, a5, _, _, a8⟩ := g.all
  rw [a4, a5]
  exact (a8.2.2.2.1 (a3.symm.trans h1)).1
theorem rX.wd (g : rX B n m τ i h) (h1 : τ 0 i = 1) : h 121 19 = (1, τ 4 i) := by
  obtain ⟨k, s, e, v, _, _, a3, _, _, _, a7, a8⟩ := g.all
  rw [a7]
  exact (a8.2.2.2.1 (a3.symm.trans h1)).2
theorem rX.n2 (g : rX B n m τ i h) (h1 : τ 0 i = 2) : h 121 17 = (0, τ 3 i) := by
  obtain ⟨k, s, e, v, _, a2, a3, _, _, a6, _, a8⟩ := g.all
  have ek := a3.symm.trans h1
  rw [a6, a2.2.1 ek]
  exact a8.2.2.2.2.1 ek
theorem rX.n3 (g : rX B n m τ i h) (h1 : τ 0 i = 3) : h 121 17 = (0, τ 3 i) := by
  obtain ⟨k, s, e, v, _, a2, a3, _, _, a6, _, a8⟩ := g.all
  have ek := a3.symm.trans h1
  rw [a6, a2.2.2 ek]
  exact a8.2.2.2.2.2 ek
theorem rX.eq {h' : zH} (f : ∀ a b, (a = 121 ∧ 9 ≤ b ∧ b ≤ 19) ∨ a = 125 → h' a b = h a b) (g : rX B n m τ i h) : rX B n m τ i h' := by
  obtain ⟨⟨⟨x1, x2, x3⟩, hb, k, s, e, h1, n1, n2, n3, n4, n5, n6⟩, hi, hK⟩ := g
  have f1 : ∀ b, 9 ≤ b → b ≤ 19 → h' 121 b = h 121 b := fun b b1 b2 => f 121 b (Or.inl ⟨rfl, b1, b2⟩)
  exact ⟨⟨⟨(f1 9 (by decide) (by decide)).trans x1, x2, fun q hq => (f 125 q (Or.inr rfl)).trans (x3 q hq)⟩, (f1 12 (by decide) (by decide)).trans hb, k, s, e, h1, (f1 14 (by decide) (by decide)).trans n1, (f1 15 (by decide) (by decide)).trans n2, (f1 16 (by decide) (by decide)).trans n3, fun c => ⟨(f1 18 (by decide) (by decide)).trans (n4 c).1, (f1 19 (by decide) (by decide)).trans (n4 c).2⟩, fun c => (f1 17 (by decide) (by decide)).trans (n5 c), fun c => (f1 17 (by decide) (by decide)).trans (n6 c)⟩, hi, hK⟩
theorem rX.z {r k : Nat} {v : zV} (hr : r ≠ 121 ∧ r ≠ 125) (g : rX B n m τ i h) : rX B n m τ i (zset h r k v) := g.eq (fun a b c => zset_ne (fun d => by omega))
theorem rX.zf {k : Nat} {v : zV} (hk : k < 9 ∨ 19 < k) (g : rX B n m τ i h) : rX B n m τ i (zset h 121 k v) := g.eq (fun a b c => zset_ne (fun d => by omega))
theorem rE.z {e : Er} {r k : Nat} {v : zV} (hr : r ≠ 121) (g : rE e h) : rE e (zset h r k v) := ⟨(zset_ne (fun c => hr c.1.symm)).trans g.1, g.2.1, (zset_ne (fun c => hr c.1.symm)).trans g.2.2⟩
theorem rE.zf {e : Er} {k : Nat} {v : zV} (hk : k < 9 ∨ 19 < k) (g : rE e h) : rE e (zset h 121 k v) := ⟨(zset_ne (fun c => by omega)).trans g.1, g.2.1, (zset_ne (fun c => by omega)).trans g.2.2⟩
theorem eF_k {f : Int} (h1 : τ 0 i = 1) : eF τ i f = (f, τ 1 i) := by
  unfold eF
  rw [fk_n (by omega)]
end RX
section RC
variable {D : zD} {T : zT} {N : Nat} {h : zH} {Q : zR → Prop} {B : Nat → Int} {n m i : Nat} {τ : PT}
theorem rx_next (hT : hTab T) (hO : vOK T) (hX : rX B n m τ i h) (h0 : τ 0 i ≠ 0) (h4 : τ 0 i ≠ 4) (k : ∀ g, qF h g → rX B n m τ (i + 1) g → Q (g, none)) : vP D T N 284 0 h [some (2, 121), none] [] Q := by
  have e := congrArg Prod.snd hX.tk
  refine vP_Q (fun r hr => ?_) (rS_next hT hO hX.1 (by rw [e]; exact h0) (by rw [e]; exact h4))
  obtain ⟨g, v⟩ := r
  obtain ⟨h1, h2, h3⟩ := hr
  have h1 : v = none := h1
  subst h1
  exact k g h3 ⟨h2, tk_n hX.2.2 hX.2.1 h0 h4, hX.2.2⟩
theorem rx_must (hT : hTab T) (hO : vOK T) (b : Int) (hX : rX B n m τ i h) (hb : b ≠ 0 → τ 0 i ≠ 0 ∧ τ 0 i ≠ 4) (k1 : ∀ g, qF h g → b ≠ 0 → rX B n m τ (i + 1) g → Q (g, none)) (k2 : ∀ g, qF h g → b = 0 → rE (eF τ i 2) g → Q (g, none)) : vP D T N 282 0 h [some (2, 121), some (0, b)] [] Q := by
  have e := congrArg Prod.snd hX.tk
  have e2 := congrArg Prod.snd hX.ps
  have e : (h 121 14).2 = τ 0 i := e
  have e2 : (h 121 15).2 = τ 1 i := e2
  refine vP_Q (fun r hr => ?_) (r_must hT hO b hX.1 (fun c => by rw [e]; exact hb c))
  obtain ⟨g, v⟩ := r
  obtain ⟨h1, h2, h3⟩ := hr
  have h1 : v = none := h1
  subst h1
  rcases h3 with ⟨c, d⟩ | ⟨c, d⟩
  · exact k1 g h2 c ⟨d, tk_n hX.2.2 hX.2.1 (hb c).1 (hb c).2, hX.2.2⟩
  · rw [e, e2] at d
    exact k2 g h2 c d
theorem rx_mustB (hT : hTab T) (hO : vOK T) (b : Int) {e : Er} (hB : rE e h) (k : Q (h, none)) : vP D T N 282 0 h [some (2, 121), some (0, b)] [] Q := vP_Q (fun r hr => by
  have hr : r = (h, none) := hr
  rw [hr]
  exact k) (r_mustB hT hO b (by rw [hB.1]; exact hB.2.1))
theorem rx_num (hT : hTab T) (hO : vOK T) (u v : Int) (hX : rX B n m τ i h) (k1 : ∀ g x, qF h g → pNum τ u v i = .inr (x, i + 1) → u ≤ x → x ≤ v → rX B n m τ (i + 1) g → Q (g, some (0, x))) (k2 : ∀ g e, qF h g → pNum τ u v i = .inl e → rE e g → Q (g, some (0, 0))) : vP D T N 300 0 h [some (2, 121), some (0, u), some (0, v), none] [] Q := by
  have e : (h 121 14).2 = τ 0 i := congrArg Prod.snd hX.tk
  have e2 : (h 121 15).2 = τ 1 i := congrArg Prod.snd hX.ps
  refine vP_Q (fun r hr => ?_) (r_num hT hO u v hX.1)
  obtain ⟨g, w⟩ := r
  obtain ⟨h2, h3⟩ := hr
  rw [e, e2] at h3
  rcases h3 with ⟨c, d1, d2, d3, d4⟩ | ⟨c, d1, d3, d4⟩ | ⟨c, d3, d4⟩
  · have e3 : (h 121 17).2 = τ 3 i := congrArg Prod.snd (hX.n2 c)
    rw [e3] at d1 d2 d3
    have d3 : w = some (0, τ 3 i) := d3
    subst d3
    exact k1 g _ h2 (pNum_y c d1 d2) d1 d2 ⟨d4, tk_n hX.2.2 hX.2.1 (by omega) (by omega), hX.2.2⟩
  · have e3 : (h 121 17).2 = τ 3 i := congrArg Prod.snd (hX.n2 c)
    rw [e3] at d1
    have d3 : w = some (0, 0) := d3
    subst d3
    exact k2 g _ h2 (pNum_o c d1) d4
  · have d3 : w = some (0, 0) := d3
    subst d3
    exact k2 g _ h2 (pNum_n c) d4
theorem rx_numB (hT : hTab T) (hO : vOK T) (u v : Int) {e : Er} (hB : rE e h) (k : Q (h, some (0, 0))) : vP D T N 300 0 h [some (2, 121), some (0, u), some (0, v), none] [] Q := vP_Q (fun r hr => by
  have hr : r = (h, some (0, 0)) := hr
  rw [hr]
  exact k) (r_numB hT hO u v (by rw [hB.1]; exact hB.2.1))
end RC
theorem mulb {w y : Int} (h1 : 0 ≤ w ∧ w ≤ 8) (h2 : 0 ≤ y ∧ y ≤ 8) : 0 ≤ w * y ∧ w * y ≤ 64 := by
  refine ⟨Int.mul_nonneg h1.1 h2.1, ?_⟩
  exact Int.le_trans (Int.mul_le_mul h1.2 h2.2 h2.1 (by decide)) (by decide)
theorem hq_mulB {w y : Int} (h1 : 0 ≤ w ∧ w ≤ 8) (h2 : 0 ≤ y ∧ y ≤ 8) : (zf32 2 (Int32.ofInt w) (Int32.ofInt y)).toInt = w * y := by
  have := mulb h1 h2
  exact hq_mul (by omega) (by omega)
theorem hq_addB {w y x : Int} (h1 : 0 ≤ w ∧ w ≤ 8) (h2 : 0 ≤ y ∧ y ≤ 8) (h3 : 0 ≤ x ∧ x ≤ 8) : (zf32 0 (Int32.ofInt (w * y)) (Int32.ofInt x)).toInt = w * y + x := by
  have := mulb h1 h2
  exact hq_add (by omega) (by omega)
theorem cellb {w r x y : Int} (h1 : 0 ≤ w ∧ w ≤ 8) (h2 : 0 ≤ r ∧ r ≤ 6) (x1 : 0 ≤ x) (x2 : x ≤ w - 1) (y1 : 0 ≤ y) (y2 : y ≤ r - 1) : 0 ≤ w * y ∧ w * y + x ≤ 47 := by
  have a : w * y ≤ 8 * y := Int.mul_le_mul_of_nonneg_right h1.2 y1
  exact ⟨Int.mul_nonneg h1.1 y1, by omega⟩
theorem cell_inj {w x y x' y' : Int} (x1 : 0 ≤ x) (x2 : x < w) (a1 : 0 ≤ x') (a2 : x' < w) (e : w * y + x = w * y' + x') : x = x' ∧ y = y' := by
  have hy : y = y' := by
    rcases Int.lt_trichotomy y y' with c | c | c
    · have := Int.mul_le_mul_of_nonneg_left (show y + 1 ≤ y' by omega) (show 0 ≤ w by omega)
      rw [Int.mul_add, Int.mul_one] at this
      omega
    · exact c
    · have := Int.mul_le_mul_of_nonneg_left (show y' + 1 ≤ y by omega) (show 0 ≤ w by omega)
      rw [Int.mul_add, Int.mul_one] at this
      omega
  subst hy
  exact ⟨by omega, rfl⟩
theorem qx_isW {D : zD} {T : zT} (hT : hTab T) (hO : vOK T) {N : Nat} {h : zH} {Q : zR → Prop} {B : Nat → Int} {n m i : Nat} {τ : PT} (c : Int) (hv0 : zHv h) (hX : rX B n m τ i h)
    (k0 : ((τ 0 i) = 1) → ((τ 4 i) = c) → Q (h, some (0, 1)))
    (k1 : ((τ 0 i) = 1) → ((τ 4 i) ≠ c) → Q (h, some (0, 0)))
    (k2 : ((τ 0 i) ≠ 1) → Q (h, some (0, 0))) :
    vP D T N 267 0 h [some (2, 121), some (1, c), none] [] Q := by
  refine v_load (v := (2, 121)) (hz_X12_isWord hT _ _ rfl) rfl rfl ?_
  refine v_getf (v := (0, (τ 0 i))) (r := 121) (hz_X12_isWord hT _ _ rfl) rfl rfl (fun _ => hX.tk) ?_
  refine v_push (1) (hz_X12_isWord hT _ _ rfl) rfl ?_
  refine v_ic (hz_X12_isWord hT _ _ rfl) (fun hc1 => ?_) (fun hc1 => ?_)
  · have hc1 : (τ 0 i) = 1 := hc1
    refine v_load (v := (2, 121)) (hz_X12_isWord hT _ _ rfl) rfl rfl ?_
    refine v_getf (v := (1, (τ 4 i))) (r := 121) (hz_X12_isWord hT _ _ rfl) rfl rfl (fun _ => (hX.wd hc1)) ?_
    refine v_load (v := (1, c)) (hz_X12_isWord hT _ _ rfl) rfl rfl ?_
    refine v_lif (hz_X12_isWord hT _ _ rfl) (hz_X12_isWord hT _ _ rfl) (fun hc2 => ?_) (fun hc2 => ?_)
    · have hc2 : (τ 4 i) = c := hc2
      refine v_push (1) (hz_X12_isWord hT _ _ rfl) rfl ?_
      refine v_goto (hz_X12_isWord hT _ _ rfl) ?_
      refine v_ret (hi_X12_isWord_22 hT) (Or.inl rfl) ?_
      exact k0 hc1 hc2
    · have hc2 : (τ 4 i) ≠ c := hc2
      refine v_push (0) (hi_X12_isWord_21 hT) rfl ?_
      refine v_ret (hi_X12_isWord_22 hT) (Or.inl rfl) ?_
      exact k1 hc1 hc2
  · have hc1 : (τ 0 i) ≠ 1 := hc1
    refine v_push (0) (hi_X12_isWord_21 hT) rfl ?_
    refine v_ret (hi_X12_isWord_22 hT) (Or.inl rfl) ?_
    exact k2 hc1
theorem qx_isSg {D : zD} {T : zT} (hT : hTab T) (hO : vOK T) {N : Nat} {h : zH} {Q : zR → Prop} {B : Nat → Int} {n m i : Nat} {τ : PT} (x : Int) (hv0 : zHv h) (hX : rX B n m τ i h)
    (k0 : ((τ 0 i) = 3) → ((τ 3 i) = x) → Q (h, some (0, 1)))
    (k1 : ((τ 0 i) = 3) → ((τ 3 i) ≠ x) → Q (h, some (0, 0)))
    (k2 : ((τ 0 i) ≠ 3) → Q (h, some (0, 0))) :
    vP D T N 259 0 h [some (2, 121), some (0, x)] [] Q := by
  refine v_load (v := (2, 121)) (hz_X12_isSign hT _ _ rfl) rfl rfl ?_
  refine v_getf (v := (0, (τ 0 i))) (r := 121) (hz_X12_isSign hT _ _ rfl) rfl rfl (fun _ => hX.tk) ?_
  refine v_push (3) (hz_X12_isSign hT _ _ rfl) rfl ?_
  refine v_ic (hz_X12_isSign hT _ _ rfl) (fun hc1 => ?_) (fun hc1 => ?_)
  · have hc1 : (τ 0 i) = 3 := hc1
    refine v_load (v := (2, 121)) (hz_X12_isSign hT _ _ rfl) rfl rfl ?_
    refine v_getf (v := (0, (τ 3 i))) (r := 121) (hz_X12_isSign hT _ _ rfl) rfl rfl (fun _ => (hX.n3 hc1)) ?_
    refine v_load (v := (0, x)) (hz_X12_isSign hT _ _ rfl) rfl rfl ?_
    refine v_ic (hz_X12_isSign hT _ _ rfl) (fun hc2 => ?_) (fun hc2 => ?_)
    · have hc2 : (τ 3 i) = x := hc2
      refine v_push (1) (hz_X12_isSign hT _ _ rfl) rfl ?_
      refine v_goto (hz_X12_isSign hT _ _ rfl) ?_
      refine v_ret (hi_X12_isSign_21 hT) (Or.inl rfl) ?_
      exact k0 hc1 hc2
    · have hc2 : (τ 3 i) ≠ x := hc2
      refine v_push (0) (hi_X12_isSign_20 hT) rfl ?_
      refine v_ret (hi_X12_isSign_21 hT) (Or.inl rfl) ?_
      exact k1 hc1 hc2
  · have hc1 : (τ 0 i) ≠ 3 := hc1
    refine v_push (0) (hi_X12_isSign_20 hT) rfl ?_
    refine v_ret (hi_X12_isSign_21 hT) (Or.inl rfl) ?_
    exact k2 hc1
theorem rx_isW {D : zD} {T : zT} (hT : hTab T) (hO : vOK T) {N : Nat} {h : zH} {Q : zR → Prop} {B : Nat → Int} {n m i : Nat} {τ : PT} (c : Int) (w : Nat) (l : List Int) (hc : c = pw l) (hw : RW[w]? = some l) (hX : rX B n m τ i h) (k : Q (h, some (0, bW τ w i))) : vP D T N 267 0 h [some (2, 121), some (1, c), none] [] Q := by
  unfold bW at k
  refine vP_hv (fun hv => qx_isW hT hO c hv hX (fun a b => ?_) (fun a b => ?_) (fun a => ?_))
  · obtain ⟨s, e, _, _, hR, _, _, _, hri, h4, _⟩ := tk_w hX.2.2 hX.2.1 a
    rw [h4, hc] at b
    rw [if_pos ⟨a, (word_same hR hri hw).mpr b⟩] at k
    exact k
  · obtain ⟨s, e, _, _, hR, _, _, _, hri, h4, _⟩ := tk_w hX.2.2 hX.2.1 a
    rw [h4, hc] at b
    rw [if_neg (fun f => b ((word_same hR hri hw).mp f.2))] at k
    exact k
  · rw [if_neg (fun f => a f.1)] at k
    exact k
theorem rx_isSign {D : zD} {T : zT} (hT : hTab T) (hO : vOK T) {N : Nat} {h : zH} {Q : zR → Prop} {B : Nat → Int} {n m i : Nat} {τ : PT} (x : Int) (hX : rX B n m τ i h) (k : Q (h, some (0, bG τ x i))) : vP D T N 259 0 h [some (2, 121), some (0, x)] [] Q := by
  unfold bG at k
  refine vP_hv (fun hv => qx_isSg hT hO x hv hX (fun a b => ?_) (fun a b => ?_) (fun a => ?_))
  · rw [if_pos ⟨a, b⟩] at k; exact k
  · rw [if_neg (fun f => b f.2)] at k; exact k
  · rw [if_neg (fun f => a f.1)] at k; exact k
theorem rx_isWide {D : zD} {T : zT} (hT : hTab T) (hO : vOK T) {N : Nat} {h : zH} {Q : zR → Prop} {B : Nat → Int} {n m i : Nat} {τ : PT} (hX : rX B n m τ i h)
    (k0 : Q (h, some (0, (bW τ 0 i)))) :
    vP D T N 266 0 h [some (2, 121)] [] Q := by
  refine v_load (v := (2, 121)) (hz_X12_isWide hT _ _ rfl) rfl rfl ?_
  refine v_push (119) (hz_X12_isWide hT _ _ rfl) rfl ?_
  refine v_push (105) (hz_X12_isWide hT _ _ rfl) rfl ?_
  refine v_push (100) (hz_X12_isWide hT _ _ rfl) rfl ?_
  refine v_push (101) (hz_X12_isWide hT _ _ rfl) rfl ?_
  refine v_push (0) (hz_X12_isWide hT _ _ rfl) rfl ?_
  refine v_push (0) (hz_X12_isWide hT _ _ rfl) rfl ?_
  refine v_call (w := 8) [some (0, 119), some (0, 105), some (0, 100), some (0, 101), some (0, 0), some (0, 0), none, none] hO (hz_X12_isWide hT _ _ rfl) rfl rfl ?_
  refine v_load (v := (0, 119)) (hi_X12_spelled_0 hT) rfl rfl ?_
  refine v_i2l (hi_X12_spelled_1 hT) ?_
  refine v_push (96) (hi_X12_spelled_2 hT) rfl ?_
  refine v_bin64 (w := (119 - 96)) (hi_X12_spelled_5 hT) (vz_subL (by omega) (by omega)) ?_
  refine v_push (32) (hi_X12_spelled_6 hT) rfl ?_
  refine v_bin64 (w := ((119 - 96) * 32)) (hi_X12_spelled_9 hT) (vz_mulL (by omega) (by omega)) ?_
  refine v_load (v := (0, 105)) (hi_X12_spelled_10 hT) rfl rfl ?_
  refine v_i2l (hi_X12_spelled_11 hT) ?_
  refine v_bin64 (w := (((119 - 96) * 32) + 105)) (hi_X12_spelled_12 hT) (vz_addL (by omega) (by omega)) ?_
  refine v_push (96) (hi_X12_spelled_13 hT) rfl ?_
  refine v_bin64 (w := ((((119 - 96) * 32) + 105) - 96)) (hi_X12_spelled_16 hT) (vz_subL (by omega) (by omega)) ?_
  refine v_store2 [some (0, 119), some (0, 105), some (0, 100), some (0, 101), some (0, 0), some (0, 0), some (1, ((((119 - 96) * 32) + 105) - 96)), none] (hi_X12_spelled_17 hT) (Nat.le_of_ble_eq_true rfl) rfl ?_
  refine v_load (v := (0, 100)) (hi_X12_spelled_19 hT) rfl rfl ?_
  refine v_if (hi_X12_spelled_20 hT) (fun _ => ?_) (fun hc1 => absurd (show 0 < (100 : Int) from (by decide)) hc1)
  refine v_load (v := (1, ((((119 - 96) * 32) + 105) - 96))) (hi_X12_spelled_23 hT) rfl rfl ?_
  refine v_push (32) (hi_X12_spelled_25 hT) rfl ?_
  refine v_bin64 (w := (((((119 - 96) * 32) + 105) - 96) * 32)) (hi_X12_spelled_28 hT) (vz_mulL (by omega) (by omega)) ?_
  refine v_load (v := (0, 100)) (hi_X12_spelled_29 hT) rfl rfl ?_
  refine v_i2l (hi_X12_spelled_30 hT) ?_
  refine v_bin64 (w := ((((((119 - 96) * 32) + 105) - 96) * 32) + 100)) (hi_X12_spelled_31 hT) (vz_addL (by omega) (by omega)) ?_
  refine v_push (96) (hi_X12_spelled_32 hT) rfl ?_
  refine v_bin64 (w := (((((((119 - 96) * 32) + 105) - 96) * 32) + 100) - 96)) (hi_X12_spelled_35 hT) (vz_subL (by omega) (by omega)) ?_
  refine v_goto (hi_X12_spelled_36 hT) ?_
  refine v_store2 [some (0, 119), some (0, 105), some (0, 100), some (0, 101), some (0, 0), some (0, 0), some (1, (((((((119 - 96) * 32) + 105) - 96) * 32) + 100) - 96)), none] (hi_X12_spelled_41 hT) (Nat.le_of_ble_eq_true rfl) rfl ?_
  refine v_load (v := (0, 101)) (hi_X12_spelled_43 hT) rfl rfl ?_
  refine v_if (hi_X12_spelled_44 hT) (fun _ => ?_) (fun hc2 => absurd (show 0 < (101 : Int) from (by decide)) hc2)
  refine v_load (v := (1, (((((((119 - 96) * 32) + 105) - 96) * 32) + 100) - 96))) (hi_X12_spelled_47 hT) rfl rfl ?_
  refine v_push (32) (hi_X12_spelled_49 hT) rfl ?_
  refine v_bin64 (w := ((((((((119 - 96) * 32) + 105) - 96) * 32) + 100) - 96) * 32)) (hi_X12_spelled_52 hT) (vz_mulL (by omega) (by omega)) ?_
  refine v_load (v := (0, 101)) (hi_X12_spelled_53 hT) rfl rfl ?_
  refine v_i2l (hi_X12_spelled_54 hT) ?_
  refine v_bin64 (w := (((((((((119 - 96) * 32) + 105) - 96) * 32) + 100) - 96) * 32) + 101)) (hi_X12_spelled_55 hT) (vz_addL (by omega) (by omega)) ?_
  refine v_push (96) (hi_X12_spelled_56 hT) rfl ?_
  refine v_bin64 (w := ((((((((((119 - 96) * 32) + 105) - 96) * 32) + 100) - 96) * 32) + 101) - 96)) (hi_X12_spelled_59 hT) (vz_subL (by omega) (by omega)) ?_
  refine v_goto (hi_X12_spelled_60 hT) ?_
  refine v_store2 [some (0, 119), some (0, 105), some (0, 100), some (0, 101), some (0, 0), some (0, 0), some (1, ((((((((((119 - 96) * 32) + 105) - 96) * 32) + 100) - 96) * 32) + 101) - 96)), none] (hi_X12_spelled_65 hT) (Nat.le_of_ble_eq_true rfl) rfl ?_
  refine v_load (v := (0, 0)) (hi_X12_spelled_67 hT) rfl rfl ?_
  refine v_if (hi_X12_spelled_69 hT) (fun hc3 => absurd (show 0 < (0 : Int) from hc3) (by decide)) (fun _ => ?_)
  refine v_load (v := (1, ((((((((((119 - 96) * 32) + 105) - 96) * 32) + 100) - 96) * 32) + 101) - 96))) (hi_X12_spelled_89 hT) rfl rfl ?_
  refine v_store2 [some (0, 119), some (0, 105), some (0, 100), some (0, 101), some (0, 0), some (0, 0), some (1, ((((((((((119 - 96) * 32) + 105) - 96) * 32) + 100) - 96) * 32) + 101) - 96)), none] (hi_X12_spelled_91 hT) (Nat.le_of_ble_eq_true rfl) rfl ?_
  refine v_load (v := (0, 0)) (hi_X12_spelled_93 hT) rfl rfl ?_
  refine v_if (hi_X12_spelled_95 hT) (fun hc4 => absurd (show 0 < (0 : Int) from hc4) (by decide)) (fun _ => ?_)
  refine v_load (v := (1, ((((((((((119 - 96) * 32) + 105) - 96) * 32) + 100) - 96) * 32) + 101) - 96))) (hi_X12_spelled_115 hT) rfl rfl ?_
  refine v_ret (hi_X12_spelled_117 hT) (Or.inr rfl) ?_
  show vP D T N 266 14 h [some (2, 121)] [(1, ((((((((((119 - 96) * 32) + 105) - 96) * 32) + 100) - 96) * 32) + 101) - 96)), (2, 121)] _
  refine v_call (w := 3) [some (2, 121), some (1, ((((((((((119 - 96) * 32) + 105) - 96) * 32) + 100) - 96) * 32) + 101) - 96)), none] hO (hz_X12_isWide hT _ _ rfl) rfl rfl (rx_isW hT hO (((((((((((119 - 96) * 32) + 105) - 96) * 32) + 100) - 96) * 32) + 101) - 96)) 0 [119, 105, 100, 101] (by decide +kernel) rfl hX ?_)
  · show vP D T N 266 17 h [some (2, 121)] [(0, (bW τ 0 i))] _
    refine v_ret (hz_X12_isWide hT _ _ rfl) (Or.inl rfl) ?_
    exact k0 
theorem rx_isRow {D : zD} {T : zT} (hT : hTab T) (hO : vOK T) {N : Nat} {h : zH} {Q : zR → Prop} {B : Nat → Int} {n m i : Nat} {τ : PT} (hX : rX B n m τ i h)
    (k0 : Q (h, some (0, (bW τ 1 i)))) :
    vP D T N 258 0 h [some (2, 121)] [] Q := by
  refine v_load (v := (2, 121)) (hz_X12_isRow hT _ _ rfl) rfl rfl ?_
  refine v_push (114) (hz_X12_isRow hT _ _ rfl) rfl ?_
  refine v_push (111) (hz_X12_isRow hT _ _ rfl) rfl ?_
  refine v_push (119) (hz_X12_isRow hT _ _ rfl) rfl ?_
  refine v_push (0) (hz_X12_isRow hT _ _ rfl) rfl ?_
  refine v_push (0) (hz_X12_isRow hT _ _ rfl) rfl ?_
  refine v_push (0) (hz_X12_isRow hT _ _ rfl) rfl ?_
  refine v_call (w := 8) [some (0, 114), some (0, 111), some (0, 119), some (0, 0), some (0, 0), some (0, 0), none, none] hO (hz_X12_isRow hT _ _ rfl) rfl rfl ?_
  refine v_load (v := (0, 114)) (hi_X12_spelled_0 hT) rfl rfl ?_
  refine v_i2l (hi_X12_spelled_1 hT) ?_
  refine v_push (96) (hi_X12_spelled_2 hT) rfl ?_
  refine v_bin64 (w := (114 - 96)) (hi_X12_spelled_5 hT) (vz_subL (by omega) (by omega)) ?_
  refine v_push (32) (hi_X12_spelled_6 hT) rfl ?_
  refine v_bin64 (w := ((114 - 96) * 32)) (hi_X12_spelled_9 hT) (vz_mulL (by omega) (by omega)) ?_
  refine v_load (v := (0, 111)) (hi_X12_spelled_10 hT) rfl rfl ?_
  refine v_i2l (hi_X12_spelled_11 hT) ?_
  refine v_bin64 (w := (((114 - 96) * 32) + 111)) (hi_X12_spelled_12 hT) (vz_addL (by omega) (by omega)) ?_
  refine v_push (96) (hi_X12_spelled_13 hT) rfl ?_
  refine v_bin64 (w := ((((114 - 96) * 32) + 111) - 96)) (hi_X12_spelled_16 hT) (vz_subL (by omega) (by omega)) ?_
  refine v_store2 [some (0, 114), some (0, 111), some (0, 119), some (0, 0), some (0, 0), some (0, 0), some (1, ((((114 - 96) * 32) + 111) - 96)), none] (hi_X12_spelled_17 hT) (Nat.le_of_ble_eq_true rfl) rfl ?_
  refine v_load (v := (0, 119)) (hi_X12_spelled_19 hT) rfl rfl ?_
  refine v_if (hi_X12_spelled_20 hT) (fun _ => ?_) (fun hc1 => absurd (show 0 < (119 : Int) from (by decide)) hc1)
  refine v_load (v := (1, ((((114 - 96) * 32) + 111) - 96))) (hi_X12_spelled_23 hT) rfl rfl ?_
  refine v_push (32) (hi_X12_spelled_25 hT) rfl ?_
  refine v_bin64 (w := (((((114 - 96) * 32) + 111) - 96) * 32)) (hi_X12_spelled_28 hT) (vz_mulL (by omega) (by omega)) ?_
  refine v_load (v := (0, 119)) (hi_X12_spelled_29 hT) rfl rfl ?_
  refine v_i2l (hi_X12_spelled_30 hT) ?_
  refine v_bin64 (w := ((((((114 - 96) * 32) + 111) - 96) * 32) + 119)) (hi_X12_spelled_31 hT) (vz_addL (by omega) (by omega)) ?_
  refine v_push (96) (hi_X12_spelled_32 hT) rfl ?_
  refine v_bin64 (w := (((((((114 - 96) * 32) + 111) - 96) * 32) + 119) - 96)) (hi_X12_spelled_35 hT) (vz_subL (by omega) (by omega)) ?_
  refine v_goto (hi_X12_spelled_36 hT) ?_
  refine v_store2 [some (0, 114), some (0, 111), some (0, 119), some (0, 0), some (0, 0), some (0, 0), some (1, (((((((114 - 96) * 32) + 111) - 96) * 32) + 119) - 96)), none] (hi_X12_spelled_41 hT) (Nat.le_of_ble_eq_true rfl) rfl ?_
  refine v_load (v := (0, 0)) (hi_X12_spelled_43 hT) rfl rfl ?_
  refine v_if (hi_X12_spelled_44 hT) (fun hc2 => absurd (show 0 < (0 : Int) from hc2) (by decide)) (fun _ => ?_)
  refine v_load (v := (1, (((((((114 - 96) * 32) + 111) - 96) * 32) + 119) - 96))) (hi_X12_spelled_63 hT) rfl rfl ?_
  refine v_store2 [some (0, 114), some (0, 111), some (0, 119), some (0, 0), some (0, 0), some (0, 0), some (1, (((((((114 - 96) * 32) + 111) - 96) * 32) + 119) - 96)), none] (hi_X12_spelled_65 hT) (Nat.le_of_ble_eq_true rfl) rfl ?_
  refine v_load (v := (0, 0)) (hi_X12_spelled_67 hT) rfl rfl ?_
  refine v_if (hi_X12_spelled_69 hT) (fun hc3 => absurd (show 0 < (0 : Int) from hc3) (by decide)) (fun _ => ?_)
  refine v_load (v := (1, (((((((114 - 96) * 32) + 111) - 96) * 32) + 119) - 96))) (hi_X12_spelled_89 hT) rfl rfl ?_
  refine v_store2 [some (0, 114), some (0, 111), some (0, 119), some (0, 0), some (0, 0), some (0, 0), some (1, (((((((114 - 96) * 32) + 111) - 96) * 32) + 119) - 96)), none] (hi_X12_spelled_91 hT) (Nat.le_of_ble_eq_true rfl) rfl ?_
  refine v_load (v := (0, 0)) (hi_X12_spelled_93 hT) rfl rfl ?_
  refine v_if (hi_X12_spelled_95 hT) (fun hc4 => absurd (show 0 < (0 : Int) from hc4) (by decide)) (fun _ => ?_)
  refine v_load (v := (1, (((((((114 - 96) * 32) + 111) - 96) * 32) + 119) - 96))) (hi_X12_spelled_115 hT) rfl rfl ?_
  refine v_ret (hi_X12_spelled_117 hT) (Or.inr rfl) ?_
  show vP D T N 258 13 h [some (2, 121)] [(1, (((((((114 - 96) * 32) + 111) - 96) * 32) + 119) - 96)), (2, 121)] _
  refine v_call (w := 3) [some (2, 121), some (1, (((((((114 - 96) * 32) + 111) - 96) * 32) + 119) - 96)), none] hO (hz_X12_isRow hT _ _ rfl) rfl rfl (rx_isW hT hO ((((((((114 - 96) * 32) + 111) - 96) * 32) + 119) - 96)) 1 [114, 111, 119] (by decide +kernel) rfl hX ?_)
  · show vP D T N 258 16 h [some (2, 121)] [(0, (bW τ 1 i))] _
    refine v_ret (hz_X12_isRow hT _ _ rfl) (Or.inl rfl) ?_
    exact k0 
theorem rx_isRise {D : zD} {T : zT} (hT : hTab T) (hO : vOK T) {N : Nat} {h : zH} {Q : zR → Prop} {B : Nat → Int} {n m i : Nat} {τ : PT} (hX : rX B n m τ i h)
    (k0 : Q (h, some (0, (bW τ 2 i)))) :
    vP D T N 257 0 h [some (2, 121)] [] Q := by
  refine v_load (v := (2, 121)) (hz_X12_isRise hT _ _ rfl) rfl rfl ?_
  refine v_push (114) (hz_X12_isRise hT _ _ rfl) rfl ?_
  refine v_push (105) (hz_X12_isRise hT _ _ rfl) rfl ?_
  refine v_push (115) (hz_X12_isRise hT _ _ rfl) rfl ?_
  refine v_push (101) (hz_X12_isRise hT _ _ rfl) rfl ?_
  refine v_push (0) (hz_X12_isRise hT _ _ rfl) rfl ?_
  refine v_push (0) (hz_X12_isRise hT _ _ rfl) rfl ?_
  refine v_call (w := 8) [some (0, 114), some (0, 105), some (0, 115), some (0, 101), some (0, 0), some (0, 0), none, none] hO (hz_X12_isRise hT _ _ rfl) rfl rfl ?_
  refine v_load (v := (0, 114)) (hi_X12_spelled_0 hT) rfl rfl ?_
  refine v_i2l (hi_X12_spelled_1 hT) ?_
  refine v_push (96) (hi_X12_spelled_2 hT) rfl ?_
  refine v_bin64 (w := (114 - 96)) (hi_X12_spelled_5 hT) (vz_subL (by omega) (by omega)) ?_
  refine v_push (32) (hi_X12_spelled_6 hT) rfl ?_
  refine v_bin64 (w := ((114 - 96) * 32)) (hi_X12_spelled_9 hT) (vz_mulL (by omega) (by omega)) ?_
  refine v_load (v := (0, 105)) (hi_X12_spelled_10 hT) rfl rfl ?_
  refine v_i2l (hi_X12_spelled_11 hT) ?_
  refine v_bin64 (w := (((114 - 96) * 32) + 105)) (hi_X12_spelled_12 hT) (vz_addL (by omega) (by omega)) ?_
  refine v_push (96) (hi_X12_spelled_13 hT) rfl ?_
  refine v_bin64 (w := ((((114 - 96) * 32) + 105) - 96)) (hi_X12_spelled_16 hT) (vz_subL (by omega) (by omega)) ?_
  refine v_store2 [some (0, 114), some (0, 105), some (0, 115), some (0, 101), some (0, 0), some (0, 0), some (1, ((((114 - 96) * 32) + 105) - 96)), none] (hi_X12_spelled_17 hT) (Nat.le_of_ble_eq_true rfl) rfl ?_
  refine v_load (v := (0, 115)) (hi_X12_spelled_19 hT) rfl rfl ?_
  refine v_if (hi_X12_spelled_20 hT) (fun _ => ?_) (fun hc1 => absurd (show 0 < (115 : Int) from (by decide)) hc1)
  refine v_load (v := (1, ((((114 - 96) * 32) + 105) - 96))) (hi_X12_spelled_23 hT) rfl rfl ?_
  refine v_push (32) (hi_X12_spelled_25 hT) rfl ?_
  refine v_bin64 (w := (((((114 - 96) * 32) + 105) - 96) * 32)) (hi_X12_spelled_28 hT) (vz_mulL (by omega) (by omega)) ?_
  refine v_load (v := (0, 115)) (hi_X12_spelled_29 hT) rfl rfl ?_
  refine v_i2l (hi_X12_spelled_30 hT) ?_
  refine v_bin64 (w := ((((((114 - 96) * 32) + 105) - 96) * 32) + 115)) (hi_X12_spelled_31 hT) (vz_addL (by omega) (by omega)) ?_
  refine v_push (96) (hi_X12_spelled_32 hT) rfl ?_
  refine v_bin64 (w := (((((((114 - 96) * 32) + 105) - 96) * 32) + 115) - 96)) (hi_X12_spelled_35 hT) (vz_subL (by omega) (by omega)) ?_
  refine v_goto (hi_X12_spelled_36 hT) ?_
  refine v_store2 [some (0, 114), some (0, 105), some (0, 115), some (0, 101), some (0, 0), some (0, 0), some (1, (((((((114 - 96) * 32) + 105) - 96) * 32) + 115) - 96)), none] (hi_X12_spelled_41 hT) (Nat.le_of_ble_eq_true rfl) rfl ?_
  refine v_load (v := (0, 101)) (hi_X12_spelled_43 hT) rfl rfl ?_
  refine v_if (hi_X12_spelled_44 hT) (fun _ => ?_) (fun hc2 => absurd (show 0 < (101 : Int) from (by decide)) hc2)
  refine v_load (v := (1, (((((((114 - 96) * 32) + 105) - 96) * 32) + 115) - 96))) (hi_X12_spelled_47 hT) rfl rfl ?_
  refine v_push (32) (hi_X12_spelled_49 hT) rfl ?_
  refine v_bin64 (w := ((((((((114 - 96) * 32) + 105) - 96) * 32) + 115) - 96) * 32)) (hi_X12_spelled_52 hT) (vz_mulL (by omega) (by omega)) ?_
  refine v_load (v := (0, 101)) (hi_X12_spelled_53 hT) rfl rfl ?_
  refine v_i2l (hi_X12_spelled_54 hT) ?_
  refine v_bin64 (w := (((((((((114 - 96) * 32) + 105) - 96) * 32) + 115) - 96) * 32) + 101)) (hi_X12_spelled_55 hT) (vz_addL (by omega) (by omega)) ?_
  refine v_push (96) (hi_X12_spelled_56 hT) rfl ?_
  refine v_bin64 (w := ((((((((((114 - 96) * 32) + 105) - 96) * 32) + 115) - 96) * 32) + 101) - 96)) (hi_X12_spelled_59 hT) (vz_subL (by omega) (by omega)) ?_
  refine v_goto (hi_X12_spelled_60 hT) ?_
  refine v_store2 [some (0, 114), some (0, 105), some (0, 115), some (0, 101), some (0, 0), some (0, 0), some (1, ((((((((((114 - 96) * 32) + 105) - 96) * 32) + 115) - 96) * 32) + 101) - 96)), none] (hi_X12_spelled_65 hT) (Nat.le_of_ble_eq_true rfl) rfl ?_
  refine v_load (v := (0, 0)) (hi_X12_spelled_67 hT) rfl rfl ?_
  refine v_if (hi_X12_spelled_69 hT) (fun hc3 => absurd (show 0 < (0 : Int) from hc3) (by decide)) (fun _ => ?_)
  refine v_load (v := (1, ((((((((((114 - 96) * 32) + 105) - 96) * 32) + 115) - 96) * 32) + 101) - 96))) (hi_X12_spelled_89 hT) rfl rfl ?_
  refine v_store2 [some (0, 114), some (0, 105), some (0, 115), some (0, 101), some (0, 0), some (0, 0), some (1, ((((((((((114 - 96) * 32) + 105) - 96) * 32) + 115) - 96) * 32) + 101) - 96)), none] (hi_X12_spelled_91 hT) (Nat.le_of_ble_eq_true rfl) rfl ?_
  refine v_load (v := (0, 0)) (hi_X12_spelled_93 hT) rfl rfl ?_
  refine v_if (hi_X12_spelled_95 hT) (fun hc4 => absurd (show 0 < (0 : Int) from hc4) (by decide)) (fun _ => ?_)
  refine v_load (v := (1, ((((((((((114 - 96) * 32) + 105) - 96) * 32) + 115) - 96) * 32) + 101) - 96))) (hi_X12_spelled_115 hT) rfl rfl ?_
  refine v_ret (hi_X12_spelled_117 hT) (Or.inr rfl) ?_
  show vP D T N 257 14 h [some (2, 121)] [(1, ((((((((((114 - 96) * 32) + 105) - 96) * 32) + 115) - 96) * 32) + 101) - 96)), (2, 121)] _
  refine v_call (w := 3) [some (2, 121), some (1, ((((((((((114 - 96) * 32) + 105) - 96) * 32) + 115) - 96) * 32) + 101) - 96)), none] hO (hz_X12_isRise hT _ _ rfl) rfl rfl (rx_isW hT hO (((((((((((114 - 96) * 32) + 105) - 96) * 32) + 115) - 96) * 32) + 101) - 96)) 2 [114, 105, 115, 101] (by decide +kernel) rfl hX ?_)
  · show vP D T N 257 17 h [some (2, 121)] [(0, (bW τ 2 i))] _
    refine v_ret (hz_X12_isRise hT _ _ rfl) (Or.inl rfl) ?_
    exact k0 
theorem rx_isBy {D : zD} {T : zT} (hT : hTab T) (hO : vOK T) {N : Nat} {h : zH} {Q : zR → Prop} {B : Nat → Int} {n m i : Nat} {τ : PT} (hX : rX B n m τ i h)
    (k0 : Q (h, some (0, (bW τ 3 i)))) :
    vP D T N 243 0 h [some (2, 121)] [] Q := by
  refine v_load (v := (2, 121)) (hz_X12_isBy hT _ _ rfl) rfl rfl ?_
  refine v_push (98) (hz_X12_isBy hT _ _ rfl) rfl ?_
  refine v_push (121) (hz_X12_isBy hT _ _ rfl) rfl ?_
  refine v_push (0) (hz_X12_isBy hT _ _ rfl) rfl ?_
  refine v_push (0) (hz_X12_isBy hT _ _ rfl) rfl ?_
  refine v_push (0) (hz_X12_isBy hT _ _ rfl) rfl ?_
  refine v_push (0) (hz_X12_isBy hT _ _ rfl) rfl ?_
  refine v_call (w := 8) [some (0, 98), some (0, 121), some (0, 0), some (0, 0), some (0, 0), some (0, 0), none, none] hO (hz_X12_isBy hT _ _ rfl) rfl rfl ?_
  refine v_load (v := (0, 98)) (hi_X12_spelled_0 hT) rfl rfl ?_
  refine v_i2l (hi_X12_spelled_1 hT) ?_
  refine v_push (96) (hi_X12_spelled_2 hT) rfl ?_
  refine v_bin64 (w := (98 - 96)) (hi_X12_spelled_5 hT) (vz_subL (by omega) (by omega)) ?_
  refine v_push (32) (hi_X12_spelled_6 hT) rfl ?_
  refine v_bin64 (w := ((98 - 96) * 32)) (hi_X12_spelled_9 hT) (vz_mulL (by omega) (by omega)) ?_
  refine v_load (v := (0, 121)) (hi_X12_spelled_10 hT) rfl rfl ?_
  refine v_i2l (hi_X12_spelled_11 hT) ?_
  refine v_bin64 (w := (((98 - 96) * 32) + 121)) (hi_X12_spelled_12 hT) (vz_addL (by omega) (by omega)) ?_
  refine v_push (96) (hi_X12_spelled_13 hT) rfl ?_
  refine v_bin64 (w := ((((98 - 96) * 32) + 121) - 96)) (hi_X12_spelled_16 hT) (vz_subL (by omega) (by omega)) ?_
  refine v_store2 [some (0, 98), some (0, 121), some (0, 0), some (0, 0), some (0, 0), some (0, 0), some (1, ((((98 - 96) * 32) + 121) - 96)), none] (hi_X12_spelled_17 hT) (Nat.le_of_ble_eq_true rfl) rfl ?_
  refine v_load (v := (0, 0)) (hi_X12_spelled_19 hT) rfl rfl ?_
  refine v_if (hi_X12_spelled_20 hT) (fun hc1 => absurd (show 0 < (0 : Int) from hc1) (by decide)) (fun _ => ?_)
  refine v_load (v := (1, ((((98 - 96) * 32) + 121) - 96))) (hi_X12_spelled_39 hT) rfl rfl ?_
  refine v_store2 [some (0, 98), some (0, 121), some (0, 0), some (0, 0), some (0, 0), some (0, 0), some (1, ((((98 - 96) * 32) + 121) - 96)), none] (hi_X12_spelled_41 hT) (Nat.le_of_ble_eq_true rfl) rfl ?_
  refine v_load (v := (0, 0)) (hi_X12_spelled_43 hT) rfl rfl ?_
  refine v_if (hi_X12_spelled_44 hT) (fun hc2 => absurd (show 0 < (0 : Int) from hc2) (by decide)) (fun _ => ?_)
  refine v_load (v := (1, ((((98 - 96) * 32) + 121) - 96))) (hi_X12_spelled_63 hT) rfl rfl ?_
  refine v_store2 [some (0, 98), some (0, 121), some (0, 0), some (0, 0), some (0, 0), some (0, 0), some (1, ((((98 - 96) * 32) + 121) - 96)), none] (hi_X12_spelled_65 hT) (Nat.le_of_ble_eq_true rfl) rfl ?_
  refine v_load (v := (0, 0)) (hi_X12_spelled_67 hT) rfl rfl ?_
  refine v_if (hi_X12_spelled_69 hT) (fun hc3 => absurd (show 0 < (0 : Int) from hc3) (by decide)) (fun _ => ?_)
  refine v_load (v := (1, ((((98 - 96) * 32) + 121) - 96))) (hi_X12_spelled_89 hT) rfl rfl ?_
  refine v_store2 [some (0, 98), some (0, 121), some (0, 0), some (0, 0), some (0, 0), some (0, 0), some (1, ((((98 - 96) * 32) + 121) - 96)), none] (hi_X12_spelled_91 hT) (Nat.le_of_ble_eq_true rfl) rfl ?_
  refine v_load (v := (0, 0)) (hi_X12_spelled_93 hT) rfl rfl ?_
  refine v_if (hi_X12_spelled_95 hT) (fun hc4 => absurd (show 0 < (0 : Int) from hc4) (by decide)) (fun _ => ?_)
  refine v_load (v := (1, ((((98 - 96) * 32) + 121) - 96))) (hi_X12_spelled_115 hT) rfl rfl ?_
  refine v_ret (hi_X12_spelled_117 hT) (Or.inr rfl) ?_
  show vP D T N 243 12 h [some (2, 121)] [(1, ((((98 - 96) * 32) + 121) - 96)), (2, 121)] _
  refine v_call (w := 3) [some (2, 121), some (1, ((((98 - 96) * 32) + 121) - 96)), none] hO (hz_X12_isBy hT _ _ rfl) rfl rfl (rx_isW hT hO (((((98 - 96) * 32) + 121) - 96)) 3 [98, 121] (by decide +kernel) rfl hX ?_)
  · show vP D T N 243 15 h [some (2, 121)] [(0, (bW τ 3 i))] _
    refine v_ret (hz_X12_isBy hT _ _ rfl) (Or.inl rfl) ?_
    exact k0 
theorem rx_isCopies {D : zD} {T : zT} (hT : hTab T) (hO : vOK T) {N : Nat} {h : zH} {Q : zR → Prop} {B : Nat → Int} {n m i : Nat} {τ : PT} (hX : rX B n m τ i h)
    (k0 : Q (h, some (0, (bW τ 4 i)))) :
    vP D T N 247 0 h [some (2, 121)] [] Q := by
  refine v_load (v := (2, 121)) (hz_X12_isCopies hT _ _ rfl) rfl rfl ?_
  refine v_push (99) (hz_X12_isCopies hT _ _ rfl) rfl ?_
  refine v_push (111) (hz_X12_isCopies hT _ _ rfl) rfl ?_
  refine v_push (112) (hz_X12_isCopies hT _ _ rfl) rfl ?_
  refine v_push (105) (hz_X12_isCopies hT _ _ rfl) rfl ?_
  refine v_push (101) (hz_X12_isCopies hT _ _ rfl) rfl ?_
  refine v_push (115) (hz_X12_isCopies hT _ _ rfl) rfl ?_
  refine v_call (w := 8) [some (0, 99), some (0, 111), some (0, 112), some (0, 105), some (0, 101), some (0, 115), none, none] hO (hz_X12_isCopies hT _ _ rfl) rfl rfl ?_
  refine v_load (v := (0, 99)) (hi_X12_spelled_0 hT) rfl rfl ?_
  refine v_i2l (hi_X12_spelled_1 hT) ?_
  refine v_push (96) (hi_X12_spelled_2 hT) rfl ?_
  refine v_bin64 (w := (99 - 96)) (hi_X12_spelled_5 hT) (vz_subL (by omega) (by omega)) ?_
  refine v_push (32) (hi_X12_spelled_6 hT) rfl ?_
  refine v_bin64 (w := ((99 - 96) * 32)) (hi_X12_spelled_9 hT) (vz_mulL (by omega) (by omega)) ?_
  refine v_load (v := (0, 111)) (hi_X12_spelled_10 hT) rfl rfl ?_
  refine v_i2l (hi_X12_spelled_11 hT) ?_
  refine v_bin64 (w := (((99 - 96) * 32) + 111)) (hi_X12_spelled_12 hT) (vz_addL (by omega) (by omega)) ?_
  refine v_push (96) (hi_X12_spelled_13 hT) rfl ?_
  refine v_bin64 (w := ((((99 - 96) * 32) + 111) - 96)) (hi_X12_spelled_16 hT) (vz_subL (by omega) (by omega)) ?_
  refine v_store2 [some (0, 99), some (0, 111), some (0, 112), some (0, 105), some (0, 101), some (0, 115), some (1, ((((99 - 96) * 32) + 111) - 96)), none] (hi_X12_spelled_17 hT) (Nat.le_of_ble_eq_true rfl) rfl ?_
  refine v_load (v := (0, 112)) (hi_X12_spelled_19 hT) rfl rfl ?_
  refine v_if (hi_X12_spelled_20 hT) (fun _ => ?_) (fun hc1 => absurd (show 0 < (112 : Int) from (by decide)) hc1)
  refine v_load (v := (1, ((((99 - 96) * 32) + 111) - 96))) (hi_X12_spelled_23 hT) rfl rfl ?_
  refine v_push (32) (hi_X12_spelled_25 hT) rfl ?_
  refine v_bin64 (w := (((((99 - 96) * 32) + 111) - 96) * 32)) (hi_X12_spelled_28 hT) (vz_mulL (by omega) (by omega)) ?_
  refine v_load (v := (0, 112)) (hi_X12_spelled_29 hT) rfl rfl ?_
  refine v_i2l (hi_X12_spelled_30 hT) ?_
  refine v_bin64 (w := ((((((99 - 96) * 32) + 111) - 96) * 32) + 112)) (hi_X12_spelled_31 hT) (vz_addL (by omega) (by omega)) ?_
  refine v_push (96) (hi_X12_spelled_32 hT) rfl ?_
  refine v_bin64 (w := (((((((99 - 96) * 32) + 111) - 96) * 32) + 112) - 96)) (hi_X12_spelled_35 hT) (vz_subL (by omega) (by omega)) ?_
  refine v_goto (hi_X12_spelled_36 hT) ?_
  refine v_store2 [some (0, 99), some (0, 111), some (0, 112), some (0, 105), some (0, 101), some (0, 115), some (1, (((((((99 - 96) * 32) + 111) - 96) * 32) + 112) - 96)), none] (hi_X12_spelled_41 hT) (Nat.le_of_ble_eq_true rfl) rfl ?_
  refine v_load (v := (0, 105)) (hi_X12_spelled_43 hT) rfl rfl ?_
  refine v_if (hi_X12_spelled_44 hT) (fun _ => ?_) (fun hc2 => absurd (show 0 < (105 : Int) from (by decide)) hc2)
  refine v_load (v := (1, (((((((99 - 96) * 32) + 111) - 96) * 32) + 112) - 96))) (hi_X12_spelled_47 hT) rfl rfl ?_
  refine v_push (32) (hi_X12_spelled_49 hT) rfl ?_
  refine v_bin64 (w := ((((((((99 - 96) * 32) + 111) - 96) * 32) + 112) - 96) * 32)) (hi_X12_spelled_52 hT) (vz_mulL (by omega) (by omega)) ?_
  refine v_load (v := (0, 105)) (hi_X12_spelled_53 hT) rfl rfl ?_
  refine v_i2l (hi_X12_spelled_54 hT) ?_
  refine v_bin64 (w := (((((((((99 - 96) * 32) + 111) - 96) * 32) + 112) - 96) * 32) + 105)) (hi_X12_spelled_55 hT) (vz_addL (by omega) (by omega)) ?_
  refine v_push (96) (hi_X12_spelled_56 hT) rfl ?_
  refine v_bin64 (w := ((((((((((99 - 96) * 32) + 111) - 96) * 32) + 112) - 96) * 32) + 105) - 96)) (hi_X12_spelled_59 hT) (vz_subL (by omega) (by omega)) ?_
  refine v_goto (hi_X12_spelled_60 hT) ?_
  refine v_store2 [some (0, 99), some (0, 111), some (0, 112), some (0, 105), some (0, 101), some (0, 115), some (1, ((((((((((99 - 96) * 32) + 111) - 96) * 32) + 112) - 96) * 32) + 105) - 96)), none] (hi_X12_spelled_65 hT) (Nat.le_of_ble_eq_true rfl) rfl ?_
  refine v_load (v := (0, 101)) (hi_X12_spelled_67 hT) rfl rfl ?_
  refine v_if (hi_X12_spelled_69 hT) (fun _ => ?_) (fun hc3 => absurd (show 0 < (101 : Int) from (by decide)) hc3)
  refine v_load (v := (1, ((((((((((99 - 96) * 32) + 111) - 96) * 32) + 112) - 96) * 32) + 105) - 96))) (hi_X12_spelled_72 hT) rfl rfl ?_
  refine v_push (32) (hi_X12_spelled_74 hT) rfl ?_
  refine v_bin64 (w := (((((((((((99 - 96) * 32) + 111) - 96) * 32) + 112) - 96) * 32) + 105) - 96) * 32)) (hi_X12_spelled_77 hT) (vz_mulL (by omega) (by omega)) ?_
  refine v_load (v := (0, 101)) (hi_X12_spelled_78 hT) rfl rfl ?_
  refine v_i2l (hi_X12_spelled_80 hT) ?_
  refine v_bin64 (w := ((((((((((((99 - 96) * 32) + 111) - 96) * 32) + 112) - 96) * 32) + 105) - 96) * 32) + 101)) (hi_X12_spelled_81 hT) (vz_addL (by omega) (by omega)) ?_
  refine v_push (96) (hi_X12_spelled_82 hT) rfl ?_
  refine v_bin64 (w := (((((((((((((99 - 96) * 32) + 111) - 96) * 32) + 112) - 96) * 32) + 105) - 96) * 32) + 101) - 96)) (hi_X12_spelled_85 hT) (vz_subL (by omega) (by omega)) ?_
  refine v_goto (hi_X12_spelled_86 hT) ?_
  refine v_store2 [some (0, 99), some (0, 111), some (0, 112), some (0, 105), some (0, 101), some (0, 115), some (1, (((((((((((((99 - 96) * 32) + 111) - 96) * 32) + 112) - 96) * 32) + 105) - 96) * 32) + 101) - 96)), none] (hi_X12_spelled_91 hT) (Nat.le_of_ble_eq_true rfl) rfl ?_
  refine v_load (v := (0, 115)) (hi_X12_spelled_93 hT) rfl rfl ?_
  refine v_if (hi_X12_spelled_95 hT) (fun _ => ?_) (fun hc4 => absurd (show 0 < (115 : Int) from (by decide)) hc4)
  refine v_load (v := (1, (((((((((((((99 - 96) * 32) + 111) - 96) * 32) + 112) - 96) * 32) + 105) - 96) * 32) + 101) - 96))) (hi_X12_spelled_98 hT) rfl rfl ?_
  refine v_push (32) (hi_X12_spelled_100 hT) rfl ?_
  refine v_bin64 (w := ((((((((((((((99 - 96) * 32) + 111) - 96) * 32) + 112) - 96) * 32) + 105) - 96) * 32) + 101) - 96) * 32)) (hi_X12_spelled_103 hT) (vz_mulL (by omega) (by omega)) ?_
  refine v_load (v := (0, 115)) (hi_X12_spelled_104 hT) rfl rfl ?_
  refine v_i2l (hi_X12_spelled_106 hT) ?_
  refine v_bin64 (w := (((((((((((((((99 - 96) * 32) + 111) - 96) * 32) + 112) - 96) * 32) + 105) - 96) * 32) + 101) - 96) * 32) + 115)) (hi_X12_spelled_107 hT) (vz_addL (by omega) (by omega)) ?_
  refine v_push (96) (hi_X12_spelled_108 hT) rfl ?_
  refine v_bin64 (w := ((((((((((((((((99 - 96) * 32) + 111) - 96) * 32) + 112) - 96) * 32) + 105) - 96) * 32) + 101) - 96) * 32) + 115) - 96)) (hi_X12_spelled_111 hT) (vz_subL (by omega) (by omega)) ?_
  refine v_goto (hi_X12_spelled_112 hT) ?_
  refine v_ret (hi_X12_spelled_117 hT) (Or.inr rfl) ?_
  show vP D T N 247 16 h [some (2, 121)] [(1, ((((((((((((((((99 - 96) * 32) + 111) - 96) * 32) + 112) - 96) * 32) + 105) - 96) * 32) + 101) - 96) * 32) + 115) - 96)), (2, 121)] _
  refine v_call (w := 3) [some (2, 121), some (1, ((((((((((((((((99 - 96) * 32) + 111) - 96) * 32) + 112) - 96) * 32) + 105) - 96) * 32) + 101) - 96) * 32) + 115) - 96)), none] hO (hz_X12_isCopies hT _ _ rfl) rfl rfl (rx_isW hT hO (((((((((((((((((99 - 96) * 32) + 111) - 96) * 32) + 112) - 96) * 32) + 105) - 96) * 32) + 101) - 96) * 32) + 115) - 96)) 4 [99, 111, 112, 105, 101, 115] (by decide +kernel) rfl hX ?_)
  · show vP D T N 247 19 h [some (2, 121)] [(0, (bW τ 4 i))] _
    refine v_ret (hz_X12_isCopies hT _ _ rfl) (Or.inl rfl) ?_
    exact k0 
theorem rx_isCompany {D : zD} {T : zT} (hT : hTab T) (hO : vOK T) {N : Nat} {h : zH} {Q : zR → Prop} {B : Nat → Int} {n m i : Nat} {τ : PT} (hX : rX B n m τ i h)
    (k0 : Q (h, some (0, (bW τ 5 i)))) :
    vP D T N 245 0 h [some (2, 121)] [] Q := by
  refine v_load (v := (2, 121)) (hz_X12_isCompany hT _ _ rfl) rfl rfl ?_
  refine v_push (99) (hz_X12_isCompany hT _ _ rfl) rfl ?_
  refine v_push (111) (hz_X12_isCompany hT _ _ rfl) rfl ?_
  refine v_push (109) (hz_X12_isCompany hT _ _ rfl) rfl ?_
  refine v_push (112) (hz_X12_isCompany hT _ _ rfl) rfl ?_
  refine v_push (97) (hz_X12_isCompany hT _ _ rfl) rfl ?_
  refine v_push (110) (hz_X12_isCompany hT _ _ rfl) rfl ?_
  refine v_call (w := 8) [some (0, 99), some (0, 111), some (0, 109), some (0, 112), some (0, 97), some (0, 110), none, none] hO (hz_X12_isCompany hT _ _ rfl) rfl rfl ?_
  refine v_load (v := (0, 99)) (hi_X12_spelled_0 hT) rfl rfl ?_
  refine v_i2l (hi_X12_spelled_1 hT) ?_
  refine v_push (96) (hi_X12_spelled_2 hT) rfl ?_
  refine v_bin64 (w := (99 - 96)) (hi_X12_spelled_5 hT) (vz_subL (by omega) (by omega)) ?_
  refine v_push (32) (hi_X12_spelled_6 hT) rfl ?_
  refine v_bin64 (w := ((99 - 96) * 32)) (hi_X12_spelled_9 hT) (vz_mulL (by omega) (by omega)) ?_
  refine v_load (v := (0, 111)) (hi_X12_spelled_10 hT) rfl rfl ?_
  refine v_i2l (hi_X12_spelled_11 hT) ?_
  refine v_bin64 (w := (((99 - 96) * 32) + 111)) (hi_X12_spelled_12 hT) (vz_addL (by omega) (by omega)) ?_
  refine v_push (96) (hi_X12_spelled_13 hT) rfl ?_
  refine v_bin64 (w := ((((99 - 96) * 32) + 111) - 96)) (hi_X12_spelled_16 hT) (vz_subL (by omega) (by omega)) ?_
  refine v_store2 [some (0, 99), some (0, 111), some (0, 109), some (0, 112), some (0, 97), some (0, 110), some (1, ((((99 - 96) * 32) + 111) - 96)), none] (hi_X12_spelled_17 hT) (Nat.le_of_ble_eq_true rfl) rfl ?_
  refine v_load (v := (0, 109)) (hi_X12_spelled_19 hT) rfl rfl ?_
  refine v_if (hi_X12_spelled_20 hT) (fun _ => ?_) (fun hc1 => absurd (show 0 < (109 : Int) from (by decide)) hc1)
  refine v_load (v := (1, ((((99 - 96) * 32) + 111) - 96))) (hi_X12_spelled_23 hT) rfl rfl ?_
  refine v_push (32) (hi_X12_spelled_25 hT) rfl ?_
  refine v_bin64 (w := (((((99 - 96) * 32) + 111) - 96) * 32)) (hi_X12_spelled_28 hT) (vz_mulL (by omega) (by omega)) ?_
  refine v_load (v := (0, 109)) (hi_X12_spelled_29 hT) rfl rfl ?_
  refine v_i2l (hi_X12_spelled_30 hT) ?_
  refine v_bin64 (w := ((((((99 - 96) * 32) + 111) - 96) * 32) + 109)) (hi_X12_spelled_31 hT) (vz_addL (by omega) (by omega)) ?_
  refine v_push (96) (hi_X12_spelled_32 hT) rfl ?_
  refine v_bin64 (w := (((((((99 - 96) * 32) + 111) - 96) * 32) + 109) - 96)) (hi_X12_spelled_35 hT) (vz_subL (by omega) (by omega)) ?_
  refine v_goto (hi_X12_spelled_36 hT) ?_
  refine v_store2 [some (0, 99), some (0, 111), some (0, 109), some (0, 112), some (0, 97), some (0, 110), some (1, (((((((99 - 96) * 32) + 111) - 96) * 32) + 109) - 96)), none] (hi_X12_spelled_41 hT) (Nat.le_of_ble_eq_true rfl) rfl ?_
  refine v_load (v := (0, 112)) (hi_X12_spelled_43 hT) rfl rfl ?_
  refine v_if (hi_X12_spelled_44 hT) (fun _ => ?_) (fun hc2 => absurd (show 0 < (112 : Int) from (by decide)) hc2)
  refine v_load (v := (1, (((((((99 - 96) * 32) + 111) - 96) * 32) + 109) - 96))) (hi_X12_spelled_47 hT) rfl rfl ?_
  refine v_push (32) (hi_X12_spelled_49 hT) rfl ?_
  refine v_bin64 (w := ((((((((99 - 96) * 32) + 111) - 96) * 32) + 109) - 96) * 32)) (hi_X12_spelled_52 hT) (vz_mulL (by omega) (by omega)) ?_
  refine v_load (v := (0, 112)) (hi_X12_spelled_53 hT) rfl rfl ?_
  refine v_i2l (hi_X12_spelled_54 hT) ?_
  refine v_bin64 (w := (((((((((99 - 96) * 32) + 111) - 96) * 32) + 109) - 96) * 32) + 112)) (hi_X12_spelled_55 hT) (vz_addL (by omega) (by omega)) ?_
  refine v_push (96) (hi_X12_spelled_56 hT) rfl ?_
  refine v_bin64 (w := ((((((((((99 - 96) * 32) + 111) - 96) * 32) + 109) - 96) * 32) + 112) - 96)) (hi_X12_spelled_59 hT) (vz_subL (by omega) (by omega)) ?_
  refine v_goto (hi_X12_spelled_60 hT) ?_
  refine v_store2 [some (0, 99), some (0, 111), some (0, 109), some (0, 112), some (0, 97), some (0, 110), some (1, ((((((((((99 - 96) * 32) + 111) - 96) * 32) + 109) - 96) * 32) + 112) - 96)), none] (hi_X12_spelled_65 hT) (Nat.le_of_ble_eq_true rfl) rfl ?_
  refine v_load (v := (0, 97)) (hi_X12_spelled_67 hT) rfl rfl ?_
  refine v_if (hi_X12_spelled_69 hT) (fun _ => ?_) (fun hc3 => absurd (show 0 < (97 : Int) from (by decide)) hc3)
  refine v_load (v := (1, ((((((((((99 - 96) * 32) + 111) - 96) * 32) + 109) - 96) * 32) + 112) - 96))) (hi_X12_spelled_72 hT) rfl rfl ?_
  refine v_push (32) (hi_X12_spelled_74 hT) rfl ?_
  refine v_bin64 (w := (((((((((((99 - 96) * 32) + 111) - 96) * 32) + 109) - 96) * 32) + 112) - 96) * 32)) (hi_X12_spelled_77 hT) (vz_mulL (by omega) (by omega)) ?_
  refine v_load (v := (0, 97)) (hi_X12_spelled_78 hT) rfl rfl ?_
  refine v_i2l (hi_X12_spelled_80 hT) ?_
  refine v_bin64 (w := ((((((((((((99 - 96) * 32) + 111) - 96) * 32) + 109) - 96) * 32) + 112) - 96) * 32) + 97)) (hi_X12_spelled_81 hT) (vz_addL (by omega) (by omega)) ?_
  refine v_push (96) (hi_X12_spelled_82 hT) rfl ?_
  refine v_bin64 (w := (((((((((((((99 - 96) * 32) + 111) - 96) * 32) + 109) - 96) * 32) + 112) - 96) * 32) + 97) - 96)) (hi_X12_spelled_85 hT) (vz_subL (by omega) (by omega)) ?_
  refine v_goto (hi_X12_spelled_86 hT) ?_
  refine v_store2 [some (0, 99), some (0, 111), some (0, 109), some (0, 112), some (0, 97), some (0, 110), some (1, (((((((((((((99 - 96) * 32) + 111) - 96) * 32) + 109) - 96) * 32) + 112) - 96) * 32) + 97) - 96)), none] (hi_X12_spelled_91 hT) (Nat.le_of_ble_eq_true rfl) rfl ?_
  refine v_load (v := (0, 110)) (hi_X12_spelled_93 hT) rfl rfl ?_
  refine v_if (hi_X12_spelled_95 hT) (fun _ => ?_) (fun hc4 => absurd (show 0 < (110 : Int) from (by decide)) hc4)
  refine v_load (v := (1, (((((((((((((99 - 96) * 32) + 111) - 96) * 32) + 109) - 96) * 32) + 112) - 96) * 32) + 97) - 96))) (hi_X12_spelled_98 hT) rfl rfl ?_
  refine v_push (32) (hi_X12_spelled_100 hT) rfl ?_
  refine v_bin64 (w := ((((((((((((((99 - 96) * 32) + 111) - 96) * 32) + 109) - 96) * 32) + 112) - 96) * 32) + 97) - 96) * 32)) (hi_X12_spelled_103 hT) (vz_mulL (by omega) (by omega)) ?_
  refine v_load (v := (0, 110)) (hi_X12_spelled_104 hT) rfl rfl ?_
  refine v_i2l (hi_X12_spelled_106 hT) ?_
  refine v_bin64 (w := (((((((((((((((99 - 96) * 32) + 111) - 96) * 32) + 109) - 96) * 32) + 112) - 96) * 32) + 97) - 96) * 32) + 110)) (hi_X12_spelled_107 hT) (vz_addL (by omega) (by omega)) ?_
  refine v_push (96) (hi_X12_spelled_108 hT) rfl ?_
  refine v_bin64 (w := ((((((((((((((((99 - 96) * 32) + 111) - 96) * 32) + 109) - 96) * 32) + 112) - 96) * 32) + 97) - 96) * 32) + 110) - 96)) (hi_X12_spelled_111 hT) (vz_subL (by omega) (by omega)) ?_
  refine v_goto (hi_X12_spelled_112 hT) ?_
  refine v_ret (hi_X12_spelled_117 hT) (Or.inr rfl) ?_
  show vP D T N 245 16 h [some (2, 121)] [(1, ((((((((((((((((99 - 96) * 32) + 111) - 96) * 32) + 109) - 96) * 32) + 112) - 96) * 32) + 97) - 96) * 32) + 110) - 96)), (2, 121)] _
  refine v_push (32) (hz_X12_isCompany hT _ _ rfl) rfl ?_
  refine v_bin64 (w := (((((((((((((((((99 - 96) * 32) + 111) - 96) * 32) + 109) - 96) * 32) + 112) - 96) * 32) + 97) - 96) * 32) + 110) - 96) * 32)) (hz_X12_isCompany hT _ _ rfl) (vz_mulL (by omega) (by omega)) ?_
  refine v_push (25) (hz_X12_isCompany hT _ _ rfl) rfl ?_
  refine v_bin64 (w := ((((((((((((((((((99 - 96) * 32) + 111) - 96) * 32) + 109) - 96) * 32) + 112) - 96) * 32) + 97) - 96) * 32) + 110) - 96) * 32) + 25)) (hz_X12_isCompany hT _ _ rfl) (vz_addL (by omega) (by omega)) ?_
  refine v_call (w := 3) [some (2, 121), some (1, ((((((((((((((((((99 - 96) * 32) + 111) - 96) * 32) + 109) - 96) * 32) + 112) - 96) * 32) + 97) - 96) * 32) + 110) - 96) * 32) + 25)), none] hO (hz_X12_isCompany hT _ _ rfl) rfl rfl (rx_isW hT hO (((((((((((((((((((99 - 96) * 32) + 111) - 96) * 32) + 109) - 96) * 32) + 112) - 96) * 32) + 97) - 96) * 32) + 110) - 96) * 32) + 25)) 5 [99, 111, 109, 112, 97, 110, 121] (by decide +kernel) rfl hX ?_)
  · show vP D T N 245 27 h [some (2, 121)] [(0, (bW τ 5 i))] _
    refine v_ret (hz_X12_isCompany hT _ _ rfl) (Or.inl rfl) ?_
    exact k0 
theorem rx_isAtWord {D : zD} {T : zT} (hT : hTab T) (hO : vOK T) {N : Nat} {h : zH} {Q : zR → Prop} {B : Nat → Int} {n m i : Nat} {τ : PT} (hX : rX B n m τ i h)
    (k0 : Q (h, some (0, (bW τ 6 i)))) :
    vP D T N 241 0 h [some (2, 121)] [] Q := by
  refine v_load (v := (2, 121)) (hz_X12_isAtWord hT _ _ rfl) rfl rfl ?_
  refine v_push (97) (hz_X12_isAtWord hT _ _ rfl) rfl ?_
  refine v_push (116) (hz_X12_isAtWord hT _ _ rfl) rfl ?_
  refine v_push (0) (hz_X12_isAtWord hT _ _ rfl) rfl ?_
  refine v_push (0) (hz_X12_isAtWord hT _ _ rfl) rfl ?_
  refine v_push (0) (hz_X12_isAtWord hT _ _ rfl) rfl ?_
  refine v_push (0) (hz_X12_isAtWord hT _ _ rfl) rfl ?_
  refine v_call (w := 8) [some (0, 97), some (0, 116), some (0, 0), some (0, 0), some (0, 0), some (0, 0), none, none] hO (hz_X12_isAtWord hT _ _ rfl) rfl rfl ?_
  refine v_load (v := (0, 97)) (hi_X12_spelled_0 hT) rfl rfl ?_
  refine v_i2l (hi_X12_spelled_1 hT) ?_
  refine v_push (96) (hi_X12_spelled_2 hT) rfl ?_
  refine v_bin64 (w := (97 - 96)) (hi_X12_spelled_5 hT) (vz_subL (by omega) (by omega)) ?_
  refine v_push (32) (hi_X12_spelled_6 hT) rfl ?_
  refine v_bin64 (w := ((97 - 96) * 32)) (hi_X12_spelled_9 hT) (vz_mulL (by omega) (by omega)) ?_
  refine v_load (v := (0, 116)) (hi_X12_spelled_10 hT) rfl rfl ?_
  refine v_i2l (hi_X12_spelled_11 hT) ?_
  refine v_bin64 (w := (((97 - 96) * 32) + 116)) (hi_X12_spelled_12 hT) (vz_addL (by omega) (by omega)) ?_
  refine v_push (96) (hi_X12_spelled_13 hT) rfl ?_
  refine v_bin64 (w := ((((97 - 96) * 32) + 116) - 96)) (hi_X12_spelled_16 hT) (vz_subL (by omega) (by omega)) ?_
  refine v_store2 [some (0, 97), some (0, 116), some (0, 0), some (0, 0), some (0, 0), some (0, 0), some (1, ((((97 - 96) * 32) + 116) - 96)), none] (hi_X12_spelled_17 hT) (Nat.le_of_ble_eq_true rfl) rfl ?_
  refine v_load (v := (0, 0)) (hi_X12_spelled_19 hT) rfl rfl ?_
  refine v_if (hi_X12_spelled_20 hT) (fun hc1 => absurd (show 0 < (0 : Int) from hc1) (by decide)) (fun _ => ?_)
  refine v_load (v := (1, ((((97 - 96) * 32) + 116) - 96))) (hi_X12_spelled_39 hT) rfl rfl ?_
  refine v_store2 [some (0, 97), some (0, 116), some (0, 0), some (0, 0), some (0, 0), some (0, 0), some (1, ((((97 - 96) * 32) + 116) - 96)), none] (hi_X12_spelled_41 hT) (Nat.le_of_ble_eq_true rfl) rfl ?_
  refine v_load (v := (0, 0)) (hi_X12_spelled_43 hT) rfl rfl ?_
  refine v_if (hi_X12_spelled_44 hT) (fun hc2 => absurd (show 0 < (0 : Int) from hc2) (by decide)) (fun _ => ?_)
  refine v_load (v := (1, ((((97 - 96) * 32) + 116) - 96))) (hi_X12_spelled_63 hT) rfl rfl ?_
  refine v_store2 [some (0, 97), some (0, 116), some (0, 0), some (0, 0), some (0, 0), some (0, 0), some (1, ((((97 - 96) * 32) + 116) - 96)), none] (hi_X12_spelled_65 hT) (Nat.le_of_ble_eq_true rfl) rfl ?_
  refine v_load (v := (0, 0)) (hi_X12_spelled_67 hT) rfl rfl ?_
  refine v_if (hi_X12_spelled_69 hT) (fun hc3 => absurd (show 0 < (0 : Int) from hc3) (by decide)) (fun _ => ?_)
  refine v_load (v := (1, ((((97 - 96) * 32) + 116) - 96))) (hi_X12_spelled_89 hT) rfl rfl ?_
  refine v_store2 [some (0, 97), some (0, 116), some (0, 0), some (0, 0), some (0, 0), some (0, 0), some (1, ((((97 - 96) * 32) + 116) - 96)), none] (hi_X12_spelled_91 hT) (Nat.le_of_ble_eq_true rfl) rfl ?_
  refine v_load (v := (0, 0)) (hi_X12_spelled_93 hT) rfl rfl ?_
  refine v_if (hi_X12_spelled_95 hT) (fun hc4 => absurd (show 0 < (0 : Int) from hc4) (by decide)) (fun _ => ?_)
  refine v_load (v := (1, ((((97 - 96) * 32) + 116) - 96))) (hi_X12_spelled_115 hT) rfl rfl ?_
  refine v_ret (hi_X12_spelled_117 hT) (Or.inr rfl) ?_
  show vP D T N 241 12 h [some (2, 121)] [(1, ((((97 - 96) * 32) + 116) - 96)), (2, 121)] _
  refine v_call (w := 3) [some (2, 121), some (1, ((((97 - 96) * 32) + 116) - 96)), none] hO (hz_X12_isAtWord hT _ _ rfl) rfl rfl (rx_isW hT hO (((((97 - 96) * 32) + 116) - 96)) 6 [97, 116] (by decide +kernel) rfl hX ?_)
  · show vP D T N 241 15 h [some (2, 121)] [(0, (bW τ 6 i))] _
    refine v_ret (hz_X12_isAtWord hT _ _ rfl) (Or.inl rfl) ?_
    exact k0 
theorem rx_isTo {D : zD} {T : zT} (hT : hTab T) (hO : vOK T) {N : Nat} {h : zH} {Q : zR → Prop} {B : Nat → Int} {n m i : Nat} {τ : PT} (hX : rX B n m τ i h)
    (k0 : Q (h, some (0, (bW τ 7 i)))) :
    vP D T N 262 0 h [some (2, 121)] [] Q := by
  refine v_load (v := (2, 121)) (hz_X12_isTo hT _ _ rfl) rfl rfl ?_
  refine v_push (116) (hz_X12_isTo hT _ _ rfl) rfl ?_
  refine v_push (111) (hz_X12_isTo hT _ _ rfl) rfl ?_
  refine v_push (0) (hz_X12_isTo hT _ _ rfl) rfl ?_
  refine v_push (0) (hz_X12_isTo hT _ _ rfl) rfl ?_
  refine v_push (0) (hz_X12_isTo hT _ _ rfl) rfl ?_
  refine v_push (0) (hz_X12_isTo hT _ _ rfl) rfl ?_
  refine v_call (w := 8) [some (0, 116), some (0, 111), some (0, 0), some (0, 0), some (0, 0), some (0, 0), none, none] hO (hz_X12_isTo hT _ _ rfl) rfl rfl ?_
  refine v_load (v := (0, 116)) (hi_X12_spelled_0 hT) rfl rfl ?_
  refine v_i2l (hi_X12_spelled_1 hT) ?_
  refine v_push (96) (hi_X12_spelled_2 hT) rfl ?_
  refine v_bin64 (w := (116 - 96)) (hi_X12_spelled_5 hT) (vz_subL (by omega) (by omega)) ?_
  refine v_push (32) (hi_X12_spelled_6 hT) rfl ?_
  refine v_bin64 (w := ((116 - 96) * 32)) (hi_X12_spelled_9 hT) (vz_mulL (by omega) (by omega)) ?_
  refine v_load (v := (0, 111)) (hi_X12_spelled_10 hT) rfl rfl ?_
  refine v_i2l (hi_X12_spelled_11 hT) ?_
  refine v_bin64 (w := (((116 - 96) * 32) + 111)) (hi_X12_spelled_12 hT) (vz_addL (by omega) (by omega)) ?_
  refine v_push (96) (hi_X12_spelled_13 hT) rfl ?_
  refine v_bin64 (w := ((((116 - 96) * 32) + 111) - 96)) (hi_X12_spelled_16 hT) (vz_subL (by omega) (by omega)) ?_
  refine v_store2 [some (0, 116), some (0, 111), some (0, 0), some (0, 0), some (0, 0), some (0, 0), some (1, ((((116 - 96) * 32) + 111) - 96)), none] (hi_X12_spelled_17 hT) (Nat.le_of_ble_eq_true rfl) rfl ?_
  refine v_load (v := (0, 0)) (hi_X12_spelled_19 hT) rfl rfl ?_
  refine v_if (hi_X12_spelled_20 hT) (fun hc1 => absurd (show 0 < (0 : Int) from hc1) (by decide)) (fun _ => ?_)
  refine v_load (v := (1, ((((116 - 96) * 32) + 111) - 96))) (hi_X12_spelled_39 hT) rfl rfl ?_
  refine v_store2 [some (0, 116), some (0, 111), some (0, 0), some (0, 0), some (0, 0), some (0, 0), some (1, ((((116 - 96) * 32) + 111) - 96)), none] (hi_X12_spelled_41 hT) (Nat.le_of_ble_eq_true rfl) rfl ?_
  refine v_load (v := (0, 0)) (hi_X12_spelled_43 hT) rfl rfl ?_
  refine v_if (hi_X12_spelled_44 hT) (fun hc2 => absurd (show 0 < (0 : Int) from hc2) (by decide)) (fun _ => ?_)
  refine v_load (v := (1, ((((116 - 96) * 32) + 111) - 96))) (hi_X12_spelled_63 hT) rfl rfl ?_
  refine v_store2 [some (0, 116), some (0, 111), some (0, 0), some (0, 0), some (0, 0), some (0, 0), some (1, ((((116 - 96) * 32) + 111) - 96)), none] (hi_X12_spelled_65 hT) (Nat.le_of_ble_eq_true rfl) rfl ?_
  refine v_load (v := (0, 0)) (hi_X12_spelled_67 hT) rfl rfl ?_
  refine v_if (hi_X12_spelled_69 hT) (fun hc3 => absurd (show 0 < (0 : Int) from hc3) (by decide)) (fun _ => ?_)
  refine v_load (v := (1, ((((116 - 96) * 32) + 111) - 96))) (hi_X12_spelled_89 hT) rfl rfl ?_
  refine v_store2 [some (0, 116), some (0, 111), some (0, 0), some (0, 0), some (0, 0), some (0, 0), some (1, ((((116 - 96) * 32) + 111) - 96)), none] (hi_X12_spelled_91 hT) (Nat.le_of_ble_eq_true rfl) rfl ?_
  refine v_load (v := (0, 0)) (hi_X12_spelled_93 hT) rfl rfl ?_
  refine v_if (hi_X12_spelled_95 hT) (fun hc4 => absurd (show 0 < (0 : Int) from hc4) (by decide)) (fun _ => ?_)
  refine v_load (v := (1, ((((116 - 96) * 32) + 111) - 96))) (hi_X12_spelled_115 hT) rfl rfl ?_
  refine v_ret (hi_X12_spelled_117 hT) (Or.inr rfl) ?_
  show vP D T N 262 12 h [some (2, 121)] [(1, ((((116 - 96) * 32) + 111) - 96)), (2, 121)] _
  refine v_call (w := 3) [some (2, 121), some (1, ((((116 - 96) * 32) + 111) - 96)), none] hO (hz_X12_isTo hT _ _ rfl) rfl rfl (rx_isW hT hO (((((116 - 96) * 32) + 111) - 96)) 7 [116, 111] (by decide +kernel) rfl hX ?_)
  · show vP D T N 262 15 h [some (2, 121)] [(0, (bW τ 7 i))] _
    refine v_ret (hz_X12_isTo hT _ _ rfl) (Or.inl rfl) ?_
    exact k0 
theorem rx_isEnd {D : zD} {T : zT} (hT : hTab T) (hO : vOK T) {N : Nat} {h : zH} {Q : zR → Prop} {B : Nat → Int} {n m i : Nat} {τ : PT} (hX : rX B n m τ i h)
    (k0 : Q (h, some (0, (bW τ 20 i)))) :
    vP D T N 250 0 h [some (2, 121)] [] Q := by
  refine v_load (v := (2, 121)) (hz_X12_isEnd hT _ _ rfl) rfl rfl ?_
  refine v_push (101) (hz_X12_isEnd hT _ _ rfl) rfl ?_
  refine v_push (110) (hz_X12_isEnd hT _ _ rfl) rfl ?_
  refine v_push (100) (hz_X12_isEnd hT _ _ rfl) rfl ?_
  refine v_push (0) (hz_X12_isEnd hT _ _ rfl) rfl ?_
  refine v_push (0) (hz_X12_isEnd hT _ _ rfl) rfl ?_
  refine v_push (0) (hz_X12_isEnd hT _ _ rfl) rfl ?_
  refine v_call (w := 8) [some (0, 101), some (0, 110), some (0, 100), some (0, 0), some (0, 0), some (0, 0), none, none] hO (hz_X12_isEnd hT _ _ rfl) rfl rfl ?_
  refine v_load (v := (0, 101)) (hi_X12_spelled_0 hT) rfl rfl ?_
  refine v_i2l (hi_X12_spelled_1 hT) ?_
  refine v_push (96) (hi_X12_spelled_2 hT) rfl ?_
  refine v_bin64 (w := (101 - 96)) (hi_X12_spelled_5 hT) (vz_subL (by omega) (by omega)) ?_
  refine v_push (32) (hi_X12_spelled_6 hT) rfl ?_
  refine v_bin64 (w := ((101 - 96) * 32)) (hi_X12_spelled_9 hT) (vz_mulL (by omega) (by omega)) ?_
  refine v_load (v := (0, 110)) (hi_X12_spelled_10 hT) rfl rfl ?_
  refine v_i2l (hi_X12_spelled_11 hT) ?_
  refine v_bin64 (w := (((101 - 96) * 32) + 110)) (hi_X12_spelled_12 hT) (vz_addL (by omega) (by omega)) ?_
  refine v_push (96) (hi_X12_spelled_13 hT) rfl ?_
  refine v_bin64 (w := ((((101 - 96) * 32) + 110) - 96)) (hi_X12_spelled_16 hT) (vz_subL (by omega) (by omega)) ?_
  refine v_store2 [some (0, 101), some (0, 110), some (0, 100), some (0, 0), some (0, 0), some (0, 0), some (1, ((((101 - 96) * 32) + 110) - 96)), none] (hi_X12_spelled_17 hT) (Nat.le_of_ble_eq_true rfl) rfl ?_
  refine v_load (v := (0, 100)) (hi_X12_spelled_19 hT) rfl rfl ?_
  refine v_if (hi_X12_spelled_20 hT) (fun _ => ?_) (fun hc1 => absurd (show 0 < (100 : Int) from (by decide)) hc1)
  refine v_load (v := (1, ((((101 - 96) * 32) + 110) - 96))) (hi_X12_spelled_23 hT) rfl rfl ?_
  refine v_push (32) (hi_X12_spelled_25 hT) rfl ?_
  refine v_bin64 (w := (((((101 - 96) * 32) + 110) - 96) * 32)) (hi_X12_spelled_28 hT) (vz_mulL (by omega) (by omega)) ?_
  refine v_load (v := (0, 100)) (hi_X12_spelled_29 hT) rfl rfl ?_
  refine v_i2l (hi_X12_spelled_30 hT) ?_
  refine v_bin64 (w := ((((((101 - 96) * 32) + 110) - 96) * 32) + 100)) (hi_X12_spelled_31 hT) (vz_addL (by omega) (by omega)) ?_
  refine v_push (96) (hi_X12_spelled_32 hT) rfl ?_
  refine v_bin64 (w := (((((((101 - 96) * 32) + 110) - 96) * 32) + 100) - 96)) (hi_X12_spelled_35 hT) (vz_subL (by omega) (by omega)) ?_
  refine v_goto (hi_X12_spelled_36 hT) ?_
  refine v_store2 [some (0, 101), some (0, 110), some (0, 100), some (0, 0), some (0, 0), some (0, 0), some (1, (((((((101 - 96) * 32) + 110) - 96) * 32) + 100) - 96)), none] (hi_X12_spelled_41 hT) (Nat.le_of_ble_eq_true rfl) rfl ?_
  refine v_load (v := (0, 0)) (hi_X12_spelled_43 hT) rfl rfl ?_
  refine v_if (hi_X12_spelled_44 hT) (fun hc2 => absurd (show 0 < (0 : Int) from hc2) (by decide)) (fun _ => ?_)
  refine v_load (v := (1, (((((((101 - 96) * 32) + 110) - 96) * 32) + 100) - 96))) (hi_X12_spelled_63 hT) rfl rfl ?_
  refine v_store2 [some (0, 101), some (0, 110), some (0, 100), some (0, 0), some (0, 0), some (0, 0), some (1, (((((((101 - 96) * 32) + 110) - 96) * 32) + 100) - 96)), none] (hi_X12_spelled_65 hT) (Nat.le_of_ble_eq_true rfl) rfl ?_
  refine v_load (v := (0, 0)) (hi_X12_spelled_67 hT) rfl rfl ?_
  refine v_if (hi_X12_spelled_69 hT) (fun hc3 => absurd (show 0 < (0 : Int) from hc3) (by decide)) (fun _ => ?_)
  refine v_load (v := (1, (((((((101 - 96) * 32) + 110) - 96) * 32) + 100) - 96))) (hi_X12_spelled_89 hT) rfl rfl ?_
  refine v_store2 [some (0, 101), some (0, 110), some (0, 100), some (0, 0), some (0, 0), some (0, 0), some (1, (((((((101 - 96) * 32) + 110) - 96) * 32) + 100) - 96)), none] (hi_X12_spelled_91 hT) (Nat.le_of_ble_eq_true rfl) rfl ?_
  refine v_load (v := (0, 0)) (hi_X12_spelled_93 hT) rfl rfl ?_
  refine v_if (hi_X12_spelled_95 hT) (fun hc4 => absurd (show 0 < (0 : Int) from hc4) (by decide)) (fun _ => ?_)
  refine v_load (v := (1, (((((((101 - 96) * 32) + 110) - 96) * 32) + 100) - 96))) (hi_X12_spelled_115 hT) rfl rfl ?_
  refine v_ret (hi_X12_spelled_117 hT) (Or.inr rfl) ?_
  show vP D T N 250 13 h [some (2, 121)] [(1, (((((((101 - 96) * 32) + 110) - 96) * 32) + 100) - 96)), (2, 121)] _
  refine v_call (w := 3) [some (2, 121), some (1, (((((((101 - 96) * 32) + 110) - 96) * 32) + 100) - 96)), none] hO (hz_X12_isEnd hT _ _ rfl) rfl rfl (rx_isW hT hO ((((((((101 - 96) * 32) + 110) - 96) * 32) + 100) - 96)) 20 [101, 110, 100] (by decide +kernel) rfl hX ?_)
  · show vP D T N 250 16 h [some (2, 121)] [(0, (bW τ 20 i))] _
    refine v_ret (hz_X12_isEnd hT _ _ rfl) (Or.inl rfl) ?_
    exact k0 
def swd (τ : PT) (i : Nat) : Int := if bW τ 8 i ≠ 0 then 0 else if bW τ 9 i ≠ 0 then 1 else if bW τ 10 i ≠ 0 then 2 else if bW τ 11 i ≠ 0 then 3 else if bW τ 12 i ≠ 0 then 4 else if bW τ 13 i ≠ 0 then 5 else if bW τ 14 i ≠ 0 then 6 else if bW τ 15 i ≠ 0 then 7 else if bW τ 19 i ≠ 0 then 8 else if bW τ 21 i ≠ 0 then 9 else -1
def twd (τ : PT) (i : Nat) : Int := if bW τ 16 i ≠ 0 then 0 else if bW τ 17 i ≠ 0 then 1 else if bW τ 18 i ≠ 0 then 2 else -1
theorem qx_stepWord {D : zD} {T : zT} (hT : hTab T) (hO : vOK T) {N : Nat} {h : zH} {Q : zR → Prop} {B : Nat → Int} {n m i : Nat} {τ : PT} (hX : rX B n m τ i h)
    (k0 : ((bW τ 8 i) = 0) → ((bW τ 9 i) = 0) → ((bW τ 10 i) = 0) → ((bW τ 11 i) = 0) → ((bW τ 12 i) = 0) → ((bW τ 13 i) = 0) → ((bW τ 14 i) = 0) → ((bW τ 15 i) = 0) → ((bW τ 19 i) = 0) → ((bW τ 21 i) = 0) → Q (h, some (0, -1)))
    (k1 : ((bW τ 8 i) = 0) → ((bW τ 9 i) = 0) → ((bW τ 10 i) = 0) → ((bW τ 11 i) = 0) → ((bW τ 12 i) = 0) → ((bW τ 13 i) = 0) → ((bW τ 14 i) = 0) → ((bW τ 15 i) = 0) → ((bW τ 19 i) = 0) → ((bW τ 21 i) ≠ 0) → Q (h, some (0, 9)))
    (k2 : ((bW τ 8 i) = 0) → ((bW τ 9 i) = 0) → ((bW τ 10 i) = 0) → ((bW τ 11 i) = 0) → ((bW τ 12 i) = 0) → ((bW τ 13 i) = 0) → ((bW τ 14 i) = 0) → ((bW τ 15 i) = 0) → ((bW τ 19 i) ≠ 0) → Q (h, some (0, 8)))
    (k3 : ((bW τ 8 i) = 0) → ((bW τ 9 i) = 0) → ((bW τ 10 i) = 0) → ((bW τ 11 i) = 0) → ((bW τ 12 i) = 0) → ((bW τ 13 i) = 0) → ((bW τ 14 i) = 0) → ((bW τ 15 i) ≠ 0) → Q (h, some (0, 7)))
    (k4 : ((bW τ 8 i) = 0) → ((bW τ 9 i) = 0) → ((bW τ 10 i) = 0) → ((bW τ 11 i) = 0) → ((bW τ 12 i) = 0) → ((bW τ 13 i) = 0) → ((bW τ 14 i) ≠ 0) → Q (h, some (0, 6)))
    (k5 : ((bW τ 8 i) = 0) → ((bW τ 9 i) = 0) → ((bW τ 10 i) = 0) → ((bW τ 11 i) = 0) → ((bW τ 12 i) = 0) → ((bW τ 13 i) ≠ 0) → Q (h, some (0, 5)))
    (k6 : ((bW τ 8 i) = 0) → ((bW τ 9 i) = 0) → ((bW τ 10 i) = 0) → ((bW τ 11 i) = 0) → ((bW τ 12 i) ≠ 0) → Q (h, some (0, 4)))
    (k7 : ((bW τ 8 i) = 0) → ((bW τ 9 i) = 0) → ((bW τ 10 i) = 0) → ((bW τ 11 i) ≠ 0) → Q (h, some (0, 3)))
    (k8 : ((bW τ 8 i) = 0) → ((bW τ 9 i) = 0) → ((bW τ 10 i) ≠ 0) → Q (h, some (0, 2)))
    (k9 : ((bW τ 8 i) = 0) → ((bW τ 9 i) ≠ 0) → Q (h, some (0, 1)))
    (k10 : ((bW τ 8 i) ≠ 0) → Q (h, some (0, 0))) :
    vP D T N 318 0 h [some (2, 121)] [] Q := by
  refine v_load (v := (2, 121)) (hz_X12_stepWord hT _ _ rfl) rfl rfl ?_
  refine v_push (98) (hz_X12_stepWord hT _ _ rfl) rfl ?_
  refine v_push (105) (hz_X12_stepWord hT _ _ rfl) rfl ?_
  refine v_push (116) (hz_X12_stepWord hT _ _ rfl) rfl ?_
  refine v_push (101) (hz_X12_stepWord hT _ _ rfl) rfl ?_
  refine v_push (0) (hz_X12_stepWord hT _ _ rfl) rfl ?_
  refine v_push (0) (hz_X12_stepWord hT _ _ rfl) rfl ?_
  refine v_call (w := 8) [some (0, 98), some (0, 105), some (0, 116), some (0, 101), some (0, 0), some (0, 0), none, none] hO (hz_X12_stepWord hT _ _ rfl) rfl rfl ?_
  refine v_load (v := (0, 98)) (hi_X12_spelled_0 hT) rfl rfl ?_
  refine v_i2l (hi_X12_spelled_1 hT) ?_
  refine v_push (96) (hi_X12_spelled_2 hT) rfl ?_
  refine v_bin64 (w := (98 - 96)) (hi_X12_spelled_5 hT) (vz_subL (by omega) (by omega)) ?_
  refine v_push (32) (hi_X12_spelled_6 hT) rfl ?_
  refine v_bin64 (w := ((98 - 96) * 32)) (hi_X12_spelled_9 hT) (vz_mulL (by omega) (by omega)) ?_
  refine v_load (v := (0, 105)) (hi_X12_spelled_10 hT) rfl rfl ?_
  refine v_i2l (hi_X12_spelled_11 hT) ?_
  refine v_bin64 (w := (((98 - 96) * 32) + 105)) (hi_X12_spelled_12 hT) (vz_addL (by omega) (by omega)) ?_
  refine v_push (96) (hi_X12_spelled_13 hT) rfl ?_
  refine v_bin64 (w := ((((98 - 96) * 32) + 105) - 96)) (hi_X12_spelled_16 hT) (vz_subL (by omega) (by omega)) ?_
  refine v_store2 [some (0, 98), some (0, 105), some (0, 116), some (0, 101), some (0, 0), some (0, 0), some (1, ((((98 - 96) * 32) + 105) - 96)), none] (hi_X12_spelled_17 hT) (Nat.le_of_ble_eq_true rfl) rfl ?_
  refine v_load (v := (0, 116)) (hi_X12_spelled_19 hT) rfl rfl ?_
  refine v_if (hi_X12_spelled_20 hT) (fun _ => ?_) (fun hc1 => absurd (show 0 < (116 : Int) from (by decide)) hc1)
  refine v_load (v := (1, ((((98 - 96) * 32) + 105) - 96))) (hi_X12_spelled_23 hT) rfl rfl ?_
  refine v_push (32) (hi_X12_spelled_25 hT) rfl ?_
  refine v_bin64 (w := (((((98 - 96) * 32) + 105) - 96) * 32)) (hi_X12_spelled_28 hT) (vz_mulL (by omega) (by omega)) ?_
  refine v_load (v := (0, 116)) (hi_X12_spelled_29 hT) rfl rfl ?_
  refine v_i2l (hi_X12_spelled_30 hT) ?_
  refine v_bin64 (w := ((((((98 - 96) * 32) + 105) - 96) * 32) + 116)) (hi_X12_spelled_31 hT) (vz_addL (by omega) (by omega)) ?_
  refine v_push (96) (hi_X12_spelled_32 hT) rfl ?_
  refine v_bin64 (w := (((((((98 - 96) * 32) + 105) - 96) * 32) + 116) - 96)) (hi_X12_spelled_35 hT) (vz_subL (by omega) (by omega)) ?_
  refine v_goto (hi_X12_spelled_36 hT) ?_
  refine v_store2 [some (0, 98), some (0, 105), some (0, 116), some (0, 101), some (0, 0), some (0, 0), some (1, (((((((98 - 96) * 32) + 105) - 96) * 32) + 116) - 96)), none] (hi_X12_spelled_41 hT) (Nat.le_of_ble_eq_true rfl) rfl ?_
  refine v_load (v := (0, 101)) (hi_X12_spelled_43 hT) rfl rfl ?_
  refine v_if (hi_X12_spelled_44 hT) (fun _ => ?_) (fun hc2 => absurd (show 0 < (101 : Int) from (by decide)) hc2)
  refine v_load (v := (1, (((((((98 - 96) * 32) + 105) - 96) * 32) + 116) - 96))) (hi_X12_spelled_47 hT) rfl rfl ?_
  refine v_push (32) (hi_X12_spelled_49 hT) rfl ?_
  refine v_bin64 (w := ((((((((98 - 96) * 32) + 105) - 96) * 32) + 116) - 96) * 32)) (hi_X12_spelled_52 hT) (vz_mulL (by omega) (by omega)) ?_
  refine v_load (v := (0, 101)) (hi_X12_spelled_53 hT) rfl rfl ?_
  refine v_i2l (hi_X12_spelled_54 hT) ?_
  refine v_bin64 (w := (((((((((98 - 96) * 32) + 105) - 96) * 32) + 116) - 96) * 32) + 101)) (hi_X12_spelled_55 hT) (vz_addL (by omega) (by omega)) ?_
  refine v_push (96) (hi_X12_spelled_56 hT) rfl ?_
  refine v_bin64 (w := ((((((((((98 - 96) * 32) + 105) - 96) * 32) + 116) - 96) * 32) + 101) - 96)) (hi_X12_spelled_59 hT) (vz_subL (by omega) (by omega)) ?_
  refine v_goto (hi_X12_spelled_60 hT) ?_
  refine v_store2 [some (0, 98), some (0, 105), some (0, 116), some (0, 101), some (0, 0), some (0, 0), some (1, ((((((((((98 - 96) * 32) + 105) - 96) * 32) + 116) - 96) * 32) + 101) - 96)), none] (hi_X12_spelled_65 hT) (Nat.le_of_ble_eq_true rfl) rfl ?_
  refine v_load (v := (0, 0)) (hi_X12_spelled_67 hT) rfl rfl ?_
  refine v_if (hi_X12_spelled_69 hT) (fun hc3 => absurd (show 0 < (0 : Int) from hc3) (by decide)) (fun _ => ?_)
  refine v_load (v := (1, ((((((((((98 - 96) * 32) + 105) - 96) * 32) + 116) - 96) * 32) + 101) - 96))) (hi_X12_spelled_89 hT) rfl rfl ?_
  refine v_store2 [some (0, 98), some (0, 105), some (0, 116), some (0, 101), some (0, 0), some (0, 0), some (1, ((((((((((98 - 96) * 32) + 105) - 96) * 32) + 116) - 96) * 32) + 101) - 96)), none] (hi_X12_spelled_91 hT) (Nat.le_of_ble_eq_true rfl) rfl ?_
  refine v_load (v := (0, 0)) (hi_X12_spelled_93 hT) rfl rfl ?_
  refine v_if (hi_X12_spelled_95 hT) (fun hc4 => absurd (show 0 < (0 : Int) from hc4) (by decide)) (fun _ => ?_)
  refine v_load (v := (1, ((((((((((98 - 96) * 32) + 105) - 96) * 32) + 116) - 96) * 32) + 101) - 96))) (hi_X12_spelled_115 hT) rfl rfl ?_
  refine v_ret (hi_X12_spelled_117 hT) (Or.inr rfl) ?_
  show vP D T N 318 14 h [some (2, 121)] [(1, ((((((((((98 - 96) * 32) + 105) - 96) * 32) + 116) - 96) * 32) + 101) - 96)), (2, 121)] _
  refine v_call (w := 3) [some (2, 121), some (1, ((((((((((98 - 96) * 32) + 105) - 96) * 32) + 116) - 96) * 32) + 101) - 96)), none] hO (hz_X12_stepWord hT _ _ rfl) rfl rfl (rx_isW hT hO (((((((((((98 - 96) * 32) + 105) - 96) * 32) + 116) - 96) * 32) + 101) - 96)) 8 [98, 105, 116, 101] (by decide +kernel) rfl hX ?_)
  · show vP D T N 318 17 h [some (2, 121)] [(0, (bW τ 8 i))] _
    refine v_if (hz_X12_stepWord hT _ _ rfl) (fun hc5 => ?_) (fun hc5 => ?_)
    · have hc5 : (bW τ 8 i) = 0 := hc5
      refine v_load (v := (2, 121)) (hz_X12_stepWord hT _ _ rfl) rfl rfl ?_
      refine v_push (109) (hz_X12_stepWord hT _ _ rfl) rfl ?_
      refine v_push (111) (hz_X12_stepWord hT _ _ rfl) rfl ?_
      refine v_push (117) (hz_X12_stepWord hT _ _ rfl) rfl ?_
      refine v_push (108) (hz_X12_stepWord hT _ _ rfl) rfl ?_
      refine v_push (100) (hz_X12_stepWord hT _ _ rfl) rfl ?_
      refine v_push (0) (hz_X12_stepWord hT _ _ rfl) rfl ?_
      refine v_call (w := 8) [some (0, 109), some (0, 111), some (0, 117), some (0, 108), some (0, 100), some (0, 0), none, none] hO (hz_X12_stepWord hT _ _ rfl) rfl rfl ?_
      refine v_load (v := (0, 109)) (hi_X12_spelled_0 hT) rfl rfl ?_
      refine v_i2l (hi_X12_spelled_1 hT) ?_
      refine v_push (96) (hi_X12_spelled_2 hT) rfl ?_
      refine v_bin64 (w := (109 - 96)) (hi_X12_spelled_5 hT) (vz_subL (by omega) (by omega)) ?_
      refine v_push (32) (hi_X12_spelled_6 hT) rfl ?_
      refine v_bin64 (w := ((109 - 96) * 32)) (hi_X12_spelled_9 hT) (vz_mulL (by omega) (by omega)) ?_
      refine v_load (v := (0, 111)) (hi_X12_spelled_10 hT) rfl rfl ?_
      refine v_i2l (hi_X12_spelled_11 hT) ?_
      refine v_bin64 (w := (((109 - 96) * 32) + 111)) (hi_X12_spelled_12 hT) (vz_addL (by omega) (by omega)) ?_
      refine v_push (96) (hi_X12_spelled_13 hT) rfl ?_
      refine v_bin64 (w := ((((109 - 96) * 32) + 111) - 96)) (hi_X12_spelled_16 hT) (vz_subL (by omega) (by omega)) ?_
      refine v_store2 [some (0, 109), some (0, 111), some (0, 117), some (0, 108), some (0, 100), some (0, 0), some (1, ((((109 - 96) * 32) + 111) - 96)), none] (hi_X12_spelled_17 hT) (Nat.le_of_ble_eq_true rfl) rfl ?_
      refine v_load (v := (0, 117)) (hi_X12_spelled_19 hT) rfl rfl ?_
      refine v_if (hi_X12_spelled_20 hT) (fun _ => ?_) (fun hc6 => absurd (show 0 < (117 : Int) from (by decide)) hc6)
      refine v_load (v := (1, ((((109 - 96) * 32) + 111) - 96))) (hi_X12_spelled_23 hT) rfl rfl ?_
      refine v_push (32) (hi_X12_spelled_25 hT) rfl ?_
      refine v_bin64 (w := (((((109 - 96) * 32) + 111) - 96) * 32)) (hi_X12_spelled_28 hT) (vz_mulL (by omega) (by omega)) ?_
      refine v_load (v := (0, 117)) (hi_X12_spelled_29 hT) rfl rfl ?_
      refine v_i2l (hi_X12_spelled_30 hT) ?_
      refine v_bin64 (w := ((((((109 - 96) * 32) + 111) - 96) * 32) + 117)) (hi_X12_spelled_31 hT) (vz_addL (by omega) (by omega)) ?_
      refine v_push (96) (hi_X12_spelled_32 hT) rfl ?_
      refine v_bin64 (w := (((((((109 - 96) * 32) + 111) - 96) * 32) + 117) - 96)) (hi_X12_spelled_35 hT) (vz_subL (by omega) (by omega)) ?_
      refine v_goto (hi_X12_spelled_36 hT) ?_
      refine v_store2 [some (0, 109), some (0, 111), some (0, 117), some (0, 108), some (0, 100), some (0, 0), some (1, (((((((109 - 96) * 32) + 111) - 96) * 32) + 117) - 96)), none] (hi_X12_spelled_41 hT) (Nat.le_of_ble_eq_true rfl) rfl ?_
      refine v_load (v := (0, 108)) (hi_X12_spelled_43 hT) rfl rfl ?_
      refine v_if (hi_X12_spelled_44 hT) (fun _ => ?_) (fun hc7 => absurd (show 0 < (108 : Int) from (by decide)) hc7)
      refine v_load (v := (1, (((((((109 - 96) * 32) + 111) - 96) * 32) + 117) - 96))) (hi_X12_spelled_47 hT) rfl rfl ?_
      refine v_push (32) (hi_X12_spelled_49 hT) rfl ?_
      refine v_bin64 (w := ((((((((109 - 96) * 32) + 111) - 96) * 32) + 117) - 96) * 32)) (hi_X12_spelled_52 hT) (vz_mulL (by omega) (by omega)) ?_
      refine v_load (v := (0, 108)) (hi_X12_spelled_53 hT) rfl rfl ?_
      refine v_i2l (hi_X12_spelled_54 hT) ?_
      refine v_bin64 (w := (((((((((109 - 96) * 32) + 111) - 96) * 32) + 117) - 96) * 32) + 108)) (hi_X12_spelled_55 hT) (vz_addL (by omega) (by omega)) ?_
      refine v_push (96) (hi_X12_spelled_56 hT) rfl ?_
      refine v_bin64 (w := ((((((((((109 - 96) * 32) + 111) - 96) * 32) + 117) - 96) * 32) + 108) - 96)) (hi_X12_spelled_59 hT) (vz_subL (by omega) (by omega)) ?_
      refine v_goto (hi_X12_spelled_60 hT) ?_
      refine v_store2 [some (0, 109), some (0, 111), some (0, 117), some (0, 108), some (0, 100), some (0, 0), some (1, ((((((((((109 - 96) * 32) + 111) - 96) * 32) + 117) - 96) * 32) + 108) - 96)), none] (hi_X12_spelled_65 hT) (Nat.le_of_ble_eq_true rfl) rfl ?_
      refine v_load (v := (0, 100)) (hi_X12_spelled_67 hT) rfl rfl ?_
      refine v_if (hi_X12_spelled_69 hT) (fun _ => ?_) (fun hc8 => absurd (show 0 < (100 : Int) from (by decide)) hc8)
      refine v_load (v := (1, ((((((((((109 - 96) * 32) + 111) - 96) * 32) + 117) - 96) * 32) + 108) - 96))) (hi_X12_spelled_72 hT) rfl rfl ?_
      refine v_push (32) (hi_X12_spelled_74 hT) rfl ?_
      refine v_bin64 (w := (((((((((((109 - 96) * 32) + 111) - 96) * 32) + 117) - 96) * 32) + 108) - 96) * 32)) (hi_X12_spelled_77 hT) (vz_mulL (by omega) (by omega)) ?_
      refine v_load (v := (0, 100)) (hi_X12_spelled_78 hT) rfl rfl ?_
      refine v_i2l (hi_X12_spelled_80 hT) ?_
      refine v_bin64 (w := ((((((((((((109 - 96) * 32) + 111) - 96) * 32) + 117) - 96) * 32) + 108) - 96) * 32) + 100)) (hi_X12_spelled_81 hT) (vz_addL (by omega) (by omega)) ?_
      refine v_push (96) (hi_X12_spelled_82 hT) rfl ?_
      refine v_bin64 (w := (((((((((((((109 - 96) * 32) + 111) - 96) * 32) + 117) - 96) * 32) + 108) - 96) * 32) + 100) - 96)) (hi_X12_spelled_85 hT) (vz_subL (by omega) (by omega)) ?_
      refine v_goto (hi_X12_spelled_86 hT) ?_
      refine v_store2 [some (0, 109), some (0, 111), some (0, 117), some (0, 108), some (0, 100), some (0, 0), some (1, (((((((((((((109 - 96) * 32) + 111) - 96) * 32) + 117) - 96) * 32) + 108) - 96) * 32) + 100) - 96)), none] (hi_X12_spelled_91 hT) (Nat.le_of_ble_eq_true rfl) rfl ?_
      refine v_load (v := (0, 0)) (hi_X12_spelled_93 hT) rfl rfl ?_
      refine v_if (hi_X12_spelled_95 hT) (fun hc9 => absurd (show 0 < (0 : Int) from hc9) (by decide)) (fun _ => ?_)
      refine v_load (v := (1, (((((((((((((109 - 96) * 32) + 111) - 96) * 32) + 117) - 96) * 32) + 108) - 96) * 32) + 100) - 96))) (hi_X12_spelled_115 hT) rfl rfl ?_
      refine v_ret (hi_X12_spelled_117 hT) (Or.inr rfl) ?_
      show vP D T N 318 37 h [some (2, 121)] [(1, (((((((((((((109 - 96) * 32) + 111) - 96) * 32) + 117) - 96) * 32) + 108) - 96) * 32) + 100) - 96)), (2, 121)] _
      refine v_call (w := 3) [some (2, 121), some (1, (((((((((((((109 - 96) * 32) + 111) - 96) * 32) + 117) - 96) * 32) + 108) - 96) * 32) + 100) - 96)), none] hO (hz_X12_stepWord hT _ _ rfl) rfl rfl (rx_isW hT hO ((((((((((((((109 - 96) * 32) + 111) - 96) * 32) + 117) - 96) * 32) + 108) - 96) * 32) + 100) - 96)) 9 [109, 111, 117, 108, 100] (by decide +kernel) rfl hX ?_)
      · show vP D T N 318 40 h [some (2, 121)] [(0, (bW τ 9 i))] _
        refine v_if (hz_X12_stepWord hT _ _ rfl) (fun hc10 => ?_) (fun hc10 => ?_)
        · have hc10 : (bW τ 9 i) = 0 := hc10
          refine v_load (v := (2, 121)) (hz_X12_stepWord hT _ _ rfl) rfl rfl ?_
          refine v_push (104) (hz_X12_stepWord hT _ _ rfl) rfl ?_
          refine v_push (111) (hz_X12_stepWord hT _ _ rfl) rfl ?_
          refine v_push (110) (hz_X12_stepWord hT _ _ rfl) rfl ?_
          refine v_push (101) (hz_X12_stepWord hT _ _ rfl) rfl ?_
          refine v_push (121) (hz_X12_stepWord hT _ _ rfl) rfl ?_
          refine v_push (0) (hz_X12_stepWord hT _ _ rfl) rfl ?_
          refine v_call (w := 8) [some (0, 104), some (0, 111), some (0, 110), some (0, 101), some (0, 121), some (0, 0), none, none] hO (hz_X12_stepWord hT _ _ rfl) rfl rfl ?_
          refine v_load (v := (0, 104)) (hi_X12_spelled_0 hT) rfl rfl ?_
          refine v_i2l (hi_X12_spelled_1 hT) ?_
          refine v_push (96) (hi_X12_spelled_2 hT) rfl ?_
          refine v_bin64 (w := (104 - 96)) (hi_X12_spelled_5 hT) (vz_subL (by omega) (by omega)) ?_
          refine v_push (32) (hi_X12_spelled_6 hT) rfl ?_
          refine v_bin64 (w := ((104 - 96) * 32)) (hi_X12_spelled_9 hT) (vz_mulL (by omega) (by omega)) ?_
          refine v_load (v := (0, 111)) (hi_X12_spelled_10 hT) rfl rfl ?_
          refine v_i2l (hi_X12_spelled_11 hT) ?_
          refine v_bin64 (w := (((104 - 96) * 32) + 111)) (hi_X12_spelled_12 hT) (vz_addL (by omega) (by omega)) ?_
          refine v_push (96) (hi_X12_spelled_13 hT) rfl ?_
          refine v_bin64 (w := ((((104 - 96) * 32) + 111) - 96)) (hi_X12_spelled_16 hT) (vz_subL (by omega) (by omega)) ?_
          refine v_store2 [some (0, 104), some (0, 111), some (0, 110), some (0, 101), some (0, 121), some (0, 0), some (1, ((((104 - 96) * 32) + 111) - 96)), none] (hi_X12_spelled_17 hT) (Nat.le_of_ble_eq_true rfl) rfl ?_
          refine v_load (v := (0, 110)) (hi_X12_spelled_19 hT) rfl rfl ?_
          refine v_if (hi_X12_spelled_20 hT) (fun _ => ?_) (fun hc11 => absurd (show 0 < (110 : Int) from (by decide)) hc11)
          refine v_load (v := (1, ((((104 - 96) * 32) + 111) - 96))) (hi_X12_spelled_23 hT) rfl rfl ?_
          refine v_push (32) (hi_X12_spelled_25 hT) rfl ?_
          refine v_bin64 (w := (((((104 - 96) * 32) + 111) - 96) * 32)) (hi_X12_spelled_28 hT) (vz_mulL (by omega) (by omega)) ?_
          refine v_load (v := (0, 110)) (hi_X12_spelled_29 hT) rfl rfl ?_
          refine v_i2l (hi_X12_spelled_30 hT) ?_
          refine v_bin64 (w := ((((((104 - 96) * 32) + 111) - 96) * 32) + 110)) (hi_X12_spelled_31 hT) (vz_addL (by omega) (by omega)) ?_
          refine v_push (96) (hi_X12_spelled_32 hT) rfl ?_
          refine v_bin64 (w := (((((((104 - 96) * 32) + 111) - 96) * 32) + 110) - 96)) (hi_X12_spelled_35 hT) (vz_subL (by omega) (by omega)) ?_
          refine v_goto (hi_X12_spelled_36 hT) ?_
          refine v_store2 [some (0, 104), some (0, 111), some (0, 110), some (0, 101), some (0, 121), some (0, 0), some (1, (((((((104 - 96) * 32) + 111) - 96) * 32) + 110) - 96)), none] (hi_X12_spelled_41 hT) (Nat.le_of_ble_eq_true rfl) rfl ?_
          refine v_load (v := (0, 101)) (hi_X12_spelled_43 hT) rfl rfl ?_
          refine v_if (hi_X12_spelled_44 hT) (fun _ => ?_) (fun hc12 => absurd (show 0 < (101 : Int) from (by decide)) hc12)
          refine v_load (v := (1, (((((((104 - 96) * 32) + 111) - 96) * 32) + 110) - 96))) (hi_X12_spelled_47 hT) rfl rfl ?_
          refine v_push (32) (hi_X12_spelled_49 hT) rfl ?_
          refine v_bin64 (w := ((((((((104 - 96) * 32) + 111) - 96) * 32) + 110) - 96) * 32)) (hi_X12_spelled_52 hT) (vz_mulL (by omega) (by omega)) ?_
          refine v_load (v := (0, 101)) (hi_X12_spelled_53 hT) rfl rfl ?_
          refine v_i2l (hi_X12_spelled_54 hT) ?_
          refine v_bin64 (w := (((((((((104 - 96) * 32) + 111) - 96) * 32) + 110) - 96) * 32) + 101)) (hi_X12_spelled_55 hT) (vz_addL (by omega) (by omega)) ?_
          refine v_push (96) (hi_X12_spelled_56 hT) rfl ?_
          refine v_bin64 (w := ((((((((((104 - 96) * 32) + 111) - 96) * 32) + 110) - 96) * 32) + 101) - 96)) (hi_X12_spelled_59 hT) (vz_subL (by omega) (by omega)) ?_
          refine v_goto (hi_X12_spelled_60 hT) ?_
          refine v_store2 [some (0, 104), some (0, 111), some (0, 110), some (0, 101), some (0, 121), some (0, 0), some (1, ((((((((((104 - 96) * 32) + 111) - 96) * 32) + 110) - 96) * 32) + 101) - 96)), none] (hi_X12_spelled_65 hT) (Nat.le_of_ble_eq_true rfl) rfl ?_
          refine v_load (v := (0, 121)) (hi_X12_spelled_67 hT) rfl rfl ?_
          refine v_if (hi_X12_spelled_69 hT) (fun _ => ?_) (fun hc13 => absurd (show 0 < (121 : Int) from (by decide)) hc13)
          refine v_load (v := (1, ((((((((((104 - 96) * 32) + 111) - 96) * 32) + 110) - 96) * 32) + 101) - 96))) (hi_X12_spelled_72 hT) rfl rfl ?_
          refine v_push (32) (hi_X12_spelled_74 hT) rfl ?_
          refine v_bin64 (w := (((((((((((104 - 96) * 32) + 111) - 96) * 32) + 110) - 96) * 32) + 101) - 96) * 32)) (hi_X12_spelled_77 hT) (vz_mulL (by omega) (by omega)) ?_
          refine v_load (v := (0, 121)) (hi_X12_spelled_78 hT) rfl rfl ?_
          refine v_i2l (hi_X12_spelled_80 hT) ?_
          refine v_bin64 (w := ((((((((((((104 - 96) * 32) + 111) - 96) * 32) + 110) - 96) * 32) + 101) - 96) * 32) + 121)) (hi_X12_spelled_81 hT) (vz_addL (by omega) (by omega)) ?_
          refine v_push (96) (hi_X12_spelled_82 hT) rfl ?_
          refine v_bin64 (w := (((((((((((((104 - 96) * 32) + 111) - 96) * 32) + 110) - 96) * 32) + 101) - 96) * 32) + 121) - 96)) (hi_X12_spelled_85 hT) (vz_subL (by omega) (by omega)) ?_
          refine v_goto (hi_X12_spelled_86 hT) ?_
          refine v_store2 [some (0, 104), some (0, 111), some (0, 110), some (0, 101), some (0, 121), some (0, 0), some (1, (((((((((((((104 - 96) * 32) + 111) - 96) * 32) + 110) - 96) * 32) + 101) - 96) * 32) + 121) - 96)), none] (hi_X12_spelled_91 hT) (Nat.le_of_ble_eq_true rfl) rfl ?_
          refine v_load (v := (0, 0)) (hi_X12_spelled_93 hT) rfl rfl ?_
          refine v_if (hi_X12_spelled_95 hT) (fun hc14 => absurd (show 0 < (0 : Int) from hc14) (by decide)) (fun _ => ?_)
          refine v_load (v := (1, (((((((((((((104 - 96) * 32) + 111) - 96) * 32) + 110) - 96) * 32) + 101) - 96) * 32) + 121) - 96))) (hi_X12_spelled_115 hT) rfl rfl ?_
          refine v_ret (hi_X12_spelled_117 hT) (Or.inr rfl) ?_
          show vP D T N 318 60 h [some (2, 121)] [(1, (((((((((((((104 - 96) * 32) + 111) - 96) * 32) + 110) - 96) * 32) + 101) - 96) * 32) + 121) - 96)), (2, 121)] _
          refine v_call (w := 3) [some (2, 121), some (1, (((((((((((((104 - 96) * 32) + 111) - 96) * 32) + 110) - 96) * 32) + 101) - 96) * 32) + 121) - 96)), none] hO (hz_X12_stepWord hT _ _ rfl) rfl rfl (rx_isW hT hO ((((((((((((((104 - 96) * 32) + 111) - 96) * 32) + 110) - 96) * 32) + 101) - 96) * 32) + 121) - 96)) 10 [104, 111, 110, 101, 121] (by decide +kernel) rfl hX ?_)
          · show vP D T N 318 63 h [some (2, 121)] [(0, (bW τ 10 i))] _
            refine v_if (hz_X12_stepWord hT _ _ rfl) (fun hc15 => ?_) (fun hc15 => ?_)
            · have hc15 : (bW τ 10 i) = 0 := hc15
              refine v_load (v := (2, 121)) (hz_X12_stepWord hT _ _ rfl) rfl rfl ?_
              refine v_push (115) (hz_X12_stepWord hT _ _ rfl) rfl ?_
              refine v_push (116) (hz_X12_stepWord hT _ _ rfl) rfl ?_
              refine v_push (101) (hz_X12_stepWord hT _ _ rfl) rfl ?_
              refine v_push (97) (hz_X12_stepWord hT _ _ rfl) rfl ?_
              refine v_push (109) (hz_X12_stepWord hT _ _ rfl) rfl ?_
              refine v_push (0) (hz_X12_stepWord hT _ _ rfl) rfl ?_
              refine v_call (w := 8) [some (0, 115), some (0, 116), some (0, 101), some (0, 97), some (0, 109), some (0, 0), none, none] hO (hz_X12_stepWord hT _ _ rfl) rfl rfl ?_
              refine v_load (v := (0, 115)) (hi_X12_spelled_0 hT) rfl rfl ?_
              refine v_i2l (hi_X12_spelled_1 hT) ?_
              refine v_push (96) (hi_X12_spelled_2 hT) rfl ?_
              refine v_bin64 (w := (115 - 96)) (hi_X12_spelled_5 hT) (vz_subL (by omega) (by omega)) ?_
              refine v_push (32) (hi_X12_spelled_6 hT) rfl ?_
              refine v_bin64 (w := ((115 - 96) * 32)) (hi_X12_spelled_9 hT) (vz_mulL (by omega) (by omega)) ?_
              refine v_load (v := (0, 116)) (hi_X12_spelled_10 hT) rfl rfl ?_
              refine v_i2l (hi_X12_spelled_11 hT) ?_
              refine v_bin64 (w := (((115 - 96) * 32) + 116)) (hi_X12_spelled_12 hT) (vz_addL (by omega) (by omega)) ?_
              refine v_push (96) (hi_X12_spelled_13 hT) rfl ?_
              refine v_bin64 (w := ((((115 - 96) * 32) + 116) - 96)) (hi_X12_spelled_16 hT) (vz_subL (by omega) (by omega)) ?_
              refine v_store2 [some (0, 115), some (0, 116), some (0, 101), some (0, 97), some (0, 109), some (0, 0), some (1, ((((115 - 96) * 32) + 116) - 96)), none] (hi_X12_spelled_17 hT) (Nat.le_of_ble_eq_true rfl) rfl ?_
              refine v_load (v := (0, 101)) (hi_X12_spelled_19 hT) rfl rfl ?_
              refine v_if (hi_X12_spelled_20 hT) (fun _ => ?_) (fun hc16 => absurd (show 0 < (101 : Int) from (by decide)) hc16)
              refine v_load (v := (1, ((((115 - 96) * 32) + 116) - 96))) (hi_X12_spelled_23 hT) rfl rfl ?_
              refine v_push (32) (hi_X12_spelled_25 hT) rfl ?_
              refine v_bin64 (w := (((((115 - 96) * 32) + 116) - 96) * 32)) (hi_X12_spelled_28 hT) (vz_mulL (by omega) (by omega)) ?_
              refine v_load (v := (0, 101)) (hi_X12_spelled_29 hT) rfl rfl ?_
              refine v_i2l (hi_X12_spelled_30 hT) ?_
              refine v_bin64 (w := ((((((115 - 96) * 32) + 116) - 96) * 32) + 101)) (hi_X12_spelled_31 hT) (vz_addL (by omega) (by omega)) ?_
              refine v_push (96) (hi_X12_spelled_32 hT) rfl ?_
              refine v_bin64 (w := (((((((115 - 96) * 32) + 116) - 96) * 32) + 101) - 96)) (hi_X12_spelled_35 hT) (vz_subL (by omega) (by omega)) ?_
              refine v_goto (hi_X12_spelled_36 hT) ?_
              refine v_store2 [some (0, 115), some (0, 116), some (0, 101), some (0, 97), some (0, 109), some (0, 0), some (1, (((((((115 - 96) * 32) + 116) - 96) * 32) + 101) - 96)), none] (hi_X12_spelled_41 hT) (Nat.le_of_ble_eq_true rfl) rfl ?_
              refine v_load (v := (0, 97)) (hi_X12_spelled_43 hT) rfl rfl ?_
              refine v_if (hi_X12_spelled_44 hT) (fun _ => ?_) (fun hc17 => absurd (show 0 < (97 : Int) from (by decide)) hc17)
              refine v_load (v := (1, (((((((115 - 96) * 32) + 116) - 96) * 32) + 101) - 96))) (hi_X12_spelled_47 hT) rfl rfl ?_
              refine v_push (32) (hi_X12_spelled_49 hT) rfl ?_
              refine v_bin64 (w := ((((((((115 - 96) * 32) + 116) - 96) * 32) + 101) - 96) * 32)) (hi_X12_spelled_52 hT) (vz_mulL (by omega) (by omega)) ?_
              refine v_load (v := (0, 97)) (hi_X12_spelled_53 hT) rfl rfl ?_
              refine v_i2l (hi_X12_spelled_54 hT) ?_
              refine v_bin64 (w := (((((((((115 - 96) * 32) + 116) - 96) * 32) + 101) - 96) * 32) + 97)) (hi_X12_spelled_55 hT) (vz_addL (by omega) (by omega)) ?_
              refine v_push (96) (hi_X12_spelled_56 hT) rfl ?_
              refine v_bin64 (w := ((((((((((115 - 96) * 32) + 116) - 96) * 32) + 101) - 96) * 32) + 97) - 96)) (hi_X12_spelled_59 hT) (vz_subL (by omega) (by omega)) ?_
              refine v_goto (hi_X12_spelled_60 hT) ?_
              refine v_store2 [some (0, 115), some (0, 116), some (0, 101), some (0, 97), some (0, 109), some (0, 0), some (1, ((((((((((115 - 96) * 32) + 116) - 96) * 32) + 101) - 96) * 32) + 97) - 96)), none] (hi_X12_spelled_65 hT) (Nat.le_of_ble_eq_true rfl) rfl ?_
              refine v_load (v := (0, 109)) (hi_X12_spelled_67 hT) rfl rfl ?_
              refine v_if (hi_X12_spelled_69 hT) (fun _ => ?_) (fun hc18 => absurd (show 0 < (109 : Int) from (by decide)) hc18)
              refine v_load (v := (1, ((((((((((115 - 96) * 32) + 116) - 96) * 32) + 101) - 96) * 32) + 97) - 96))) (hi_X12_spelled_72 hT) rfl rfl ?_
              refine v_push (32) (hi_X12_spelled_74 hT) rfl ?_
              refine v_bin64 (w := (((((((((((115 - 96) * 32) + 116) - 96) * 32) + 101) - 96) * 32) + 97) - 96) * 32)) (hi_X12_spelled_77 hT) (vz_mulL (by omega) (by omega)) ?_
              refine v_load (v := (0, 109)) (hi_X12_spelled_78 hT) rfl rfl ?_
              refine v_i2l (hi_X12_spelled_80 hT) ?_
              refine v_bin64 (w := ((((((((((((115 - 96) * 32) + 116) - 96) * 32) + 101) - 96) * 32) + 97) - 96) * 32) + 109)) (hi_X12_spelled_81 hT) (vz_addL (by omega) (by omega)) ?_
              refine v_push (96) (hi_X12_spelled_82 hT) rfl ?_
              refine v_bin64 (w := (((((((((((((115 - 96) * 32) + 116) - 96) * 32) + 101) - 96) * 32) + 97) - 96) * 32) + 109) - 96)) (hi_X12_spelled_85 hT) (vz_subL (by omega) (by omega)) ?_
              refine v_goto (hi_X12_spelled_86 hT) ?_
              refine v_store2 [some (0, 115), some (0, 116), some (0, 101), some (0, 97), some (0, 109), some (0, 0), some (1, (((((((((((((115 - 96) * 32) + 116) - 96) * 32) + 101) - 96) * 32) + 97) - 96) * 32) + 109) - 96)), none] (hi_X12_spelled_91 hT) (Nat.le_of_ble_eq_true rfl) rfl ?_
              refine v_load (v := (0, 0)) (hi_X12_spelled_93 hT) rfl rfl ?_
              refine v_if (hi_X12_spelled_95 hT) (fun hc19 => absurd (show 0 < (0 : Int) from hc19) (by decide)) (fun _ => ?_)
              refine v_load (v := (1, (((((((((((((115 - 96) * 32) + 116) - 96) * 32) + 101) - 96) * 32) + 97) - 96) * 32) + 109) - 96))) (hi_X12_spelled_115 hT) rfl rfl ?_
              refine v_ret (hi_X12_spelled_117 hT) (Or.inr rfl) ?_
              show vP D T N 318 83 h [some (2, 121)] [(1, (((((((((((((115 - 96) * 32) + 116) - 96) * 32) + 101) - 96) * 32) + 97) - 96) * 32) + 109) - 96)), (2, 121)] _
              refine v_call (w := 3) [some (2, 121), some (1, (((((((((((((115 - 96) * 32) + 116) - 96) * 32) + 101) - 96) * 32) + 97) - 96) * 32) + 109) - 96)), none] hO (hz_X12_stepWord hT _ _ rfl) rfl rfl (rx_isW hT hO ((((((((((((((115 - 96) * 32) + 116) - 96) * 32) + 101) - 96) * 32) + 97) - 96) * 32) + 109) - 96)) 11 [115, 116, 101, 97, 109] (by decide +kernel) rfl hX ?_)
              · show vP D T N 318 86 h [some (2, 121)] [(0, (bW τ 11 i))] _
                refine v_if (hz_X12_stepWord hT _ _ rfl) (fun hc20 => ?_) (fun hc20 => ?_)
                · have hc20 : (bW τ 11 i) = 0 := hc20
                  refine v_load (v := (2, 121)) (hz_X12_stepWord hT _ _ rfl) rfl rfl ?_
                  refine v_push (109) (hz_X12_stepWord hT _ _ rfl) rfl ?_
                  refine v_push (111) (hz_X12_stepWord hT _ _ rfl) rfl ?_
                  refine v_push (117) (hz_X12_stepWord hT _ _ rfl) rfl ?_
                  refine v_push (115) (hz_X12_stepWord hT _ _ rfl) rfl ?_
                  refine v_push (101) (hz_X12_stepWord hT _ _ rfl) rfl ?_
                  refine v_push (0) (hz_X12_stepWord hT _ _ rfl) rfl ?_
                  refine v_call (w := 8) [some (0, 109), some (0, 111), some (0, 117), some (0, 115), some (0, 101), some (0, 0), none, none] hO (hz_X12_stepWord hT _ _ rfl) rfl rfl ?_
                  refine v_load (v := (0, 109)) (hi_X12_spelled_0 hT) rfl rfl ?_
                  refine v_i2l (hi_X12_spelled_1 hT) ?_
                  refine v_push (96) (hi_X12_spelled_2 hT) rfl ?_
                  refine v_bin64 (w := (109 - 96)) (hi_X12_spelled_5 hT) (vz_subL (by omega) (by omega)) ?_
                  refine v_push (32) (hi_X12_spelled_6 hT) rfl ?_
                  refine v_bin64 (w := ((109 - 96) * 32)) (hi_X12_spelled_9 hT) (vz_mulL (by omega) (by omega)) ?_
                  refine v_load (v := (0, 111)) (hi_X12_spelled_10 hT) rfl rfl ?_
                  refine v_i2l (hi_X12_spelled_11 hT) ?_
                  refine v_bin64 (w := (((109 - 96) * 32) + 111)) (hi_X12_spelled_12 hT) (vz_addL (by omega) (by omega)) ?_
                  refine v_push (96) (hi_X12_spelled_13 hT) rfl ?_
                  refine v_bin64 (w := ((((109 - 96) * 32) + 111) - 96)) (hi_X12_spelled_16 hT) (vz_subL (by omega) (by omega)) ?_
                  refine v_store2 [some (0, 109), some (0, 111), some (0, 117), some (0, 115), some (0, 101), some (0, 0), some (1, ((((109 - 96) * 32) + 111) - 96)), none] (hi_X12_spelled_17 hT) (Nat.le_of_ble_eq_true rfl) rfl ?_
                  refine v_load (v := (0, 117)) (hi_X12_spelled_19 hT) rfl rfl ?_
                  refine v_if (hi_X12_spelled_20 hT) (fun _ => ?_) (fun hc21 => absurd (show 0 < (117 : Int) from (by decide)) hc21)
                  refine v_load (v := (1, ((((109 - 96) * 32) + 111) - 96))) (hi_X12_spelled_23 hT) rfl rfl ?_
                  refine v_push (32) (hi_X12_spelled_25 hT) rfl ?_
                  refine v_bin64 (w := (((((109 - 96) * 32) + 111) - 96) * 32)) (hi_X12_spelled_28 hT) (vz_mulL (by omega) (by omega)) ?_
                  refine v_load (v := (0, 117)) (hi_X12_spelled_29 hT) rfl rfl ?_
                  refine v_i2l (hi_X12_spelled_30 hT) ?_
                  refine v_bin64 (w := ((((((109 - 96) * 32) + 111) - 96) * 32) + 117)) (hi_X12_spelled_31 hT) (vz_addL (by omega) (by omega)) ?_
                  refine v_push (96) (hi_X12_spelled_32 hT) rfl ?_
                  refine v_bin64 (w := (((((((109 - 96) * 32) + 111) - 96) * 32) + 117) - 96)) (hi_X12_spelled_35 hT) (vz_subL (by omega) (by omega)) ?_
                  refine v_goto (hi_X12_spelled_36 hT) ?_
                  refine v_store2 [some (0, 109), some (0, 111), some (0, 117), some (0, 115), some (0, 101), some (0, 0), some (1, (((((((109 - 96) * 32) + 111) - 96) * 32) + 117) - 96)), none] (hi_X12_spelled_41 hT) (Nat.le_of_ble_eq_true rfl) rfl ?_
                  refine v_load (v := (0, 115)) (hi_X12_spelled_43 hT) rfl rfl ?_
                  refine v_if (hi_X12_spelled_44 hT) (fun _ => ?_) (fun hc22 => absurd (show 0 < (115 : Int) from (by decide)) hc22)
                  refine v_load (v := (1, (((((((109 - 96) * 32) + 111) - 96) * 32) + 117) - 96))) (hi_X12_spelled_47 hT) rfl rfl ?_
                  refine v_push (32) (hi_X12_spelled_49 hT) rfl ?_
                  refine v_bin64 (w := ((((((((109 - 96) * 32) + 111) - 96) * 32) + 117) - 96) * 32)) (hi_X12_spelled_52 hT) (vz_mulL (by omega) (by omega)) ?_
                  refine v_load (v := (0, 115)) (hi_X12_spelled_53 hT) rfl rfl ?_
                  refine v_i2l (hi_X12_spelled_54 hT) ?_
                  refine v_bin64 (w := (((((((((109 - 96) * 32) + 111) - 96) * 32) + 117) - 96) * 32) + 115)) (hi_X12_spelled_55 hT) (vz_addL (by omega) (by omega)) ?_
                  refine v_push (96) (hi_X12_spelled_56 hT) rfl ?_
                  refine v_bin64 (w := ((((((((((109 - 96) * 32) + 111) - 96) * 32) + 117) - 96) * 32) + 115) - 96)) (hi_X12_spelled_59 hT) (vz_subL (by omega) (by omega)) ?_
                  refine v_goto (hi_X12_spelled_60 hT) ?_
                  refine v_store2 [some (0, 109), some (0, 111), some (0, 117), some (0, 115), some (0, 101), some (0, 0), some (1, ((((((((((109 - 96) * 32) + 111) - 96) * 32) + 117) - 96) * 32) + 115) - 96)), none] (hi_X12_spelled_65 hT) (Nat.le_of_ble_eq_true rfl) rfl ?_
                  refine v_load (v := (0, 101)) (hi_X12_spelled_67 hT) rfl rfl ?_
                  refine v_if (hi_X12_spelled_69 hT) (fun _ => ?_) (fun hc23 => absurd (show 0 < (101 : Int) from (by decide)) hc23)
                  refine v_load (v := (1, ((((((((((109 - 96) * 32) + 111) - 96) * 32) + 117) - 96) * 32) + 115) - 96))) (hi_X12_spelled_72 hT) rfl rfl ?_
                  refine v_push (32) (hi_X12_spelled_74 hT) rfl ?_
                  refine v_bin64 (w := (((((((((((109 - 96) * 32) + 111) - 96) * 32) + 117) - 96) * 32) + 115) - 96) * 32)) (hi_X12_spelled_77 hT) (vz_mulL (by omega) (by omega)) ?_
                  refine v_load (v := (0, 101)) (hi_X12_spelled_78 hT) rfl rfl ?_
                  refine v_i2l (hi_X12_spelled_80 hT) ?_
                  refine v_bin64 (w := ((((((((((((109 - 96) * 32) + 111) - 96) * 32) + 117) - 96) * 32) + 115) - 96) * 32) + 101)) (hi_X12_spelled_81 hT) (vz_addL (by omega) (by omega)) ?_
                  refine v_push (96) (hi_X12_spelled_82 hT) rfl ?_
                  refine v_bin64 (w := (((((((((((((109 - 96) * 32) + 111) - 96) * 32) + 117) - 96) * 32) + 115) - 96) * 32) + 101) - 96)) (hi_X12_spelled_85 hT) (vz_subL (by omega) (by omega)) ?_
                  refine v_goto (hi_X12_spelled_86 hT) ?_
                  refine v_store2 [some (0, 109), some (0, 111), some (0, 117), some (0, 115), some (0, 101), some (0, 0), some (1, (((((((((((((109 - 96) * 32) + 111) - 96) * 32) + 117) - 96) * 32) + 115) - 96) * 32) + 101) - 96)), none] (hi_X12_spelled_91 hT) (Nat.le_of_ble_eq_true rfl) rfl ?_
                  refine v_load (v := (0, 0)) (hi_X12_spelled_93 hT) rfl rfl ?_
                  refine v_if (hi_X12_spelled_95 hT) (fun hc24 => absurd (show 0 < (0 : Int) from hc24) (by decide)) (fun _ => ?_)
                  refine v_load (v := (1, (((((((((((((109 - 96) * 32) + 111) - 96) * 32) + 117) - 96) * 32) + 115) - 96) * 32) + 101) - 96))) (hi_X12_spelled_115 hT) rfl rfl ?_
                  refine v_ret (hi_X12_spelled_117 hT) (Or.inr rfl) ?_
                  show vP D T N 318 106 h [some (2, 121)] [(1, (((((((((((((109 - 96) * 32) + 111) - 96) * 32) + 117) - 96) * 32) + 115) - 96) * 32) + 101) - 96)), (2, 121)] _
                  refine v_call (w := 3) [some (2, 121), some (1, (((((((((((((109 - 96) * 32) + 111) - 96) * 32) + 117) - 96) * 32) + 115) - 96) * 32) + 101) - 96)), none] hO (hz_X12_stepWord hT _ _ rfl) rfl rfl (rx_isW hT hO ((((((((((((((109 - 96) * 32) + 111) - 96) * 32) + 117) - 96) * 32) + 115) - 96) * 32) + 101) - 96)) 12 [109, 111, 117, 115, 101] (by decide +kernel) rfl hX ?_)
                  · show vP D T N 318 109 h [some (2, 121)] [(0, (bW τ 12 i))] _
                    refine v_if (hz_X12_stepWord hT _ _ rfl) (fun hc25 => ?_) (fun hc25 => ?_)
                    · have hc25 : (bW τ 12 i) = 0 := hc25
                      refine v_load (v := (2, 121)) (hz_X12_stepWord hT _ _ rfl) rfl rfl ?_
                      refine v_push (109) (hz_X12_stepWord hT _ _ rfl) rfl ?_
                      refine v_push (97) (hz_X12_stepWord hT _ _ rfl) rfl ?_
                      refine v_push (114) (hz_X12_stepWord hT _ _ rfl) rfl ?_
                      refine v_push (99) (hz_X12_stepWord hT _ _ rfl) rfl ?_
                      refine v_push (104) (hz_X12_stepWord hT _ _ rfl) rfl ?_
                      refine v_push (0) (hz_X12_stepWord hT _ _ rfl) rfl ?_
                      refine v_call (w := 8) [some (0, 109), some (0, 97), some (0, 114), some (0, 99), some (0, 104), some (0, 0), none, none] hO (hz_X12_stepWord hT _ _ rfl) rfl rfl ?_
                      refine v_load (v := (0, 109)) (hi_X12_spelled_0 hT) rfl rfl ?_
                      refine v_i2l (hi_X12_spelled_1 hT) ?_
                      refine v_push (96) (hi_X12_spelled_2 hT) rfl ?_
                      refine v_bin64 (w := (109 - 96)) (hi_X12_spelled_5 hT) (vz_subL (by omega) (by omega)) ?_
                      refine v_push (32) (hi_X12_spelled_6 hT) rfl ?_
                      refine v_bin64 (w := ((109 - 96) * 32)) (hi_X12_spelled_9 hT) (vz_mulL (by omega) (by omega)) ?_
                      refine v_load (v := (0, 97)) (hi_X12_spelled_10 hT) rfl rfl ?_
                      refine v_i2l (hi_X12_spelled_11 hT) ?_
                      refine v_bin64 (w := (((109 - 96) * 32) + 97)) (hi_X12_spelled_12 hT) (vz_addL (by omega) (by omega)) ?_
                      refine v_push (96) (hi_X12_spelled_13 hT) rfl ?_
                      refine v_bin64 (w := ((((109 - 96) * 32) + 97) - 96)) (hi_X12_spelled_16 hT) (vz_subL (by omega) (by omega)) ?_
                      refine v_store2 [some (0, 109), some (0, 97), some (0, 114), some (0, 99), some (0, 104), some (0, 0), some (1, ((((109 - 96) * 32) + 97) - 96)), none] (hi_X12_spelled_17 hT) (Nat.le_of_ble_eq_true rfl) rfl ?_
                      refine v_load (v := (0, 114)) (hi_X12_spelled_19 hT) rfl rfl ?_
                      refine v_if (hi_X12_spelled_20 hT) (fun _ => ?_) (fun hc26 => absurd (show 0 < (114 : Int) from (by decide)) hc26)
                      refine v_load (v := (1, ((((109 - 96) * 32) + 97) - 96))) (hi_X12_spelled_23 hT) rfl rfl ?_
                      refine v_push (32) (hi_X12_spelled_25 hT) rfl ?_
                      refine v_bin64 (w := (((((109 - 96) * 32) + 97) - 96) * 32)) (hi_X12_spelled_28 hT) (vz_mulL (by omega) (by omega)) ?_
                      refine v_load (v := (0, 114)) (hi_X12_spelled_29 hT) rfl rfl ?_
                      refine v_i2l (hi_X12_spelled_30 hT) ?_
                      refine v_bin64 (w := ((((((109 - 96) * 32) + 97) - 96) * 32) + 114)) (hi_X12_spelled_31 hT) (vz_addL (by omega) (by omega)) ?_
                      refine v_push (96) (hi_X12_spelled_32 hT) rfl ?_
                      refine v_bin64 (w := (((((((109 - 96) * 32) + 97) - 96) * 32) + 114) - 96)) (hi_X12_spelled_35 hT) (vz_subL (by omega) (by omega)) ?_
                      refine v_goto (hi_X12_spelled_36 hT) ?_
                      refine v_store2 [some (0, 109), some (0, 97), some (0, 114), some (0, 99), some (0, 104), some (0, 0), some (1, (((((((109 - 96) * 32) + 97) - 96) * 32) + 114) - 96)), none] (hi_X12_spelled_41 hT) (Nat.le_of_ble_eq_true rfl) rfl ?_
                      refine v_load (v := (0, 99)) (hi_X12_spelled_43 hT) rfl rfl ?_
                      refine v_if (hi_X12_spelled_44 hT) (fun _ => ?_) (fun hc27 => absurd (show 0 < (99 : Int) from (by decide)) hc27)
                      refine v_load (v := (1, (((((((109 - 96) * 32) + 97) - 96) * 32) + 114) - 96))) (hi_X12_spelled_47 hT) rfl rfl ?_
                      refine v_push (32) (hi_X12_spelled_49 hT) rfl ?_
                      refine v_bin64 (w := ((((((((109 - 96) * 32) + 97) - 96) * 32) + 114) - 96) * 32)) (hi_X12_spelled_52 hT) (vz_mulL (by omega) (by omega)) ?_
                      refine v_load (v := (0, 99)) (hi_X12_spelled_53 hT) rfl rfl ?_
                      refine v_i2l (hi_X12_spelled_54 hT) ?_
                      refine v_bin64 (w := (((((((((109 - 96) * 32) + 97) - 96) * 32) + 114) - 96) * 32) + 99)) (hi_X12_spelled_55 hT) (vz_addL (by omega) (by omega)) ?_
                      refine v_push (96) (hi_X12_spelled_56 hT) rfl ?_
                      refine v_bin64 (w := ((((((((((109 - 96) * 32) + 97) - 96) * 32) + 114) - 96) * 32) + 99) - 96)) (hi_X12_spelled_59 hT) (vz_subL (by omega) (by omega)) ?_
                      refine v_goto (hi_X12_spelled_60 hT) ?_
                      refine v_store2 [some (0, 109), some (0, 97), some (0, 114), some (0, 99), some (0, 104), some (0, 0), some (1, ((((((((((109 - 96) * 32) + 97) - 96) * 32) + 114) - 96) * 32) + 99) - 96)), none] (hi_X12_spelled_65 hT) (Nat.le_of_ble_eq_true rfl) rfl ?_
                      refine v_load (v := (0, 104)) (hi_X12_spelled_67 hT) rfl rfl ?_
                      refine v_if (hi_X12_spelled_69 hT) (fun _ => ?_) (fun hc28 => absurd (show 0 < (104 : Int) from (by decide)) hc28)
                      refine v_load (v := (1, ((((((((((109 - 96) * 32) + 97) - 96) * 32) + 114) - 96) * 32) + 99) - 96))) (hi_X12_spelled_72 hT) rfl rfl ?_
                      refine v_push (32) (hi_X12_spelled_74 hT) rfl ?_
                      refine v_bin64 (w := (((((((((((109 - 96) * 32) + 97) - 96) * 32) + 114) - 96) * 32) + 99) - 96) * 32)) (hi_X12_spelled_77 hT) (vz_mulL (by omega) (by omega)) ?_
                      refine v_load (v := (0, 104)) (hi_X12_spelled_78 hT) rfl rfl ?_
                      refine v_i2l (hi_X12_spelled_80 hT) ?_
                      refine v_bin64 (w := ((((((((((((109 - 96) * 32) + 97) - 96) * 32) + 114) - 96) * 32) + 99) - 96) * 32) + 104)) (hi_X12_spelled_81 hT) (vz_addL (by omega) (by omega)) ?_
                      refine v_push (96) (hi_X12_spelled_82 hT) rfl ?_
                      refine v_bin64 (w := (((((((((((((109 - 96) * 32) + 97) - 96) * 32) + 114) - 96) * 32) + 99) - 96) * 32) + 104) - 96)) (hi_X12_spelled_85 hT) (vz_subL (by omega) (by omega)) ?_
                      refine v_goto (hi_X12_spelled_86 hT) ?_
                      refine v_store2 [some (0, 109), some (0, 97), some (0, 114), some (0, 99), some (0, 104), some (0, 0), some (1, (((((((((((((109 - 96) * 32) + 97) - 96) * 32) + 114) - 96) * 32) + 99) - 96) * 32) + 104) - 96)), none] (hi_X12_spelled_91 hT) (Nat.le_of_ble_eq_true rfl) rfl ?_
                      refine v_load (v := (0, 0)) (hi_X12_spelled_93 hT) rfl rfl ?_
                      refine v_if (hi_X12_spelled_95 hT) (fun hc29 => absurd (show 0 < (0 : Int) from hc29) (by decide)) (fun _ => ?_)
                      refine v_load (v := (1, (((((((((((((109 - 96) * 32) + 97) - 96) * 32) + 114) - 96) * 32) + 99) - 96) * 32) + 104) - 96))) (hi_X12_spelled_115 hT) rfl rfl ?_
                      refine v_ret (hi_X12_spelled_117 hT) (Or.inr rfl) ?_
                      show vP D T N 318 129 h [some (2, 121)] [(1, (((((((((((((109 - 96) * 32) + 97) - 96) * 32) + 114) - 96) * 32) + 99) - 96) * 32) + 104) - 96)), (2, 121)] _
                      refine v_call (w := 3) [some (2, 121), some (1, (((((((((((((109 - 96) * 32) + 97) - 96) * 32) + 114) - 96) * 32) + 99) - 96) * 32) + 104) - 96)), none] hO (hz_X12_stepWord hT _ _ rfl) rfl rfl (rx_isW hT hO ((((((((((((((109 - 96) * 32) + 97) - 96) * 32) + 114) - 96) * 32) + 99) - 96) * 32) + 104) - 96)) 13 [109, 97, 114, 99, 104] (by decide +kernel) rfl hX ?_)
                      · show vP D T N 318 132 h [some (2, 121)] [(0, (bW τ 13 i))] _
                        refine v_if (hz_X12_stepWord hT _ _ rfl) (fun hc30 => ?_) (fun hc30 => ?_)
                        · have hc30 : (bW τ 13 i) = 0 := hc30
                          refine v_load (v := (2, 121)) (hz_X12_stepWord hT _ _ rfl) rfl rfl ?_
                          refine v_push (104) (hz_X12_stepWord hT _ _ rfl) rfl ?_
                          refine v_push (111) (hz_X12_stepWord hT _ _ rfl) rfl ?_
                          refine v_push (109) (hz_X12_stepWord hT _ _ rfl) rfl ?_
                          refine v_push (101) (hz_X12_stepWord hT _ _ rfl) rfl ?_
                          refine v_push (0) (hz_X12_stepWord hT _ _ rfl) rfl ?_
                          refine v_push (0) (hz_X12_stepWord hT _ _ rfl) rfl ?_
                          refine v_call (w := 8) [some (0, 104), some (0, 111), some (0, 109), some (0, 101), some (0, 0), some (0, 0), none, none] hO (hz_X12_stepWord hT _ _ rfl) rfl rfl ?_
                          refine v_load (v := (0, 104)) (hi_X12_spelled_0 hT) rfl rfl ?_
                          refine v_i2l (hi_X12_spelled_1 hT) ?_
                          refine v_push (96) (hi_X12_spelled_2 hT) rfl ?_
                          refine v_bin64 (w := (104 - 96)) (hi_X12_spelled_5 hT) (vz_subL (by omega) (by omega)) ?_
                          refine v_push (32) (hi_X12_spelled_6 hT) rfl ?_
                          refine v_bin64 (w := ((104 - 96) * 32)) (hi_X12_spelled_9 hT) (vz_mulL (by omega) (by omega)) ?_
                          refine v_load (v := (0, 111)) (hi_X12_spelled_10 hT) rfl rfl ?_
                          refine v_i2l (hi_X12_spelled_11 hT) ?_
                          refine v_bin64 (w := (((104 - 96) * 32) + 111)) (hi_X12_spelled_12 hT) (vz_addL (by omega) (by omega)) ?_
                          refine v_push (96) (hi_X12_spelled_13 hT) rfl ?_
                          refine v_bin64 (w := ((((104 - 96) * 32) + 111) - 96)) (hi_X12_spelled_16 hT) (vz_subL (by omega) (by omega)) ?_
                          refine v_store2 [some (0, 104), some (0, 111), some (0, 109), some (0, 101), some (0, 0), some (0, 0), some (1, ((((104 - 96) * 32) + 111) - 96)), none] (hi_X12_spelled_17 hT) (Nat.le_of_ble_eq_true rfl) rfl ?_
                          refine v_load (v := (0, 109)) (hi_X12_spelled_19 hT) rfl rfl ?_
                          refine v_if (hi_X12_spelled_20 hT) (fun _ => ?_) (fun hc31 => absurd (show 0 < (109 : Int) from (by decide)) hc31)
                          refine v_load (v := (1, ((((104 - 96) * 32) + 111) - 96))) (hi_X12_spelled_23 hT) rfl rfl ?_
                          refine v_push (32) (hi_X12_spelled_25 hT) rfl ?_
                          refine v_bin64 (w := (((((104 - 96) * 32) + 111) - 96) * 32)) (hi_X12_spelled_28 hT) (vz_mulL (by omega) (by omega)) ?_
                          refine v_load (v := (0, 109)) (hi_X12_spelled_29 hT) rfl rfl ?_
                          refine v_i2l (hi_X12_spelled_30 hT) ?_
                          refine v_bin64 (w := ((((((104 - 96) * 32) + 111) - 96) * 32) + 109)) (hi_X12_spelled_31 hT) (vz_addL (by omega) (by omega)) ?_
                          refine v_push (96) (hi_X12_spelled_32 hT) rfl ?_
                          refine v_bin64 (w := (((((((104 - 96) * 32) + 111) - 96) * 32) + 109) - 96)) (hi_X12_spelled_35 hT) (vz_subL (by omega) (by omega)) ?_
                          refine v_goto (hi_X12_spelled_36 hT) ?_
                          refine v_store2 [some (0, 104), some (0, 111), some (0, 109), some (0, 101), some (0, 0), some (0, 0), some (1, (((((((104 - 96) * 32) + 111) - 96) * 32) + 109) - 96)), none] (hi_X12_spelled_41 hT) (Nat.le_of_ble_eq_true rfl) rfl ?_
                          refine v_load (v := (0, 101)) (hi_X12_spelled_43 hT) rfl rfl ?_
                          refine v_if (hi_X12_spelled_44 hT) (fun _ => ?_) (fun hc32 => absurd (show 0 < (101 : Int) from (by decide)) hc32)
                          refine v_load (v := (1, (((((((104 - 96) * 32) + 111) - 96) * 32) + 109) - 96))) (hi_X12_spelled_47 hT) rfl rfl ?_
                          refine v_push (32) (hi_X12_spelled_49 hT) rfl ?_
                          refine v_bin64 (w := ((((((((104 - 96) * 32) + 111) - 96) * 32) + 109) - 96) * 32)) (hi_X12_spelled_52 hT) (vz_mulL (by omega) (by omega)) ?_
                          refine v_load (v := (0, 101)) (hi_X12_spelled_53 hT) rfl rfl ?_
                          refine v_i2l (hi_X12_spelled_54 hT) ?_
                          refine v_bin64 (w := (((((((((104 - 96) * 32) + 111) - 96) * 32) + 109) - 96) * 32) + 101)) (hi_X12_spelled_55 hT) (vz_addL (by omega) (by omega)) ?_
                          refine v_push (96) (hi_X12_spelled_56 hT) rfl ?_
                          refine v_bin64 (w := ((((((((((104 - 96) * 32) + 111) - 96) * 32) + 109) - 96) * 32) + 101) - 96)) (hi_X12_spelled_59 hT) (vz_subL (by omega) (by omega)) ?_
                          refine v_goto (hi_X12_spelled_60 hT) ?_
                          refine v_store2 [some (0, 104), some (0, 111), some (0, 109), some (0, 101), some (0, 0), some (0, 0), some (1, ((((((((((104 - 96) * 32) + 111) - 96) * 32) + 109) - 96) * 32) + 101) - 96)), none] (hi_X12_spelled_65 hT) (Nat.le_of_ble_eq_true rfl) rfl ?_
                          refine v_load (v := (0, 0)) (hi_X12_spelled_67 hT) rfl rfl ?_
                          refine v_if (hi_X12_spelled_69 hT) (fun hc33 => absurd (show 0 < (0 : Int) from hc33) (by decide)) (fun _ => ?_)
                          refine v_load (v := (1, ((((((((((104 - 96) * 32) + 111) - 96) * 32) + 109) - 96) * 32) + 101) - 96))) (hi_X12_spelled_89 hT) rfl rfl ?_
                          refine v_store2 [some (0, 104), some (0, 111), some (0, 109), some (0, 101), some (0, 0), some (0, 0), some (1, ((((((((((104 - 96) * 32) + 111) - 96) * 32) + 109) - 96) * 32) + 101) - 96)), none] (hi_X12_spelled_91 hT) (Nat.le_of_ble_eq_true rfl) rfl ?_
                          refine v_load (v := (0, 0)) (hi_X12_spelled_93 hT) rfl rfl ?_
                          refine v_if (hi_X12_spelled_95 hT) (fun hc34 => absurd (show 0 < (0 : Int) from hc34) (by decide)) (fun _ => ?_)
                          refine v_load (v := (1, ((((((((((104 - 96) * 32) + 111) - 96) * 32) + 109) - 96) * 32) + 101) - 96))) (hi_X12_spelled_115 hT) rfl rfl ?_
                          refine v_ret (hi_X12_spelled_117 hT) (Or.inr rfl) ?_
                          show vP D T N 318 151 h [some (2, 121)] [(1, ((((((((((104 - 96) * 32) + 111) - 96) * 32) + 109) - 96) * 32) + 101) - 96)), (2, 121)] _
                          refine v_call (w := 3) [some (2, 121), some (1, ((((((((((104 - 96) * 32) + 111) - 96) * 32) + 109) - 96) * 32) + 101) - 96)), none] hO (hz_X12_stepWord hT _ _ rfl) rfl rfl (rx_isW hT hO (((((((((((104 - 96) * 32) + 111) - 96) * 32) + 109) - 96) * 32) + 101) - 96)) 14 [104, 111, 109, 101] (by decide +kernel) rfl hX ?_)
                          · show vP D T N 318 154 h [some (2, 121)] [(0, (bW τ 14 i))] _
                            refine v_if (hz_X12_stepWord hT _ _ rfl) (fun hc35 => ?_) (fun hc35 => ?_)
                            · have hc35 : (bW τ 14 i) = 0 := hc35
                              refine v_load (v := (2, 121)) (hz_X12_stepWord hT _ _ rfl) rfl rfl ?_
                              refine v_push (119) (hz_X12_stepWord hT _ _ rfl) rfl ?_
                              refine v_push (104) (hz_X12_stepWord hT _ _ rfl) rfl ?_
                              refine v_push (101) (hz_X12_stepWord hT _ _ rfl) rfl ?_
                              refine v_push (110) (hz_X12_stepWord hT _ _ rfl) rfl ?_
                              refine v_push (0) (hz_X12_stepWord hT _ _ rfl) rfl ?_
                              refine v_push (0) (hz_X12_stepWord hT _ _ rfl) rfl ?_
                              refine v_call (w := 8) [some (0, 119), some (0, 104), some (0, 101), some (0, 110), some (0, 0), some (0, 0), none, none] hO (hz_X12_stepWord hT _ _ rfl) rfl rfl ?_
                              refine v_load (v := (0, 119)) (hi_X12_spelled_0 hT) rfl rfl ?_
                              refine v_i2l (hi_X12_spelled_1 hT) ?_
                              refine v_push (96) (hi_X12_spelled_2 hT) rfl ?_
                              refine v_bin64 (w := (119 - 96)) (hi_X12_spelled_5 hT) (vz_subL (by omega) (by omega)) ?_
                              refine v_push (32) (hi_X12_spelled_6 hT) rfl ?_
                              refine v_bin64 (w := ((119 - 96) * 32)) (hi_X12_spelled_9 hT) (vz_mulL (by omega) (by omega)) ?_
                              refine v_load (v := (0, 104)) (hi_X12_spelled_10 hT) rfl rfl ?_
                              refine v_i2l (hi_X12_spelled_11 hT) ?_
                              refine v_bin64 (w := (((119 - 96) * 32) + 104)) (hi_X12_spelled_12 hT) (vz_addL (by omega) (by omega)) ?_
                              refine v_push (96) (hi_X12_spelled_13 hT) rfl ?_
                              refine v_bin64 (w := ((((119 - 96) * 32) + 104) - 96)) (hi_X12_spelled_16 hT) (vz_subL (by omega) (by omega)) ?_
                              refine v_store2 [some (0, 119), some (0, 104), some (0, 101), some (0, 110), some (0, 0), some (0, 0), some (1, ((((119 - 96) * 32) + 104) - 96)), none] (hi_X12_spelled_17 hT) (Nat.le_of_ble_eq_true rfl) rfl ?_
                              refine v_load (v := (0, 101)) (hi_X12_spelled_19 hT) rfl rfl ?_
                              refine v_if (hi_X12_spelled_20 hT) (fun _ => ?_) (fun hc36 => absurd (show 0 < (101 : Int) from (by decide)) hc36)
                              refine v_load (v := (1, ((((119 - 96) * 32) + 104) - 96))) (hi_X12_spelled_23 hT) rfl rfl ?_
                              refine v_push (32) (hi_X12_spelled_25 hT) rfl ?_
                              refine v_bin64 (w := (((((119 - 96) * 32) + 104) - 96) * 32)) (hi_X12_spelled_28 hT) (vz_mulL (by omega) (by omega)) ?_
                              refine v_load (v := (0, 101)) (hi_X12_spelled_29 hT) rfl rfl ?_
                              refine v_i2l (hi_X12_spelled_30 hT) ?_
                              refine v_bin64 (w := ((((((119 - 96) * 32) + 104) - 96) * 32) + 101)) (hi_X12_spelled_31 hT) (vz_addL (by omega) (by omega)) ?_
                              refine v_push (96) (hi_X12_spelled_32 hT) rfl ?_
                              refine v_bin64 (w := (((((((119 - 96) * 32) + 104) - 96) * 32) + 101) - 96)) (hi_X12_spelled_35 hT) (vz_subL (by omega) (by omega)) ?_
                              refine v_goto (hi_X12_spelled_36 hT) ?_
                              refine v_store2 [some (0, 119), some (0, 104), some (0, 101), some (0, 110), some (0, 0), some (0, 0), some (1, (((((((119 - 96) * 32) + 104) - 96) * 32) + 101) - 96)), none] (hi_X12_spelled_41 hT) (Nat.le_of_ble_eq_true rfl) rfl ?_
                              refine v_load (v := (0, 110)) (hi_X12_spelled_43 hT) rfl rfl ?_
                              refine v_if (hi_X12_spelled_44 hT) (fun _ => ?_) (fun hc37 => absurd (show 0 < (110 : Int) from (by decide)) hc37)
                              refine v_load (v := (1, (((((((119 - 96) * 32) + 104) - 96) * 32) + 101) - 96))) (hi_X12_spelled_47 hT) rfl rfl ?_
                              refine v_push (32) (hi_X12_spelled_49 hT) rfl ?_
                              refine v_bin64 (w := ((((((((119 - 96) * 32) + 104) - 96) * 32) + 101) - 96) * 32)) (hi_X12_spelled_52 hT) (vz_mulL (by omega) (by omega)) ?_
                              refine v_load (v := (0, 110)) (hi_X12_spelled_53 hT) rfl rfl ?_
                              refine v_i2l (hi_X12_spelled_54 hT) ?_
                              refine v_bin64 (w := (((((((((119 - 96) * 32) + 104) - 96) * 32) + 101) - 96) * 32) + 110)) (hi_X12_spelled_55 hT) (vz_addL (by omega) (by omega)) ?_
                              refine v_push (96) (hi_X12_spelled_56 hT) rfl ?_
                              refine v_bin64 (w := ((((((((((119 - 96) * 32) + 104) - 96) * 32) + 101) - 96) * 32) + 110) - 96)) (hi_X12_spelled_59 hT) (vz_subL (by omega) (by omega)) ?_
                              refine v_goto (hi_X12_spelled_60 hT) ?_
                              refine v_store2 [some (0, 119), some (0, 104), some (0, 101), some (0, 110), some (0, 0), some (0, 0), some (1, ((((((((((119 - 96) * 32) + 104) - 96) * 32) + 101) - 96) * 32) + 110) - 96)), none] (hi_X12_spelled_65 hT) (Nat.le_of_ble_eq_true rfl) rfl ?_
                              refine v_load (v := (0, 0)) (hi_X12_spelled_67 hT) rfl rfl ?_
                              refine v_if (hi_X12_spelled_69 hT) (fun hc38 => absurd (show 0 < (0 : Int) from hc38) (by decide)) (fun _ => ?_)
                              refine v_load (v := (1, ((((((((((119 - 96) * 32) + 104) - 96) * 32) + 101) - 96) * 32) + 110) - 96))) (hi_X12_spelled_89 hT) rfl rfl ?_
                              refine v_store2 [some (0, 119), some (0, 104), some (0, 101), some (0, 110), some (0, 0), some (0, 0), some (1, ((((((((((119 - 96) * 32) + 104) - 96) * 32) + 101) - 96) * 32) + 110) - 96)), none] (hi_X12_spelled_91 hT) (Nat.le_of_ble_eq_true rfl) rfl ?_
                              refine v_load (v := (0, 0)) (hi_X12_spelled_93 hT) rfl rfl ?_
                              refine v_if (hi_X12_spelled_95 hT) (fun hc39 => absurd (show 0 < (0 : Int) from hc39) (by decide)) (fun _ => ?_)
                              refine v_load (v := (1, ((((((((((119 - 96) * 32) + 104) - 96) * 32) + 101) - 96) * 32) + 110) - 96))) (hi_X12_spelled_115 hT) rfl rfl ?_
                              refine v_ret (hi_X12_spelled_117 hT) (Or.inr rfl) ?_
                              show vP D T N 318 174 h [some (2, 121)] [(1, ((((((((((119 - 96) * 32) + 104) - 96) * 32) + 101) - 96) * 32) + 110) - 96)), (2, 121)] _
                              refine v_call (w := 3) [some (2, 121), some (1, ((((((((((119 - 96) * 32) + 104) - 96) * 32) + 101) - 96) * 32) + 110) - 96)), none] hO (hz_X12_stepWord hT _ _ rfl) rfl rfl (rx_isW hT hO (((((((((((119 - 96) * 32) + 104) - 96) * 32) + 101) - 96) * 32) + 110) - 96)) 15 [119, 104, 101, 110] (by decide +kernel) rfl hX ?_)
                              · show vP D T N 318 177 h [some (2, 121)] [(0, (bW τ 15 i))] _
                                refine v_if (hz_X12_stepWord hT _ _ rfl) (fun hc40 => ?_) (fun hc40 => ?_)
                                · have hc40 : (bW τ 15 i) = 0 := hc40
                                  refine v_load (v := (2, 121)) (hz_X12_stepWord hT _ _ rfl) rfl rfl ?_
                                  refine v_push (108) (hz_X12_stepWord hT _ _ rfl) rfl ?_
                                  refine v_push (111) (hz_X12_stepWord hT _ _ rfl) rfl ?_
                                  refine v_push (111) (hz_X12_stepWord hT _ _ rfl) rfl ?_
                                  refine v_push (112) (hz_X12_stepWord hT _ _ rfl) rfl ?_
                                  refine v_push (0) (hz_X12_stepWord hT _ _ rfl) rfl ?_
                                  refine v_push (0) (hz_X12_stepWord hT _ _ rfl) rfl ?_
                                  refine v_call (w := 8) [some (0, 108), some (0, 111), some (0, 111), some (0, 112), some (0, 0), some (0, 0), none, none] hO (hz_X12_stepWord hT _ _ rfl) rfl rfl ?_
                                  refine v_load (v := (0, 108)) (hi_X12_spelled_0 hT) rfl rfl ?_
                                  refine v_i2l (hi_X12_spelled_1 hT) ?_
                                  refine v_push (96) (hi_X12_spelled_2 hT) rfl ?_
                                  refine v_bin64 (w := (108 - 96)) (hi_X12_spelled_5 hT) (vz_subL (by omega) (by omega)) ?_
                                  refine v_push (32) (hi_X12_spelled_6 hT) rfl ?_
                                  refine v_bin64 (w := ((108 - 96) * 32)) (hi_X12_spelled_9 hT) (vz_mulL (by omega) (by omega)) ?_
                                  refine v_load (v := (0, 111)) (hi_X12_spelled_10 hT) rfl rfl ?_
                                  refine v_i2l (hi_X12_spelled_11 hT) ?_
                                  refine v_bin64 (w := (((108 - 96) * 32) + 111)) (hi_X12_spelled_12 hT) (vz_addL (by omega) (by omega)) ?_
                                  refine v_push (96) (hi_X12_spelled_13 hT) rfl ?_
                                  refine v_bin64 (w := ((((108 - 96) * 32) + 111) - 96)) (hi_X12_spelled_16 hT) (vz_subL (by omega) (by omega)) ?_
                                  refine v_store2 [some (0, 108), some (0, 111), some (0, 111), some (0, 112), some (0, 0), some (0, 0), some (1, ((((108 - 96) * 32) + 111) - 96)), none] (hi_X12_spelled_17 hT) (Nat.le_of_ble_eq_true rfl) rfl ?_
                                  refine v_load (v := (0, 111)) (hi_X12_spelled_19 hT) rfl rfl ?_
                                  refine v_if (hi_X12_spelled_20 hT) (fun _ => ?_) (fun hc41 => absurd (show 0 < (111 : Int) from (by decide)) hc41)
                                  refine v_load (v := (1, ((((108 - 96) * 32) + 111) - 96))) (hi_X12_spelled_23 hT) rfl rfl ?_
                                  refine v_push (32) (hi_X12_spelled_25 hT) rfl ?_
                                  refine v_bin64 (w := (((((108 - 96) * 32) + 111) - 96) * 32)) (hi_X12_spelled_28 hT) (vz_mulL (by omega) (by omega)) ?_
                                  refine v_load (v := (0, 111)) (hi_X12_spelled_29 hT) rfl rfl ?_
                                  refine v_i2l (hi_X12_spelled_30 hT) ?_
                                  refine v_bin64 (w := ((((((108 - 96) * 32) + 111) - 96) * 32) + 111)) (hi_X12_spelled_31 hT) (vz_addL (by omega) (by omega)) ?_
                                  refine v_push (96) (hi_X12_spelled_32 hT) rfl ?_
                                  refine v_bin64 (w := (((((((108 - 96) * 32) + 111) - 96) * 32) + 111) - 96)) (hi_X12_spelled_35 hT) (vz_subL (by omega) (by omega)) ?_
                                  refine v_goto (hi_X12_spelled_36 hT) ?_
                                  refine v_store2 [some (0, 108), some (0, 111), some (0, 111), some (0, 112), some (0, 0), some (0, 0), some (1, (((((((108 - 96) * 32) + 111) - 96) * 32) + 111) - 96)), none] (hi_X12_spelled_41 hT) (Nat.le_of_ble_eq_true rfl) rfl ?_
                                  refine v_load (v := (0, 112)) (hi_X12_spelled_43 hT) rfl rfl ?_
                                  refine v_if (hi_X12_spelled_44 hT) (fun _ => ?_) (fun hc42 => absurd (show 0 < (112 : Int) from (by decide)) hc42)
                                  refine v_load (v := (1, (((((((108 - 96) * 32) + 111) - 96) * 32) + 111) - 96))) (hi_X12_spelled_47 hT) rfl rfl ?_
                                  refine v_push (32) (hi_X12_spelled_49 hT) rfl ?_
                                  refine v_bin64 (w := ((((((((108 - 96) * 32) + 111) - 96) * 32) + 111) - 96) * 32)) (hi_X12_spelled_52 hT) (vz_mulL (by omega) (by omega)) ?_
                                  refine v_load (v := (0, 112)) (hi_X12_spelled_53 hT) rfl rfl ?_
                                  refine v_i2l (hi_X12_spelled_54 hT) ?_
                                  refine v_bin64 (w := (((((((((108 - 96) * 32) + 111) - 96) * 32) + 111) - 96) * 32) + 112)) (hi_X12_spelled_55 hT) (vz_addL (by omega) (by omega)) ?_
                                  refine v_push (96) (hi_X12_spelled_56 hT) rfl ?_
                                  refine v_bin64 (w := ((((((((((108 - 96) * 32) + 111) - 96) * 32) + 111) - 96) * 32) + 112) - 96)) (hi_X12_spelled_59 hT) (vz_subL (by omega) (by omega)) ?_
                                  refine v_goto (hi_X12_spelled_60 hT) ?_
                                  refine v_store2 [some (0, 108), some (0, 111), some (0, 111), some (0, 112), some (0, 0), some (0, 0), some (1, ((((((((((108 - 96) * 32) + 111) - 96) * 32) + 111) - 96) * 32) + 112) - 96)), none] (hi_X12_spelled_65 hT) (Nat.le_of_ble_eq_true rfl) rfl ?_
                                  refine v_load (v := (0, 0)) (hi_X12_spelled_67 hT) rfl rfl ?_
                                  refine v_if (hi_X12_spelled_69 hT) (fun hc43 => absurd (show 0 < (0 : Int) from hc43) (by decide)) (fun _ => ?_)
                                  refine v_load (v := (1, ((((((((((108 - 96) * 32) + 111) - 96) * 32) + 111) - 96) * 32) + 112) - 96))) (hi_X12_spelled_89 hT) rfl rfl ?_
                                  refine v_store2 [some (0, 108), some (0, 111), some (0, 111), some (0, 112), some (0, 0), some (0, 0), some (1, ((((((((((108 - 96) * 32) + 111) - 96) * 32) + 111) - 96) * 32) + 112) - 96)), none] (hi_X12_spelled_91 hT) (Nat.le_of_ble_eq_true rfl) rfl ?_
                                  refine v_load (v := (0, 0)) (hi_X12_spelled_93 hT) rfl rfl ?_
                                  refine v_if (hi_X12_spelled_95 hT) (fun hc44 => absurd (show 0 < (0 : Int) from hc44) (by decide)) (fun _ => ?_)
                                  refine v_load (v := (1, ((((((((((108 - 96) * 32) + 111) - 96) * 32) + 111) - 96) * 32) + 112) - 96))) (hi_X12_spelled_115 hT) rfl rfl ?_
                                  refine v_ret (hi_X12_spelled_117 hT) (Or.inr rfl) ?_
                                  show vP D T N 318 197 h [some (2, 121)] [(1, ((((((((((108 - 96) * 32) + 111) - 96) * 32) + 111) - 96) * 32) + 112) - 96)), (2, 121)] _
                                  refine v_call (w := 3) [some (2, 121), some (1, ((((((((((108 - 96) * 32) + 111) - 96) * 32) + 111) - 96) * 32) + 112) - 96)), none] hO (hz_X12_stepWord hT _ _ rfl) rfl rfl (rx_isW hT hO (((((((((((108 - 96) * 32) + 111) - 96) * 32) + 111) - 96) * 32) + 112) - 96)) 19 [108, 111, 111, 112] (by decide +kernel) rfl hX ?_)
                                  · show vP D T N 318 200 h [some (2, 121)] [(0, (bW τ 19 i))] _
                                    refine v_if (hz_X12_stepWord hT _ _ rfl) (fun hc45 => ?_) (fun hc45 => ?_)
                                    · have hc45 : (bW τ 19 i) = 0 := hc45
                                      refine v_load (v := (2, 121)) (hz_X12_stepWord hT _ _ rfl) rfl rfl ?_
                                      refine v_push (115) (hz_X12_stepWord hT _ _ rfl) rfl ?_
                                      refine v_push (116) (hz_X12_stepWord hT _ _ rfl) rfl ?_
                                      refine v_push (111) (hz_X12_stepWord hT _ _ rfl) rfl ?_
                                      refine v_push (112) (hz_X12_stepWord hT _ _ rfl) rfl ?_
                                      refine v_push (0) (hz_X12_stepWord hT _ _ rfl) rfl ?_
                                      refine v_push (0) (hz_X12_stepWord hT _ _ rfl) rfl ?_
                                      refine v_call (w := 8) [some (0, 115), some (0, 116), some (0, 111), some (0, 112), some (0, 0), some (0, 0), none, none] hO (hz_X12_stepWord hT _ _ rfl) rfl rfl ?_
                                      refine v_load (v := (0, 115)) (hi_X12_spelled_0 hT) rfl rfl ?_
                                      refine v_i2l (hi_X12_spelled_1 hT) ?_
                                      refine v_push (96) (hi_X12_spelled_2 hT) rfl ?_
                                      refine v_bin64 (w := (115 - 96)) (hi_X12_spelled_5 hT) (vz_subL (by omega) (by omega)) ?_
                                      refine v_push (32) (hi_X12_spelled_6 hT) rfl ?_
                                      refine v_bin64 (w := ((115 - 96) * 32)) (hi_X12_spelled_9 hT) (vz_mulL (by omega) (by omega)) ?_
                                      refine v_load (v := (0, 116)) (hi_X12_spelled_10 hT) rfl rfl ?_
                                      refine v_i2l (hi_X12_spelled_11 hT) ?_
                                      refine v_bin64 (w := (((115 - 96) * 32) + 116)) (hi_X12_spelled_12 hT) (vz_addL (by omega) (by omega)) ?_
                                      refine v_push (96) (hi_X12_spelled_13 hT) rfl ?_
                                      refine v_bin64 (w := ((((115 - 96) * 32) + 116) - 96)) (hi_X12_spelled_16 hT) (vz_subL (by omega) (by omega)) ?_
                                      refine v_store2 [some (0, 115), some (0, 116), some (0, 111), some (0, 112), some (0, 0), some (0, 0), some (1, ((((115 - 96) * 32) + 116) - 96)), none] (hi_X12_spelled_17 hT) (Nat.le_of_ble_eq_true rfl) rfl ?_
                                      refine v_load (v := (0, 111)) (hi_X12_spelled_19 hT) rfl rfl ?_
                                      refine v_if (hi_X12_spelled_20 hT) (fun _ => ?_) (fun hc46 => absurd (show 0 < (111 : Int) from (by decide)) hc46)
                                      refine v_load (v := (1, ((((115 - 96) * 32) + 116) - 96))) (hi_X12_spelled_23 hT) rfl rfl ?_
                                      refine v_push (32) (hi_X12_spelled_25 hT) rfl ?_
                                      refine v_bin64 (w := (((((115 - 96) * 32) + 116) - 96) * 32)) (hi_X12_spelled_28 hT) (vz_mulL (by omega) (by omega)) ?_
                                      refine v_load (v := (0, 111)) (hi_X12_spelled_29 hT) rfl rfl ?_
                                      refine v_i2l (hi_X12_spelled_30 hT) ?_
                                      refine v_bin64 (w := ((((((115 - 96) * 32) + 116) - 96) * 32) + 111)) (hi_X12_spelled_31 hT) (vz_addL (by omega) (by omega)) ?_
                                      refine v_push (96) (hi_X12_spelled_32 hT) rfl ?_
                                      refine v_bin64 (w := (((((((115 - 96) * 32) + 116) - 96) * 32) + 111) - 96)) (hi_X12_spelled_35 hT) (vz_subL (by omega) (by omega)) ?_
                                      refine v_goto (hi_X12_spelled_36 hT) ?_
                                      refine v_store2 [some (0, 115), some (0, 116), some (0, 111), some (0, 112), some (0, 0), some (0, 0), some (1, (((((((115 - 96) * 32) + 116) - 96) * 32) + 111) - 96)), none] (hi_X12_spelled_41 hT) (Nat.le_of_ble_eq_true rfl) rfl ?_
                                      refine v_load (v := (0, 112)) (hi_X12_spelled_43 hT) rfl rfl ?_
                                      refine v_if (hi_X12_spelled_44 hT) (fun _ => ?_) (fun hc47 => absurd (show 0 < (112 : Int) from (by decide)) hc47)
                                      refine v_load (v := (1, (((((((115 - 96) * 32) + 116) - 96) * 32) + 111) - 96))) (hi_X12_spelled_47 hT) rfl rfl ?_
                                      refine v_push (32) (hi_X12_spelled_49 hT) rfl ?_
                                      refine v_bin64 (w := ((((((((115 - 96) * 32) + 116) - 96) * 32) + 111) - 96) * 32)) (hi_X12_spelled_52 hT) (vz_mulL (by omega) (by omega)) ?_
                                      refine v_load (v := (0, 112)) (hi_X12_spelled_53 hT) rfl rfl ?_
                                      refine v_i2l (hi_X12_spelled_54 hT) ?_
                                      refine v_bin64 (w := (((((((((115 - 96) * 32) + 116) - 96) * 32) + 111) - 96) * 32) + 112)) (hi_X12_spelled_55 hT) (vz_addL (by omega) (by omega)) ?_
                                      refine v_push (96) (hi_X12_spelled_56 hT) rfl ?_
                                      refine v_bin64 (w := ((((((((((115 - 96) * 32) + 116) - 96) * 32) + 111) - 96) * 32) + 112) - 96)) (hi_X12_spelled_59 hT) (vz_subL (by omega) (by omega)) ?_
                                      refine v_goto (hi_X12_spelled_60 hT) ?_
                                      refine v_store2 [some (0, 115), some (0, 116), some (0, 111), some (0, 112), some (0, 0), some (0, 0), some (1, ((((((((((115 - 96) * 32) + 116) - 96) * 32) + 111) - 96) * 32) + 112) - 96)), none] (hi_X12_spelled_65 hT) (Nat.le_of_ble_eq_true rfl) rfl ?_
                                      refine v_load (v := (0, 0)) (hi_X12_spelled_67 hT) rfl rfl ?_
                                      refine v_if (hi_X12_spelled_69 hT) (fun hc48 => absurd (show 0 < (0 : Int) from hc48) (by decide)) (fun _ => ?_)
                                      refine v_load (v := (1, ((((((((((115 - 96) * 32) + 116) - 96) * 32) + 111) - 96) * 32) + 112) - 96))) (hi_X12_spelled_89 hT) rfl rfl ?_
                                      refine v_store2 [some (0, 115), some (0, 116), some (0, 111), some (0, 112), some (0, 0), some (0, 0), some (1, ((((((((((115 - 96) * 32) + 116) - 96) * 32) + 111) - 96) * 32) + 112) - 96)), none] (hi_X12_spelled_91 hT) (Nat.le_of_ble_eq_true rfl) rfl ?_
                                      refine v_load (v := (0, 0)) (hi_X12_spelled_93 hT) rfl rfl ?_
                                      refine v_if (hi_X12_spelled_95 hT) (fun hc49 => absurd (show 0 < (0 : Int) from hc49) (by decide)) (fun _ => ?_)
                                      refine v_load (v := (1, ((((((((((115 - 96) * 32) + 116) - 96) * 32) + 111) - 96) * 32) + 112) - 96))) (hi_X12_spelled_115 hT) rfl rfl ?_
                                      refine v_ret (hi_X12_spelled_117 hT) (Or.inr rfl) ?_
                                      show vP D T N 318 220 h [some (2, 121)] [(1, ((((((((((115 - 96) * 32) + 116) - 96) * 32) + 111) - 96) * 32) + 112) - 96)), (2, 121)] _
                                      refine v_call (w := 3) [some (2, 121), some (1, ((((((((((115 - 96) * 32) + 116) - 96) * 32) + 111) - 96) * 32) + 112) - 96)), none] hO (hz_X12_stepWord hT _ _ rfl) rfl rfl (rx_isW hT hO (((((((((((115 - 96) * 32) + 116) - 96) * 32) + 111) - 96) * 32) + 112) - 96)) 21 [115, 116, 111, 112] (by decide +kernel) rfl hX ?_)
                                      · show vP D T N 318 223 h [some (2, 121)] [(0, (bW τ 21 i))] _
                                        refine v_if (hz_X12_stepWord hT _ _ rfl) (fun hc50 => ?_) (fun hc50 => ?_)
                                        · have hc50 : (bW τ 21 i) = 0 := hc50
                                          refine v_push (-1) (hz_X12_stepWord hT _ _ rfl) rfl ?_
                                          refine v_ret (hi_X12_stepWord_232 hT) (Or.inl rfl) ?_
                                          exact k0 hc5 hc10 hc15 hc20 hc25 hc30 hc35 hc40 hc45 hc50
                                        · have hc50 : (bW τ 21 i) ≠ 0 := hc50
                                          refine v_push (9) (hz_X12_stepWord hT _ _ rfl) rfl ?_
                                          refine v_goto (hz_X12_stepWord hT _ _ rfl) ?_
                                          refine v_ret (hi_X12_stepWord_232 hT) (Or.inl rfl) ?_
                                          exact k1 hc5 hc10 hc15 hc20 hc25 hc30 hc35 hc40 hc45 hc50
                                    · have hc45 : (bW τ 19 i) ≠ 0 := hc45
                                      refine v_push (8) (hz_X12_stepWord hT _ _ rfl) rfl ?_
                                      refine v_ret (hz_X12_stepWord hT _ _ rfl) (Or.inl rfl) ?_
                                      exact k2 hc5 hc10 hc15 hc20 hc25 hc30 hc35 hc40 hc45
                                · have hc40 : (bW τ 15 i) ≠ 0 := hc40
                                  refine v_push (7) (hz_X12_stepWord hT _ _ rfl) rfl ?_
                                  refine v_ret (hz_X12_stepWord hT _ _ rfl) (Or.inl rfl) ?_
                                  exact k3 hc5 hc10 hc15 hc20 hc25 hc30 hc35 hc40
                            · have hc35 : (bW τ 14 i) ≠ 0 := hc35
                              refine v_push (6) (hz_X12_stepWord hT _ _ rfl) rfl ?_
                              refine v_ret (hz_X12_stepWord hT _ _ rfl) (Or.inl rfl) ?_
                              exact k4 hc5 hc10 hc15 hc20 hc25 hc30 hc35
                        · have hc30 : (bW τ 13 i) ≠ 0 := hc30
                          refine v_push (5) (hz_X12_stepWord hT _ _ rfl) rfl ?_
                          refine v_ret (hz_X12_stepWord hT _ _ rfl) (Or.inl rfl) ?_
                          exact k5 hc5 hc10 hc15 hc20 hc25 hc30
                    · have hc25 : (bW τ 12 i) ≠ 0 := hc25
                      refine v_push (4) (hz_X12_stepWord hT _ _ rfl) rfl ?_
                      refine v_ret (hz_X12_stepWord hT _ _ rfl) (Or.inl rfl) ?_
                      exact k6 hc5 hc10 hc15 hc20 hc25
                · have hc20 : (bW τ 11 i) ≠ 0 := hc20
                  refine v_push (3) (hz_X12_stepWord hT _ _ rfl) rfl ?_
                  refine v_ret (hz_X12_stepWord hT _ _ rfl) (Or.inl rfl) ?_
                  exact k7 hc5 hc10 hc15 hc20
            · have hc15 : (bW τ 10 i) ≠ 0 := hc15
              refine v_push (2) (hz_X12_stepWord hT _ _ rfl) rfl ?_
              refine v_ret (hz_X12_stepWord hT _ _ rfl) (Or.inl rfl) ?_
              exact k8 hc5 hc10 hc15
        · have hc10 : (bW τ 9 i) ≠ 0 := hc10
          refine v_push (1) (hz_X12_stepWord hT _ _ rfl) rfl ?_
          refine v_ret (hz_X12_stepWord hT _ _ rfl) (Or.inl rfl) ?_
          exact k9 hc5 hc10
    · have hc5 : (bW τ 8 i) ≠ 0 := hc5
      refine v_push (0) (hz_X12_stepWord hT _ _ rfl) rfl ?_
      refine v_ret (hz_X12_stepWord hT _ _ rfl) (Or.inl rfl) ?_
      exact k10 hc5
theorem rx_stepWord {D : zD} {T : zT} (hT : hTab T) (hO : vOK T) {N : Nat} {h : zH} {Q : zR → Prop} {B : Nat → Int} {n m i : Nat} {τ : PT} (hX : rX B n m τ i h) (k : Q (h, some (0, swd τ i))) : vP D T N 318 0 h [some (2, 121)] [] Q := by
  unfold swd at k
  refine qx_stepWord hT hO hX ?_ ?_ ?_ ?_ ?_ ?_ ?_ ?_ ?_ ?_ ?_ <;> intros <;> simp_all only [ne_eq, not_true_eq_false, not_false_eq_true, if_true, if_false]
theorem qx_testWord {D : zD} {T : zT} (hT : hTab T) (hO : vOK T) {N : Nat} {h : zH} {Q : zR → Prop} {B : Nat → Int} {n m i : Nat} {τ : PT} (hX : rX B n m τ i h)
    (k0 : ((bW τ 16 i) = 0) → ((bW τ 17 i) = 0) → ((bW τ 18 i) = 0) → Q (h, some (0, -1)))
    (k1 : ((bW τ 16 i) = 0) → ((bW τ 17 i) = 0) → ((bW τ 18 i) ≠ 0) → Q (h, some (0, 2)))
    (k2 : ((bW τ 16 i) = 0) → ((bW τ 17 i) ≠ 0) → Q (h, some (0, 1)))
    (k3 : ((bW τ 16 i) ≠ 0) → Q (h, some (0, 0))) :
    vP D T N 325 0 h [some (2, 121)] [] Q := by
  refine v_load (v := (2, 121)) (hz_X12_testWord hT _ _ rfl) rfl rfl ?_
  refine v_push (101) (hz_X12_testWord hT _ _ rfl) rfl ?_
  refine v_push (97) (hz_X12_testWord hT _ _ rfl) rfl ?_
  refine v_push (116) (hz_X12_testWord hT _ _ rfl) rfl ?_
  refine v_push (101) (hz_X12_testWord hT _ _ rfl) rfl ?_
  refine v_push (110) (hz_X12_testWord hT _ _ rfl) rfl ?_
  refine v_push (0) (hz_X12_testWord hT _ _ rfl) rfl ?_
  refine v_call (w := 8) [some (0, 101), some (0, 97), some (0, 116), some (0, 101), some (0, 110), some (0, 0), none, none] hO (hz_X12_testWord hT _ _ rfl) rfl rfl ?_
  refine v_load (v := (0, 101)) (hi_X12_spelled_0 hT) rfl rfl ?_
  refine v_i2l (hi_X12_spelled_1 hT) ?_
  refine v_push (96) (hi_X12_spelled_2 hT) rfl ?_
  refine v_bin64 (w := (101 - 96)) (hi_X12_spelled_5 hT) (vz_subL (by omega) (by omega)) ?_
  refine v_push (32) (hi_X12_spelled_6 hT) rfl ?_
  refine v_bin64 (w := ((101 - 96) * 32)) (hi_X12_spelled_9 hT) (vz_mulL (by omega) (by omega)) ?_
  refine v_load (v := (0, 97)) (hi_X12_spelled_10 hT) rfl rfl ?_
  refine v_i2l (hi_X12_spelled_11 hT) ?_
  refine v_bin64 (w := (((101 - 96) * 32) + 97)) (hi_X12_spelled_12 hT) (vz_addL (by omega) (by omega)) ?_
  refine v_push (96) (hi_X12_spelled_13 hT) rfl ?_
  refine v_bin64 (w := ((((101 - 96) * 32) + 97) - 96)) (hi_X12_spelled_16 hT) (vz_subL (by omega) (by omega)) ?_
  refine v_store2 [some (0, 101), some (0, 97), some (0, 116), some (0, 101), some (0, 110), some (0, 0), some (1, ((((101 - 96) * 32) + 97) - 96)), none] (hi_X12_spelled_17 hT) (Nat.le_of_ble_eq_true rfl) rfl ?_
  refine v_load (v := (0, 116)) (hi_X12_spelled_19 hT) rfl rfl ?_
  refine v_if (hi_X12_spelled_20 hT) (fun _ => ?_) (fun hc1 => absurd (show 0 < (116 : Int) from (by decide)) hc1)
  refine v_load (v := (1, ((((101 - 96) * 32) + 97) - 96))) (hi_X12_spelled_23 hT) rfl rfl ?_
  refine v_push (32) (hi_X12_spelled_25 hT) rfl ?_
  refine v_bin64 (w := (((((101 - 96) * 32) + 97) - 96) * 32)) (hi_X12_spelled_28 hT) (vz_mulL (by omega) (by omega)) ?_
  refine v_load (v := (0, 116)) (hi_X12_spelled_29 hT) rfl rfl ?_
  refine v_i2l (hi_X12_spelled_30 hT) ?_
  refine v_bin64 (w := ((((((101 - 96) * 32) + 97) - 96) * 32) + 116)) (hi_X12_spelled_31 hT) (vz_addL (by omega) (by omega)) ?_
  refine v_push (96) (hi_X12_spelled_32 hT) rfl ?_
  refine v_bin64 (w := (((((((101 - 96) * 32) + 97) - 96) * 32) + 116) - 96)) (hi_X12_spelled_35 hT) (vz_subL (by omega) (by omega)) ?_
  refine v_goto (hi_X12_spelled_36 hT) ?_
  refine v_store2 [some (0, 101), some (0, 97), some (0, 116), some (0, 101), some (0, 110), some (0, 0), some (1, (((((((101 - 96) * 32) + 97) - 96) * 32) + 116) - 96)), none] (hi_X12_spelled_41 hT) (Nat.le_of_ble_eq_true rfl) rfl ?_
  refine v_load (v := (0, 101)) (hi_X12_spelled_43 hT) rfl rfl ?_
  refine v_if (hi_X12_spelled_44 hT) (fun _ => ?_) (fun hc2 => absurd (show 0 < (101 : Int) from (by decide)) hc2)
  refine v_load (v := (1, (((((((101 - 96) * 32) + 97) - 96) * 32) + 116) - 96))) (hi_X12_spelled_47 hT) rfl rfl ?_
  refine v_push (32) (hi_X12_spelled_49 hT) rfl ?_
  refine v_bin64 (w := ((((((((101 - 96) * 32) + 97) - 96) * 32) + 116) - 96) * 32)) (hi_X12_spelled_52 hT) (vz_mulL (by omega) (by omega)) ?_
  refine v_load (v := (0, 101)) (hi_X12_spelled_53 hT) rfl rfl ?_
  refine v_i2l (hi_X12_spelled_54 hT) ?_
  refine v_bin64 (w := (((((((((101 - 96) * 32) + 97) - 96) * 32) + 116) - 96) * 32) + 101)) (hi_X12_spelled_55 hT) (vz_addL (by omega) (by omega)) ?_
  refine v_push (96) (hi_X12_spelled_56 hT) rfl ?_
  refine v_bin64 (w := ((((((((((101 - 96) * 32) + 97) - 96) * 32) + 116) - 96) * 32) + 101) - 96)) (hi_X12_spelled_59 hT) (vz_subL (by omega) (by omega)) ?_
  refine v_goto (hi_X12_spelled_60 hT) ?_
  refine v_store2 [some (0, 101), some (0, 97), some (0, 116), some (0, 101), some (0, 110), some (0, 0), some (1, ((((((((((101 - 96) * 32) + 97) - 96) * 32) + 116) - 96) * 32) + 101) - 96)), none] (hi_X12_spelled_65 hT) (Nat.le_of_ble_eq_true rfl) rfl ?_
  refine v_load (v := (0, 110)) (hi_X12_spelled_67 hT) rfl rfl ?_
  refine v_if (hi_X12_spelled_69 hT) (fun _ => ?_) (fun hc3 => absurd (show 0 < (110 : Int) from (by decide)) hc3)
  refine v_load (v := (1, ((((((((((101 - 96) * 32) + 97) - 96) * 32) + 116) - 96) * 32) + 101) - 96))) (hi_X12_spelled_72 hT) rfl rfl ?_
  refine v_push (32) (hi_X12_spelled_74 hT) rfl ?_
  refine v_bin64 (w := (((((((((((101 - 96) * 32) + 97) - 96) * 32) + 116) - 96) * 32) + 101) - 96) * 32)) (hi_X12_spelled_77 hT) (vz_mulL (by omega) (by omega)) ?_
  refine v_load (v := (0, 110)) (hi_X12_spelled_78 hT) rfl rfl ?_
  refine v_i2l (hi_X12_spelled_80 hT) ?_
  refine v_bin64 (w := ((((((((((((101 - 96) * 32) + 97) - 96) * 32) + 116) - 96) * 32) + 101) - 96) * 32) + 110)) (hi_X12_spelled_81 hT) (vz_addL (by omega) (by omega)) ?_
  refine v_push (96) (hi_X12_spelled_82 hT) rfl ?_
  refine v_bin64 (w := (((((((((((((101 - 96) * 32) + 97) - 96) * 32) + 116) - 96) * 32) + 101) - 96) * 32) + 110) - 96)) (hi_X12_spelled_85 hT) (vz_subL (by omega) (by omega)) ?_
  refine v_goto (hi_X12_spelled_86 hT) ?_
  refine v_store2 [some (0, 101), some (0, 97), some (0, 116), some (0, 101), some (0, 110), some (0, 0), some (1, (((((((((((((101 - 96) * 32) + 97) - 96) * 32) + 116) - 96) * 32) + 101) - 96) * 32) + 110) - 96)), none] (hi_X12_spelled_91 hT) (Nat.le_of_ble_eq_true rfl) rfl ?_
  refine v_load (v := (0, 0)) (hi_X12_spelled_93 hT) rfl rfl ?_
  refine v_if (hi_X12_spelled_95 hT) (fun hc4 => absurd (show 0 < (0 : Int) from hc4) (by decide)) (fun _ => ?_)
  refine v_load (v := (1, (((((((((((((101 - 96) * 32) + 97) - 96) * 32) + 116) - 96) * 32) + 101) - 96) * 32) + 110) - 96))) (hi_X12_spelled_115 hT) rfl rfl ?_
  refine v_ret (hi_X12_spelled_117 hT) (Or.inr rfl) ?_
  show vP D T N 325 15 h [some (2, 121)] [(1, (((((((((((((101 - 96) * 32) + 97) - 96) * 32) + 116) - 96) * 32) + 101) - 96) * 32) + 110) - 96)), (2, 121)] _
  refine v_call (w := 3) [some (2, 121), some (1, (((((((((((((101 - 96) * 32) + 97) - 96) * 32) + 116) - 96) * 32) + 101) - 96) * 32) + 110) - 96)), none] hO (hz_X12_testWord hT _ _ rfl) rfl rfl (rx_isW hT hO ((((((((((((((101 - 96) * 32) + 97) - 96) * 32) + 116) - 96) * 32) + 101) - 96) * 32) + 110) - 96)) 16 [101, 97, 116, 101, 110] (by decide +kernel) rfl hX ?_)
  · show vP D T N 325 18 h [some (2, 121)] [(0, (bW τ 16 i))] _
    refine v_if (hz_X12_testWord hT _ _ rfl) (fun hc5 => ?_) (fun hc5 => ?_)
    · have hc5 : (bW τ 16 i) = 0 := hc5
      refine v_load (v := (2, 121)) (hz_X12_testWord hT _ _ rfl) rfl rfl ?_
      refine v_push (97) (hz_X12_testWord hT _ _ rfl) rfl ?_
      refine v_push (114) (hz_X12_testWord hT _ _ rfl) rfl ?_
      refine v_push (114) (hz_X12_testWord hT _ _ rfl) rfl ?_
      refine v_push (105) (hz_X12_testWord hT _ _ rfl) rfl ?_
      refine v_push (118) (hz_X12_testWord hT _ _ rfl) rfl ?_
      refine v_push (101) (hz_X12_testWord hT _ _ rfl) rfl ?_
      refine v_call (w := 8) [some (0, 97), some (0, 114), some (0, 114), some (0, 105), some (0, 118), some (0, 101), none, none] hO (hz_X12_testWord hT _ _ rfl) rfl rfl ?_
      refine v_load (v := (0, 97)) (hi_X12_spelled_0 hT) rfl rfl ?_
      refine v_i2l (hi_X12_spelled_1 hT) ?_
      refine v_push (96) (hi_X12_spelled_2 hT) rfl ?_
      refine v_bin64 (w := (97 - 96)) (hi_X12_spelled_5 hT) (vz_subL (by omega) (by omega)) ?_
      refine v_push (32) (hi_X12_spelled_6 hT) rfl ?_
      refine v_bin64 (w := ((97 - 96) * 32)) (hi_X12_spelled_9 hT) (vz_mulL (by omega) (by omega)) ?_
      refine v_load (v := (0, 114)) (hi_X12_spelled_10 hT) rfl rfl ?_
      refine v_i2l (hi_X12_spelled_11 hT) ?_
      refine v_bin64 (w := (((97 - 96) * 32) + 114)) (hi_X12_spelled_12 hT) (vz_addL (by omega) (by omega)) ?_
      refine v_push (96) (hi_X12_spelled_13 hT) rfl ?_
      refine v_bin64 (w := ((((97 - 96) * 32) + 114) - 96)) (hi_X12_spelled_16 hT) (vz_subL (by omega) (by omega)) ?_
      refine v_store2 [some (0, 97), some (0, 114), some (0, 114), some (0, 105), some (0, 118), some (0, 101), some (1, ((((97 - 96) * 32) + 114) - 96)), none] (hi_X12_spelled_17 hT) (Nat.le_of_ble_eq_true rfl) rfl ?_
      refine v_load (v := (0, 114)) (hi_X12_spelled_19 hT) rfl rfl ?_
      refine v_if (hi_X12_spelled_20 hT) (fun _ => ?_) (fun hc6 => absurd (show 0 < (114 : Int) from (by decide)) hc6)
      refine v_load (v := (1, ((((97 - 96) * 32) + 114) - 96))) (hi_X12_spelled_23 hT) rfl rfl ?_
      refine v_push (32) (hi_X12_spelled_25 hT) rfl ?_
      refine v_bin64 (w := (((((97 - 96) * 32) + 114) - 96) * 32)) (hi_X12_spelled_28 hT) (vz_mulL (by omega) (by omega)) ?_
      refine v_load (v := (0, 114)) (hi_X12_spelled_29 hT) rfl rfl ?_
      refine v_i2l (hi_X12_spelled_30 hT) ?_
      refine v_bin64 (w := ((((((97 - 96) * 32) + 114) - 96) * 32) + 114)) (hi_X12_spelled_31 hT) (vz_addL (by omega) (by omega)) ?_
      refine v_push (96) (hi_X12_spelled_32 hT) rfl ?_
      refine v_bin64 (w := (((((((97 - 96) * 32) + 114) - 96) * 32) + 114) - 96)) (hi_X12_spelled_35 hT) (vz_subL (by omega) (by omega)) ?_
      refine v_goto (hi_X12_spelled_36 hT) ?_
      refine v_store2 [some (0, 97), some (0, 114), some (0, 114), some (0, 105), some (0, 118), some (0, 101), some (1, (((((((97 - 96) * 32) + 114) - 96) * 32) + 114) - 96)), none] (hi_X12_spelled_41 hT) (Nat.le_of_ble_eq_true rfl) rfl ?_
      refine v_load (v := (0, 105)) (hi_X12_spelled_43 hT) rfl rfl ?_
      refine v_if (hi_X12_spelled_44 hT) (fun _ => ?_) (fun hc7 => absurd (show 0 < (105 : Int) from (by decide)) hc7)
      refine v_load (v := (1, (((((((97 - 96) * 32) + 114) - 96) * 32) + 114) - 96))) (hi_X12_spelled_47 hT) rfl rfl ?_
      refine v_push (32) (hi_X12_spelled_49 hT) rfl ?_
      refine v_bin64 (w := ((((((((97 - 96) * 32) + 114) - 96) * 32) + 114) - 96) * 32)) (hi_X12_spelled_52 hT) (vz_mulL (by omega) (by omega)) ?_
      refine v_load (v := (0, 105)) (hi_X12_spelled_53 hT) rfl rfl ?_
      refine v_i2l (hi_X12_spelled_54 hT) ?_
      refine v_bin64 (w := (((((((((97 - 96) * 32) + 114) - 96) * 32) + 114) - 96) * 32) + 105)) (hi_X12_spelled_55 hT) (vz_addL (by omega) (by omega)) ?_
      refine v_push (96) (hi_X12_spelled_56 hT) rfl ?_
      refine v_bin64 (w := ((((((((((97 - 96) * 32) + 114) - 96) * 32) + 114) - 96) * 32) + 105) - 96)) (hi_X12_spelled_59 hT) (vz_subL (by omega) (by omega)) ?_
      refine v_goto (hi_X12_spelled_60 hT) ?_
      refine v_store2 [some (0, 97), some (0, 114), some (0, 114), some (0, 105), some (0, 118), some (0, 101), some (1, ((((((((((97 - 96) * 32) + 114) - 96) * 32) + 114) - 96) * 32) + 105) - 96)), none] (hi_X12_spelled_65 hT) (Nat.le_of_ble_eq_true rfl) rfl ?_
      refine v_load (v := (0, 118)) (hi_X12_spelled_67 hT) rfl rfl ?_
      refine v_if (hi_X12_spelled_69 hT) (fun _ => ?_) (fun hc8 => absurd (show 0 < (118 : Int) from (by decide)) hc8)
      refine v_load (v := (1, ((((((((((97 - 96) * 32) + 114) - 96) * 32) + 114) - 96) * 32) + 105) - 96))) (hi_X12_spelled_72 hT) rfl rfl ?_
      refine v_push (32) (hi_X12_spelled_74 hT) rfl ?_
      refine v_bin64 (w := (((((((((((97 - 96) * 32) + 114) - 96) * 32) + 114) - 96) * 32) + 105) - 96) * 32)) (hi_X12_spelled_77 hT) (vz_mulL (by omega) (by omega)) ?_
      refine v_load (v := (0, 118)) (hi_X12_spelled_78 hT) rfl rfl ?_
      refine v_i2l (hi_X12_spelled_80 hT) ?_
      refine v_bin64 (w := ((((((((((((97 - 96) * 32) + 114) - 96) * 32) + 114) - 96) * 32) + 105) - 96) * 32) + 118)) (hi_X12_spelled_81 hT) (vz_addL (by omega) (by omega)) ?_
      refine v_push (96) (hi_X12_spelled_82 hT) rfl ?_
      refine v_bin64 (w := (((((((((((((97 - 96) * 32) + 114) - 96) * 32) + 114) - 96) * 32) + 105) - 96) * 32) + 118) - 96)) (hi_X12_spelled_85 hT) (vz_subL (by omega) (by omega)) ?_
      refine v_goto (hi_X12_spelled_86 hT) ?_
      refine v_store2 [some (0, 97), some (0, 114), some (0, 114), some (0, 105), some (0, 118), some (0, 101), some (1, (((((((((((((97 - 96) * 32) + 114) - 96) * 32) + 114) - 96) * 32) + 105) - 96) * 32) + 118) - 96)), none] (hi_X12_spelled_91 hT) (Nat.le_of_ble_eq_true rfl) rfl ?_
      refine v_load (v := (0, 101)) (hi_X12_spelled_93 hT) rfl rfl ?_
      refine v_if (hi_X12_spelled_95 hT) (fun _ => ?_) (fun hc9 => absurd (show 0 < (101 : Int) from (by decide)) hc9)
      refine v_load (v := (1, (((((((((((((97 - 96) * 32) + 114) - 96) * 32) + 114) - 96) * 32) + 105) - 96) * 32) + 118) - 96))) (hi_X12_spelled_98 hT) rfl rfl ?_
      refine v_push (32) (hi_X12_spelled_100 hT) rfl ?_
      refine v_bin64 (w := ((((((((((((((97 - 96) * 32) + 114) - 96) * 32) + 114) - 96) * 32) + 105) - 96) * 32) + 118) - 96) * 32)) (hi_X12_spelled_103 hT) (vz_mulL (by omega) (by omega)) ?_
      refine v_load (v := (0, 101)) (hi_X12_spelled_104 hT) rfl rfl ?_
      refine v_i2l (hi_X12_spelled_106 hT) ?_
      refine v_bin64 (w := (((((((((((((((97 - 96) * 32) + 114) - 96) * 32) + 114) - 96) * 32) + 105) - 96) * 32) + 118) - 96) * 32) + 101)) (hi_X12_spelled_107 hT) (vz_addL (by omega) (by omega)) ?_
      refine v_push (96) (hi_X12_spelled_108 hT) rfl ?_
      refine v_bin64 (w := ((((((((((((((((97 - 96) * 32) + 114) - 96) * 32) + 114) - 96) * 32) + 105) - 96) * 32) + 118) - 96) * 32) + 101) - 96)) (hi_X12_spelled_111 hT) (vz_subL (by omega) (by omega)) ?_
      refine v_goto (hi_X12_spelled_112 hT) ?_
      refine v_ret (hi_X12_spelled_117 hT) (Or.inr rfl) ?_
      show vP D T N 325 39 h [some (2, 121)] [(1, ((((((((((((((((97 - 96) * 32) + 114) - 96) * 32) + 114) - 96) * 32) + 105) - 96) * 32) + 118) - 96) * 32) + 101) - 96)), (2, 121)] _
      refine v_push (32) (hz_X12_testWord hT _ _ rfl) rfl ?_
      refine v_bin64 (w := (((((((((((((((((97 - 96) * 32) + 114) - 96) * 32) + 114) - 96) * 32) + 105) - 96) * 32) + 118) - 96) * 32) + 101) - 96) * 32)) (hz_X12_testWord hT _ _ rfl) (vz_mulL (by omega) (by omega)) ?_
      refine v_push (19) (hz_X12_testWord hT _ _ rfl) rfl ?_
      refine v_bin64 (w := ((((((((((((((((((97 - 96) * 32) + 114) - 96) * 32) + 114) - 96) * 32) + 105) - 96) * 32) + 118) - 96) * 32) + 101) - 96) * 32) + 19)) (hz_X12_testWord hT _ _ rfl) (vz_addL (by omega) (by omega)) ?_
      refine v_call (w := 3) [some (2, 121), some (1, ((((((((((((((((((97 - 96) * 32) + 114) - 96) * 32) + 114) - 96) * 32) + 105) - 96) * 32) + 118) - 96) * 32) + 101) - 96) * 32) + 19)), none] hO (hz_X12_testWord hT _ _ rfl) rfl rfl (rx_isW hT hO (((((((((((((((((((97 - 96) * 32) + 114) - 96) * 32) + 114) - 96) * 32) + 105) - 96) * 32) + 118) - 96) * 32) + 101) - 96) * 32) + 19)) 17 [97, 114, 114, 105, 118, 101, 115] (by decide +kernel) rfl hX ?_)
      · show vP D T N 325 50 h [some (2, 121)] [(0, (bW τ 17 i))] _
        refine v_if (hz_X12_testWord hT _ _ rfl) (fun hc10 => ?_) (fun hc10 => ?_)
        · have hc10 : (bW τ 17 i) = 0 := hc10
          refine v_load (v := (2, 121)) (hz_X12_testWord hT _ _ rfl) rfl rfl ?_
          refine v_push (99) (hz_X12_testWord hT _ _ rfl) rfl ?_
          refine v_push (114) (hz_X12_testWord hT _ _ rfl) rfl ?_
          refine v_push (117) (hz_X12_testWord hT _ _ rfl) rfl ?_
          refine v_push (109) (hz_X12_testWord hT _ _ rfl) rfl ?_
          refine v_push (98) (hz_X12_testWord hT _ _ rfl) rfl ?_
          refine v_push (115) (hz_X12_testWord hT _ _ rfl) rfl ?_
          refine v_call (w := 8) [some (0, 99), some (0, 114), some (0, 117), some (0, 109), some (0, 98), some (0, 115), none, none] hO (hz_X12_testWord hT _ _ rfl) rfl rfl ?_
          refine v_load (v := (0, 99)) (hi_X12_spelled_0 hT) rfl rfl ?_
          refine v_i2l (hi_X12_spelled_1 hT) ?_
          refine v_push (96) (hi_X12_spelled_2 hT) rfl ?_
          refine v_bin64 (w := (99 - 96)) (hi_X12_spelled_5 hT) (vz_subL (by omega) (by omega)) ?_
          refine v_push (32) (hi_X12_spelled_6 hT) rfl ?_
          refine v_bin64 (w := ((99 - 96) * 32)) (hi_X12_spelled_9 hT) (vz_mulL (by omega) (by omega)) ?_
          refine v_load (v := (0, 114)) (hi_X12_spelled_10 hT) rfl rfl ?_
          refine v_i2l (hi_X12_spelled_11 hT) ?_
          refine v_bin64 (w := (((99 - 96) * 32) + 114)) (hi_X12_spelled_12 hT) (vz_addL (by omega) (by omega)) ?_
          refine v_push (96) (hi_X12_spelled_13 hT) rfl ?_
          refine v_bin64 (w := ((((99 - 96) * 32) + 114) - 96)) (hi_X12_spelled_16 hT) (vz_subL (by omega) (by omega)) ?_
          refine v_store2 [some (0, 99), some (0, 114), some (0, 117), some (0, 109), some (0, 98), some (0, 115), some (1, ((((99 - 96) * 32) + 114) - 96)), none] (hi_X12_spelled_17 hT) (Nat.le_of_ble_eq_true rfl) rfl ?_
          refine v_load (v := (0, 117)) (hi_X12_spelled_19 hT) rfl rfl ?_
          refine v_if (hi_X12_spelled_20 hT) (fun _ => ?_) (fun hc11 => absurd (show 0 < (117 : Int) from (by decide)) hc11)
          refine v_load (v := (1, ((((99 - 96) * 32) + 114) - 96))) (hi_X12_spelled_23 hT) rfl rfl ?_
          refine v_push (32) (hi_X12_spelled_25 hT) rfl ?_
          refine v_bin64 (w := (((((99 - 96) * 32) + 114) - 96) * 32)) (hi_X12_spelled_28 hT) (vz_mulL (by omega) (by omega)) ?_
          refine v_load (v := (0, 117)) (hi_X12_spelled_29 hT) rfl rfl ?_
          refine v_i2l (hi_X12_spelled_30 hT) ?_
          refine v_bin64 (w := ((((((99 - 96) * 32) + 114) - 96) * 32) + 117)) (hi_X12_spelled_31 hT) (vz_addL (by omega) (by omega)) ?_
          refine v_push (96) (hi_X12_spelled_32 hT) rfl ?_
          refine v_bin64 (w := (((((((99 - 96) * 32) + 114) - 96) * 32) + 117) - 96)) (hi_X12_spelled_35 hT) (vz_subL (by omega) (by omega)) ?_
          refine v_goto (hi_X12_spelled_36 hT) ?_
          refine v_store2 [some (0, 99), some (0, 114), some (0, 117), some (0, 109), some (0, 98), some (0, 115), some (1, (((((((99 - 96) * 32) + 114) - 96) * 32) + 117) - 96)), none] (hi_X12_spelled_41 hT) (Nat.le_of_ble_eq_true rfl) rfl ?_
          refine v_load (v := (0, 109)) (hi_X12_spelled_43 hT) rfl rfl ?_
          refine v_if (hi_X12_spelled_44 hT) (fun _ => ?_) (fun hc12 => absurd (show 0 < (109 : Int) from (by decide)) hc12)
          refine v_load (v := (1, (((((((99 - 96) * 32) + 114) - 96) * 32) + 117) - 96))) (hi_X12_spelled_47 hT) rfl rfl ?_
          refine v_push (32) (hi_X12_spelled_49 hT) rfl ?_
          refine v_bin64 (w := ((((((((99 - 96) * 32) + 114) - 96) * 32) + 117) - 96) * 32)) (hi_X12_spelled_52 hT) (vz_mulL (by omega) (by omega)) ?_
          refine v_load (v := (0, 109)) (hi_X12_spelled_53 hT) rfl rfl ?_
          refine v_i2l (hi_X12_spelled_54 hT) ?_
          refine v_bin64 (w := (((((((((99 - 96) * 32) + 114) - 96) * 32) + 117) - 96) * 32) + 109)) (hi_X12_spelled_55 hT) (vz_addL (by omega) (by omega)) ?_
          refine v_push (96) (hi_X12_spelled_56 hT) rfl ?_
          refine v_bin64 (w := ((((((((((99 - 96) * 32) + 114) - 96) * 32) + 117) - 96) * 32) + 109) - 96)) (hi_X12_spelled_59 hT) (vz_subL (by omega) (by omega)) ?_
          refine v_goto (hi_X12_spelled_60 hT) ?_
          refine v_store2 [some (0, 99), some (0, 114), some (0, 117), some (0, 109), some (0, 98), some (0, 115), some (1, ((((((((((99 - 96) * 32) + 114) - 96) * 32) + 117) - 96) * 32) + 109) - 96)), none] (hi_X12_spelled_65 hT) (Nat.le_of_ble_eq_true rfl) rfl ?_
          refine v_load (v := (0, 98)) (hi_X12_spelled_67 hT) rfl rfl ?_
          refine v_if (hi_X12_spelled_69 hT) (fun _ => ?_) (fun hc13 => absurd (show 0 < (98 : Int) from (by decide)) hc13)
          refine v_load (v := (1, ((((((((((99 - 96) * 32) + 114) - 96) * 32) + 117) - 96) * 32) + 109) - 96))) (hi_X12_spelled_72 hT) rfl rfl ?_
          refine v_push (32) (hi_X12_spelled_74 hT) rfl ?_
          refine v_bin64 (w := (((((((((((99 - 96) * 32) + 114) - 96) * 32) + 117) - 96) * 32) + 109) - 96) * 32)) (hi_X12_spelled_77 hT) (vz_mulL (by omega) (by omega)) ?_
          refine v_load (v := (0, 98)) (hi_X12_spelled_78 hT) rfl rfl ?_
          refine v_i2l (hi_X12_spelled_80 hT) ?_
          refine v_bin64 (w := ((((((((((((99 - 96) * 32) + 114) - 96) * 32) + 117) - 96) * 32) + 109) - 96) * 32) + 98)) (hi_X12_spelled_81 hT) (vz_addL (by omega) (by omega)) ?_
          refine v_push (96) (hi_X12_spelled_82 hT) rfl ?_
          refine v_bin64 (w := (((((((((((((99 - 96) * 32) + 114) - 96) * 32) + 117) - 96) * 32) + 109) - 96) * 32) + 98) - 96)) (hi_X12_spelled_85 hT) (vz_subL (by omega) (by omega)) ?_
          refine v_goto (hi_X12_spelled_86 hT) ?_
          refine v_store2 [some (0, 99), some (0, 114), some (0, 117), some (0, 109), some (0, 98), some (0, 115), some (1, (((((((((((((99 - 96) * 32) + 114) - 96) * 32) + 117) - 96) * 32) + 109) - 96) * 32) + 98) - 96)), none] (hi_X12_spelled_91 hT) (Nat.le_of_ble_eq_true rfl) rfl ?_
          refine v_load (v := (0, 115)) (hi_X12_spelled_93 hT) rfl rfl ?_
          refine v_if (hi_X12_spelled_95 hT) (fun _ => ?_) (fun hc14 => absurd (show 0 < (115 : Int) from (by decide)) hc14)
          refine v_load (v := (1, (((((((((((((99 - 96) * 32) + 114) - 96) * 32) + 117) - 96) * 32) + 109) - 96) * 32) + 98) - 96))) (hi_X12_spelled_98 hT) rfl rfl ?_
          refine v_push (32) (hi_X12_spelled_100 hT) rfl ?_
          refine v_bin64 (w := ((((((((((((((99 - 96) * 32) + 114) - 96) * 32) + 117) - 96) * 32) + 109) - 96) * 32) + 98) - 96) * 32)) (hi_X12_spelled_103 hT) (vz_mulL (by omega) (by omega)) ?_
          refine v_load (v := (0, 115)) (hi_X12_spelled_104 hT) rfl rfl ?_
          refine v_i2l (hi_X12_spelled_106 hT) ?_
          refine v_bin64 (w := (((((((((((((((99 - 96) * 32) + 114) - 96) * 32) + 117) - 96) * 32) + 109) - 96) * 32) + 98) - 96) * 32) + 115)) (hi_X12_spelled_107 hT) (vz_addL (by omega) (by omega)) ?_
          refine v_push (96) (hi_X12_spelled_108 hT) rfl ?_
          refine v_bin64 (w := ((((((((((((((((99 - 96) * 32) + 114) - 96) * 32) + 117) - 96) * 32) + 109) - 96) * 32) + 98) - 96) * 32) + 115) - 96)) (hi_X12_spelled_111 hT) (vz_subL (by omega) (by omega)) ?_
          refine v_goto (hi_X12_spelled_112 hT) ?_
          refine v_ret (hi_X12_spelled_117 hT) (Or.inr rfl) ?_
          show vP D T N 325 71 h [some (2, 121)] [(1, ((((((((((((((((99 - 96) * 32) + 114) - 96) * 32) + 117) - 96) * 32) + 109) - 96) * 32) + 98) - 96) * 32) + 115) - 96)), (2, 121)] _
          refine v_call (w := 3) [some (2, 121), some (1, ((((((((((((((((99 - 96) * 32) + 114) - 96) * 32) + 117) - 96) * 32) + 109) - 96) * 32) + 98) - 96) * 32) + 115) - 96)), none] hO (hz_X12_testWord hT _ _ rfl) rfl rfl (rx_isW hT hO (((((((((((((((((99 - 96) * 32) + 114) - 96) * 32) + 117) - 96) * 32) + 109) - 96) * 32) + 98) - 96) * 32) + 115) - 96)) 18 [99, 114, 117, 109, 98, 115] (by decide +kernel) rfl hX ?_)
          · show vP D T N 325 74 h [some (2, 121)] [(0, (bW τ 18 i))] _
            refine v_if (hz_X12_testWord hT _ _ rfl) (fun hc15 => ?_) (fun hc15 => ?_)
            · have hc15 : (bW τ 18 i) = 0 := hc15
              refine v_push (-1) (hz_X12_testWord hT _ _ rfl) rfl ?_
              refine v_ret (hi_X12_testWord_82 hT) (Or.inl rfl) ?_
              exact k0 hc5 hc10 hc15
            · have hc15 : (bW τ 18 i) ≠ 0 := hc15
              refine v_push (2) (hz_X12_testWord hT _ _ rfl) rfl ?_
              refine v_goto (hz_X12_testWord hT _ _ rfl) ?_
              refine v_ret (hi_X12_testWord_82 hT) (Or.inl rfl) ?_
              exact k1 hc5 hc10 hc15
        · have hc10 : (bW τ 17 i) ≠ 0 := hc10
          refine v_push (1) (hz_X12_testWord hT _ _ rfl) rfl ?_
          refine v_ret (hz_X12_testWord hT _ _ rfl) (Or.inl rfl) ?_
          exact k2 hc5 hc10
    · have hc5 : (bW τ 16 i) ≠ 0 := hc5
      refine v_push (0) (hz_X12_testWord hT _ _ rfl) rfl ?_
      refine v_ret (hz_X12_testWord hT _ _ rfl) (Or.inl rfl) ?_
      exact k3 hc5
theorem rx_testWord {D : zD} {T : zT} (hT : hTab T) (hO : vOK T) {N : Nat} {h : zH} {Q : zR → Prop} {B : Nat → Int} {n m i : Nat} {τ : PT} (hX : rX B n m τ i h) (k : Q (h, some (0, twd τ i))) : vP D T N 325 0 h [some (2, 121)] [] Q := by
  unfold twd at k
  refine qx_testWord hT hO hX ?_ ?_ ?_ ?_ <;> intros <;> simp_all only [ne_eq, not_true_eq_false, not_false_eq_true, if_true, if_false]
theorem qb_isWord {D : zD} {T : zT} (hT : hTab T) (hO : vOK T) {N : Nat} {h : zH} {Q : zR → Prop} (c : Int) (hv0 : zHv h)
    (k0 : ((h 121 14).2 = 1) → ((h 121 19).2 = c) → Q (h, some (0, 1)))
    (k1 : ((h 121 14).2 = 1) → ((h 121 19).2 ≠ c) → Q (h, some (0, 0)))
    (k2 : ((h 121 14).2 ≠ 1) → Q (h, some (0, 0))) :
    vP D T N 267 0 h [some (2, 121), some (1, c), none] [] Q := by
  refine v_load (v := (2, 121)) (hz_X12_isWord hT _ _ rfl) rfl rfl ?_
  refine v_getI (t := 0) (r := 121) (hz_X12_isWord hT _ _ rfl) rfl rfl rfl ?_
  refine v_push (1) (hz_X12_isWord hT _ _ rfl) rfl ?_
  refine v_ic (hz_X12_isWord hT _ _ rfl) (fun hc1 => ?_) (fun hc1 => ?_)
  · have hc1 : (h 121 14).2 = 1 := hc1
    refine v_load (v := (2, 121)) (hz_X12_isWord hT _ _ rfl) rfl rfl ?_
    refine v_getI (t := 1) (r := 121) (hz_X12_isWord hT _ _ rfl) rfl rfl rfl ?_
    refine v_load (v := (1, c)) (hz_X12_isWord hT _ _ rfl) rfl rfl ?_
    refine v_lif (hz_X12_isWord hT _ _ rfl) (hz_X12_isWord hT _ _ rfl) (fun hc2 => ?_) (fun hc2 => ?_)
    · have hc2 : (h 121 19).2 = c := hc2
      refine v_push (1) (hz_X12_isWord hT _ _ rfl) rfl ?_
      refine v_goto (hz_X12_isWord hT _ _ rfl) ?_
      refine v_ret (hi_X12_isWord_22 hT) (Or.inl rfl) ?_
      exact k0 hc1 hc2
    · have hc2 : (h 121 19).2 ≠ c := hc2
      refine v_push (0) (hi_X12_isWord_21 hT) rfl ?_
      refine v_ret (hi_X12_isWord_22 hT) (Or.inl rfl) ?_
      exact k1 hc1 hc2
  · have hc1 : (h 121 14).2 ≠ 1 := hc1
    refine v_push (0) (hi_X12_isWord_21 hT) rfl ?_
    refine v_ret (hi_X12_isWord_22 hT) (Or.inl rfl) ?_
    exact k2 hc1
theorem rb_any_isWord {D : zD} {T : zT} (hT : hTab T) (hO : vOK T) {N : Nat} {h : zH} {Q : zR → Prop} {c : Int} (k : ∀ v : Int, Q (h, some (0, v))) : vP D T N 267 0 h [some (2, 121), some (1, c), none] [] Q := vP_hv (fun hv => by
  refine qb_isWord hT hO c hv ?_ ?_ ?_ <;> intros <;> exact k _)
theorem qb_isBy {D : zD} {T : zT} (hT : hTab T) (hO : vOK T) {N : Nat} {h : zH} {Q : zR → Prop}  (hv0 : zHv h)
    (k0 : ∀ (v5 : Int), Q (h, some (0, v5))) :
    vP D T N 243 0 h [some (2, 121)] [] Q := by
  refine v_load (v := (2, 121)) (hz_X12_isBy hT _ _ rfl) rfl rfl ?_
  refine v_push (98) (hz_X12_isBy hT _ _ rfl) rfl ?_
  refine v_push (121) (hz_X12_isBy hT _ _ rfl) rfl ?_
  refine v_push (0) (hz_X12_isBy hT _ _ rfl) rfl ?_
  refine v_push (0) (hz_X12_isBy hT _ _ rfl) rfl ?_
  refine v_push (0) (hz_X12_isBy hT _ _ rfl) rfl ?_
  refine v_push (0) (hz_X12_isBy hT _ _ rfl) rfl ?_
  refine v_call (w := 8) [some (0, 98), some (0, 121), some (0, 0), some (0, 0), some (0, 0), some (0, 0), none, none] hO (hz_X12_isBy hT _ _ rfl) rfl rfl ?_
  refine v_load (v := (0, 98)) (hi_X12_spelled_0 hT) rfl rfl ?_
  refine v_i2l (hi_X12_spelled_1 hT) ?_
  refine v_push (96) (hi_X12_spelled_2 hT) rfl ?_
  refine v_bin64 (w := (98 - 96)) (hi_X12_spelled_5 hT) (vz_subL (by omega) (by omega)) ?_
  refine v_push (32) (hi_X12_spelled_6 hT) rfl ?_
  refine v_bin64 (w := ((98 - 96) * 32)) (hi_X12_spelled_9 hT) (vz_mulL (by omega) (by omega)) ?_
  refine v_load (v := (0, 121)) (hi_X12_spelled_10 hT) rfl rfl ?_
  refine v_i2l (hi_X12_spelled_11 hT) ?_
  refine v_bin64 (w := (((98 - 96) * 32) + 121)) (hi_X12_spelled_12 hT) (vz_addL (by omega) (by omega)) ?_
  refine v_push (96) (hi_X12_spelled_13 hT) rfl ?_
  refine v_bin64 (w := ((((98 - 96) * 32) + 121) - 96)) (hi_X12_spelled_16 hT) (vz_subL (by omega) (by omega)) ?_
  refine v_store2 [some (0, 98), some (0, 121), some (0, 0), some (0, 0), some (0, 0), some (0, 0), some (1, ((((98 - 96) * 32) + 121) - 96)), none] (hi_X12_spelled_17 hT) (Nat.le_of_ble_eq_true rfl) rfl ?_
  refine v_load (v := (0, 0)) (hi_X12_spelled_19 hT) rfl rfl ?_
  refine v_if (hi_X12_spelled_20 hT) (fun hc1 => absurd (show 0 < (0 : Int) from hc1) (by decide)) (fun _ => ?_)
  refine v_load (v := (1, ((((98 - 96) * 32) + 121) - 96))) (hi_X12_spelled_39 hT) rfl rfl ?_
  refine v_store2 [some (0, 98), some (0, 121), some (0, 0), some (0, 0), some (0, 0), some (0, 0), some (1, ((((98 - 96) * 32) + 121) - 96)), none] (hi_X12_spelled_41 hT) (Nat.le_of_ble_eq_true rfl) rfl ?_
  refine v_load (v := (0, 0)) (hi_X12_spelled_43 hT) rfl rfl ?_
  refine v_if (hi_X12_spelled_44 hT) (fun hc2 => absurd (show 0 < (0 : Int) from hc2) (by decide)) (fun _ => ?_)
  refine v_load (v := (1, ((((98 - 96) * 32) + 121) - 96))) (hi_X12_spelled_63 hT) rfl rfl ?_
  refine v_store2 [some (0, 98), some (0, 121), some (0, 0), some (0, 0), some (0, 0), some (0, 0), some (1, ((((98 - 96) * 32) + 121) - 96)), none] (hi_X12_spelled_65 hT) (Nat.le_of_ble_eq_true rfl) rfl ?_
  refine v_load (v := (0, 0)) (hi_X12_spelled_67 hT) rfl rfl ?_
  refine v_if (hi_X12_spelled_69 hT) (fun hc3 => absurd (show 0 < (0 : Int) from hc3) (by decide)) (fun _ => ?_)
  refine v_load (v := (1, ((((98 - 96) * 32) + 121) - 96))) (hi_X12_spelled_89 hT) rfl rfl ?_
  refine v_store2 [some (0, 98), some (0, 121), some (0, 0), some (0, 0), some (0, 0), some (0, 0), some (1, ((((98 - 96) * 32) + 121) - 96)), none] (hi_X12_spelled_91 hT) (Nat.le_of_ble_eq_true rfl) rfl ?_
  refine v_load (v := (0, 0)) (hi_X12_spelled_93 hT) rfl rfl ?_
  refine v_if (hi_X12_spelled_95 hT) (fun hc4 => absurd (show 0 < (0 : Int) from hc4) (by decide)) (fun _ => ?_)
  refine v_load (v := (1, ((((98 - 96) * 32) + 121) - 96))) (hi_X12_spelled_115 hT) rfl rfl ?_
  refine v_ret (hi_X12_spelled_117 hT) (Or.inr rfl) ?_
  show vP D T N 243 12 h [some (2, 121)] [(1, ((((98 - 96) * 32) + 121) - 96)), (2, 121)] _
  refine v_call (w := 3) [some (2, 121), some (1, ((((98 - 96) * 32) + 121) - 96)), none] hO (hz_X12_isBy hT _ _ rfl) rfl rfl (rb_any_isWord hT hO (fun v5 => ?_))
  · show vP D T N 243 15 h [some (2, 121)] [(0, v5)] _
    refine v_ret (hz_X12_isBy hT _ _ rfl) (Or.inl rfl) ?_
    exact k0 v5
theorem rb_any_isBy {D : zD} {T : zT} (hT : hTab T) (hO : vOK T) {N : Nat} {h : zH} {Q : zR → Prop} (k : ∀ v : Int, Q (h, some (0, v))) : vP D T N 243 0 h [some (2, 121)] [] Q := vP_hv (fun hv => by
  refine qb_isBy hT hO hv ?_ <;> intros <;> exact k _)
theorem qb_isAtWord {D : zD} {T : zT} (hT : hTab T) (hO : vOK T) {N : Nat} {h : zH} {Q : zR → Prop}  (hv0 : zHv h)
    (k0 : ∀ (v5 : Int), Q (h, some (0, v5))) :
    vP D T N 241 0 h [some (2, 121)] [] Q := by
  refine v_load (v := (2, 121)) (hz_X12_isAtWord hT _ _ rfl) rfl rfl ?_
  refine v_push (97) (hz_X12_isAtWord hT _ _ rfl) rfl ?_
  refine v_push (116) (hz_X12_isAtWord hT _ _ rfl) rfl ?_
  refine v_push (0) (hz_X12_isAtWord hT _ _ rfl) rfl ?_
  refine v_push (0) (hz_X12_isAtWord hT _ _ rfl) rfl ?_
  refine v_push (0) (hz_X12_isAtWord hT _ _ rfl) rfl ?_
  refine v_push (0) (hz_X12_isAtWord hT _ _ rfl) rfl ?_
  refine v_call (w := 8) [some (0, 97), some (0, 116), some (0, 0), some (0, 0), some (0, 0), some (0, 0), none, none] hO (hz_X12_isAtWord hT _ _ rfl) rfl rfl ?_
  refine v_load (v := (0, 97)) (hi_X12_spelled_0 hT) rfl rfl ?_
  refine v_i2l (hi_X12_spelled_1 hT) ?_
  refine v_push (96) (hi_X12_spelled_2 hT) rfl ?_
  refine v_bin64 (w := (97 - 96)) (hi_X12_spelled_5 hT) (vz_subL (by omega) (by omega)) ?_
  refine v_push (32) (hi_X12_spelled_6 hT) rfl ?_
  refine v_bin64 (w := ((97 - 96) * 32)) (hi_X12_spelled_9 hT) (vz_mulL (by omega) (by omega)) ?_
  refine v_load (v := (0, 116)) (hi_X12_spelled_10 hT) rfl rfl ?_
  refine v_i2l (hi_X12_spelled_11 hT) ?_
  refine v_bin64 (w := (((97 - 96) * 32) + 116)) (hi_X12_spelled_12 hT) (vz_addL (by omega) (by omega)) ?_
  refine v_push (96) (hi_X12_spelled_13 hT) rfl ?_
  refine v_bin64 (w := ((((97 - 96) * 32) + 116) - 96)) (hi_X12_spelled_16 hT) (vz_subL (by omega) (by omega)) ?_
  refine v_store2 [some (0, 97), some (0, 116), some (0, 0), some (0, 0), some (0, 0), some (0, 0), some (1, ((((97 - 96) * 32) + 116) - 96)), none] (hi_X12_spelled_17 hT) (Nat.le_of_ble_eq_true rfl) rfl ?_
  refine v_load (v := (0, 0)) (hi_X12_spelled_19 hT) rfl rfl ?_
  refine v_if (hi_X12_spelled_20 hT) (fun hc1 => absurd (show 0 < (0 : Int) from hc1) (by decide)) (fun _ => ?_)
  refine v_load (v := (1, ((((97 - 96) * 32) + 116) - 96))) (hi_X12_spelled_39 hT) rfl rfl ?_
  refine v_store2 [some (0, 97), some (0, 116), some (0, 0), some (0, 0), some (0, 0), some (0, 0), some (1, ((((97 - 96) * 32) + 116) - 96)), none] (hi_X12_spelled_41 hT) (Nat.le_of_ble_eq_true rfl) rfl ?_
  refine v_load (v := (0, 0)) (hi_X12_spelled_43 hT) rfl rfl ?_
  refine v_if (hi_X12_spelled_44 hT) (fun hc2 => absurd (show 0 < (0 : Int) from hc2) (by decide)) (fun _ => ?_)
  refine v_load (v := (1, ((((97 - 96) * 32) + 116) - 96))) (hi_X12_spelled_63 hT) rfl rfl ?_
  refine v_store2 [some (0, 97), some (0, 116), some (0, 0), some (0, 0), some (0, 0), some (0, 0), some (1, ((((97 - 96) * 32) + 116) - 96)), none] (hi_X12_spelled_65 hT) (Nat.le_of_ble_eq_true rfl) rfl ?_
  refine v_load (v := (0, 0)) (hi_X12_spelled_67 hT) rfl rfl ?_
  refine v_if (hi_X12_spelled_69 hT) (fun hc3 => absurd (show 0 < (0 : Int) from hc3) (by decide)) (fun _ => ?_)
  refine v_load (v := (1, ((((97 - 96) * 32) + 116) - 96))) (hi_X12_spelled_89 hT) rfl rfl ?_
  refine v_store2 [some (0, 97), some (0, 116), some (0, 0), some (0, 0), some (0, 0), some (0, 0), some (1, ((((97 - 96) * 32) + 116) - 96)), none] (hi_X12_spelled_91 hT) (Nat.le_of_ble_eq_true rfl) rfl ?_
  refine v_load (v := (0, 0)) (hi_X12_spelled_93 hT) rfl rfl ?_
  refine v_if (hi_X12_spelled_95 hT) (fun hc4 => absurd (show 0 < (0 : Int) from hc4) (by decide)) (fun _ => ?_)
  refine v_load (v := (1, ((((97 - 96) * 32) + 116) - 96))) (hi_X12_spelled_115 hT) rfl rfl ?_
  refine v_ret (hi_X12_spelled_117 hT) (Or.inr rfl) ?_
  show vP D T N 241 12 h [some (2, 121)] [(1, ((((97 - 96) * 32) + 116) - 96)), (2, 121)] _
  refine v_call (w := 3) [some (2, 121), some (1, ((((97 - 96) * 32) + 116) - 96)), none] hO (hz_X12_isAtWord hT _ _ rfl) rfl rfl (rb_any_isWord hT hO (fun v5 => ?_))
  · show vP D T N 241 15 h [some (2, 121)] [(0, v5)] _
    refine v_ret (hz_X12_isAtWord hT _ _ rfl) (Or.inl rfl) ?_
    exact k0 v5
theorem rb_any_isAtWord {D : zD} {T : zT} (hT : hTab T) (hO : vOK T) {N : Nat} {h : zH} {Q : zR → Prop} (k : ∀ v : Int, Q (h, some (0, v))) : vP D T N 241 0 h [some (2, 121)] [] Q := vP_hv (fun hv => by
  refine qb_isAtWord hT hO hv ?_ <;> intros <;> exact k _)
theorem qb_isTo {D : zD} {T : zT} (hT : hTab T) (hO : vOK T) {N : Nat} {h : zH} {Q : zR → Prop}  (hv0 : zHv h)
    (k0 : ∀ (v5 : Int), Q (h, some (0, v5))) :
    vP D T N 262 0 h [some (2, 121)] [] Q := by
  refine v_load (v := (2, 121)) (hz_X12_isTo hT _ _ rfl) rfl rfl ?_
  refine v_push (116) (hz_X12_isTo hT _ _ rfl) rfl ?_
  refine v_push (111) (hz_X12_isTo hT _ _ rfl) rfl ?_
  refine v_push (0) (hz_X12_isTo hT _ _ rfl) rfl ?_
  refine v_push (0) (hz_X12_isTo hT _ _ rfl) rfl ?_
  refine v_push (0) (hz_X12_isTo hT _ _ rfl) rfl ?_
  refine v_push (0) (hz_X12_isTo hT _ _ rfl) rfl ?_
  refine v_call (w := 8) [some (0, 116), some (0, 111), some (0, 0), some (0, 0), some (0, 0), some (0, 0), none, none] hO (hz_X12_isTo hT _ _ rfl) rfl rfl ?_
  refine v_load (v := (0, 116)) (hi_X12_spelled_0 hT) rfl rfl ?_
  refine v_i2l (hi_X12_spelled_1 hT) ?_
  refine v_push (96) (hi_X12_spelled_2 hT) rfl ?_
  refine v_bin64 (w := (116 - 96)) (hi_X12_spelled_5 hT) (vz_subL (by omega) (by omega)) ?_
  refine v_push (32) (hi_X12_spelled_6 hT) rfl ?_
  refine v_bin64 (w := ((116 - 96) * 32)) (hi_X12_spelled_9 hT) (vz_mulL (by omega) (by omega)) ?_
  refine v_load (v := (0, 111)) (hi_X12_spelled_10 hT) rfl rfl ?_
  refine v_i2l (hi_X12_spelled_11 hT) ?_
  refine v_bin64 (w := (((116 - 96) * 32) + 111)) (hi_X12_spelled_12 hT) (vz_addL (by omega) (by omega)) ?_
  refine v_push (96) (hi_X12_spelled_13 hT) rfl ?_
  refine v_bin64 (w := ((((116 - 96) * 32) + 111) - 96)) (hi_X12_spelled_16 hT) (vz_subL (by omega) (by omega)) ?_
  refine v_store2 [some (0, 116), some (0, 111), some (0, 0), some (0, 0), some (0, 0), some (0, 0), some (1, ((((116 - 96) * 32) + 111) - 96)), none] (hi_X12_spelled_17 hT) (Nat.le_of_ble_eq_true rfl) rfl ?_
  refine v_load (v := (0, 0)) (hi_X12_spelled_19 hT) rfl rfl ?_
  refine v_if (hi_X12_spelled_20 hT) (fun hc1 => absurd (show 0 < (0 : Int) from hc1) (by decide)) (fun _ => ?_)
  refine v_load (v := (1, ((((116 - 96) * 32) + 111) - 96))) (hi_X12_spelled_39 hT) rfl rfl ?_
  refine v_store2 [some (0, 116), some (0, 111), some (0, 0), some (0, 0), some (0, 0), some (0, 0), some (1, ((((116 - 96) * 32) + 111) - 96)), none] (hi_X12_spelled_41 hT) (Nat.le_of_ble_eq_true rfl) rfl ?_
  refine v_load (v := (0, 0)) (hi_X12_spelled_43 hT) rfl rfl ?_
  refine v_if (hi_X12_spelled_44 hT) (fun hc2 => absurd (show 0 < (0 : Int) from hc2) (by decide)) (fun _ => ?_)
  refine v_load (v := (1, ((((116 - 96) * 32) + 111) - 96))) (hi_X12_spelled_63 hT) rfl rfl ?_
  refine v_store2 [some (0, 116), some (0, 111), some (0, 0), some (0, 0), some (0, 0), some (0, 0), some (1, ((((116 - 96) * 32) + 111) - 96)), none] (hi_X12_spelled_65 hT) (Nat.le_of_ble_eq_true rfl) rfl ?_
  refine v_load (v := (0, 0)) (hi_X12_spelled_67 hT) rfl rfl ?_
  refine v_if (hi_X12_spelled_69 hT) (fun hc3 => absurd (show 0 < (0 : Int) from hc3) (by decide)) (fun _ => ?_)
  refine v_load (v := (1, ((((116 - 96) * 32) + 111) - 96))) (hi_X12_spelled_89 hT) rfl rfl ?_
  refine v_store2 [some (0, 116), some (0, 111), some (0, 0), some (0, 0), some (0, 0), some (0, 0), some (1, ((((116 - 96) * 32) + 111) - 96)), none] (hi_X12_spelled_91 hT) (Nat.le_of_ble_eq_true rfl) rfl ?_
  refine v_load (v := (0, 0)) (hi_X12_spelled_93 hT) rfl rfl ?_
  refine v_if (hi_X12_spelled_95 hT) (fun hc4 => absurd (show 0 < (0 : Int) from hc4) (by decide)) (fun _ => ?_)
  refine v_load (v := (1, ((((116 - 96) * 32) + 111) - 96))) (hi_X12_spelled_115 hT) rfl rfl ?_
  refine v_ret (hi_X12_spelled_117 hT) (Or.inr rfl) ?_
  show vP D T N 262 12 h [some (2, 121)] [(1, ((((116 - 96) * 32) + 111) - 96)), (2, 121)] _
  refine v_call (w := 3) [some (2, 121), some (1, ((((116 - 96) * 32) + 111) - 96)), none] hO (hz_X12_isTo hT _ _ rfl) rfl rfl (rb_any_isWord hT hO (fun v5 => ?_))
  · show vP D T N 262 15 h [some (2, 121)] [(0, v5)] _
    refine v_ret (hz_X12_isTo hT _ _ rfl) (Or.inl rfl) ?_
    exact k0 v5
theorem rb_any_isTo {D : zD} {T : zT} (hT : hTab T) (hO : vOK T) {N : Nat} {h : zH} {Q : zR → Prop} (k : ∀ v : Int, Q (h, some (0, v))) : vP D T N 262 0 h [some (2, 121)] [] Q := vP_hv (fun hv => by
  refine qb_isTo hT hO hv ?_ <;> intros <;> exact k _)
theorem qb_isEnd {D : zD} {T : zT} (hT : hTab T) (hO : vOK T) {N : Nat} {h : zH} {Q : zR → Prop}  (hv0 : zHv h)
    (k0 : ∀ (v5 : Int), Q (h, some (0, v5))) :
    vP D T N 250 0 h [some (2, 121)] [] Q := by
  refine v_load (v := (2, 121)) (hz_X12_isEnd hT _ _ rfl) rfl rfl ?_
  refine v_push (101) (hz_X12_isEnd hT _ _ rfl) rfl ?_
  refine v_push (110) (hz_X12_isEnd hT _ _ rfl) rfl ?_
  refine v_push (100) (hz_X12_isEnd hT _ _ rfl) rfl ?_
  refine v_push (0) (hz_X12_isEnd hT _ _ rfl) rfl ?_
  refine v_push (0) (hz_X12_isEnd hT _ _ rfl) rfl ?_
  refine v_push (0) (hz_X12_isEnd hT _ _ rfl) rfl ?_
  refine v_call (w := 8) [some (0, 101), some (0, 110), some (0, 100), some (0, 0), some (0, 0), some (0, 0), none, none] hO (hz_X12_isEnd hT _ _ rfl) rfl rfl ?_
  refine v_load (v := (0, 101)) (hi_X12_spelled_0 hT) rfl rfl ?_
  refine v_i2l (hi_X12_spelled_1 hT) ?_
  refine v_push (96) (hi_X12_spelled_2 hT) rfl ?_
  refine v_bin64 (w := (101 - 96)) (hi_X12_spelled_5 hT) (vz_subL (by omega) (by omega)) ?_
  refine v_push (32) (hi_X12_spelled_6 hT) rfl ?_
  refine v_bin64 (w := ((101 - 96) * 32)) (hi_X12_spelled_9 hT) (vz_mulL (by omega) (by omega)) ?_
  refine v_load (v := (0, 110)) (hi_X12_spelled_10 hT) rfl rfl ?_
  refine v_i2l (hi_X12_spelled_11 hT) ?_
  refine v_bin64 (w := (((101 - 96) * 32) + 110)) (hi_X12_spelled_12 hT) (vz_addL (by omega) (by omega)) ?_
  refine v_push (96) (hi_X12_spelled_13 hT) rfl ?_
  refine v_bin64 (w := ((((101 - 96) * 32) + 110) - 96)) (hi_X12_spelled_16 hT) (vz_subL (by omega) (by omega)) ?_
  refine v_store2 [some (0, 101), some (0, 110), some (0, 100), some (0, 0), some (0, 0), some (0, 0), some (1, ((((101 - 96) * 32) + 110) - 96)), none] (hi_X12_spelled_17 hT) (Nat.le_of_ble_eq_true rfl) rfl ?_
  refine v_load (v := (0, 100)) (hi_X12_spelled_19 hT) rfl rfl ?_
  refine v_if (hi_X12_spelled_20 hT) (fun _ => ?_) (fun hc1 => absurd (show 0 < (100 : Int) from (by decide)) hc1)
  refine v_load (v := (1, ((((101 - 96) * 32) + 110) - 96))) (hi_X12_spelled_23 hT) rfl rfl ?_
  refine v_push (32) (hi_X12_spelled_25 hT) rfl ?_
  refine v_bin64 (w := (((((101 - 96) * 32) + 110) - 96) * 32)) (hi_X12_spelled_28 hT) (vz_mulL (by omega) (by omega)) ?_
  refine v_load (v := (0, 100)) (hi_X12_spelled_29 hT) rfl rfl ?_
  refine v_i2l (hi_X12_spelled_30 hT) ?_
  refine v_bin64 (w := ((((((101 - 96) * 32) + 110) - 96) * 32) + 100)) (hi_X12_spelled_31 hT) (vz_addL (by omega) (by omega)) ?_
  refine v_push (96) (hi_X12_spelled_32 hT) rfl ?_
  refine v_bin64 (w := (((((((101 - 96) * 32) + 110) - 96) * 32) + 100) - 96)) (hi_X12_spelled_35 hT) (vz_subL (by omega) (by omega)) ?_
  refine v_goto (hi_X12_spelled_36 hT) ?_
  refine v_store2 [some (0, 101), some (0, 110), some (0, 100), some (0, 0), some (0, 0), some (0, 0), some (1, (((((((101 - 96) * 32) + 110) - 96) * 32) + 100) - 96)), none] (hi_X12_spelled_41 hT) (Nat.le_of_ble_eq_true rfl) rfl ?_
  refine v_load (v := (0, 0)) (hi_X12_spelled_43 hT) rfl rfl ?_
  refine v_if (hi_X12_spelled_44 hT) (fun hc2 => absurd (show 0 < (0 : Int) from hc2) (by decide)) (fun _ => ?_)
  refine v_load (v := (1, (((((((101 - 96) * 32) + 110) - 96) * 32) + 100) - 96))) (hi_X12_spelled_63 hT) rfl rfl ?_
  refine v_store2 [some (0, 101), some (0, 110), some (0, 100), some (0, 0), some (0, 0), some (0, 0), some (1, (((((((101 - 96) * 32) + 110) - 96) * 32) + 100) - 96)), none] (hi_X12_spelled_65 hT) (Nat.le_of_ble_eq_true rfl) rfl ?_
  refine v_load (v := (0, 0)) (hi_X12_spelled_67 hT) rfl rfl ?_
  refine v_if (hi_X12_spelled_69 hT) (fun hc3 => absurd (show 0 < (0 : Int) from hc3) (by decide)) (fun _ => ?_)
  refine v_load (v := (1, (((((((101 - 96) * 32) + 110) - 96) * 32) + 100) - 96))) (hi_X12_spelled_89 hT) rfl rfl ?_
  refine v_store2 [some (0, 101), some (0, 110), some (0, 100), some (0, 0), some (0, 0), some (0, 0), some (1, (((((((101 - 96) * 32) + 110) - 96) * 32) + 100) - 96)), none] (hi_X12_spelled_91 hT) (Nat.le_of_ble_eq_true rfl) rfl ?_
  refine v_load (v := (0, 0)) (hi_X12_spelled_93 hT) rfl rfl ?_
  refine v_if (hi_X12_spelled_95 hT) (fun hc4 => absurd (show 0 < (0 : Int) from hc4) (by decide)) (fun _ => ?_)
  refine v_load (v := (1, (((((((101 - 96) * 32) + 110) - 96) * 32) + 100) - 96))) (hi_X12_spelled_115 hT) rfl rfl ?_
  refine v_ret (hi_X12_spelled_117 hT) (Or.inr rfl) ?_
  show vP D T N 250 13 h [some (2, 121)] [(1, (((((((101 - 96) * 32) + 110) - 96) * 32) + 100) - 96)), (2, 121)] _
  refine v_call (w := 3) [some (2, 121), some (1, (((((((101 - 96) * 32) + 110) - 96) * 32) + 100) - 96)), none] hO (hz_X12_isEnd hT _ _ rfl) rfl rfl (rb_any_isWord hT hO (fun v5 => ?_))
  · show vP D T N 250 16 h [some (2, 121)] [(0, v5)] _
    refine v_ret (hz_X12_isEnd hT _ _ rfl) (Or.inl rfl) ?_
    exact k0 v5
theorem rb_any_isEnd {D : zD} {T : zT} (hT : hTab T) (hO : vOK T) {N : Nat} {h : zH} {Q : zR → Prop} (k : ∀ v : Int, Q (h, some (0, v))) : vP D T N 250 0 h [some (2, 121)] [] Q := vP_hv (fun hv => by
  refine qb_isEnd hT hO hv ?_ <;> intros <;> exact k _)
theorem qb_isSign {D : zD} {T : zT} (hT : hTab T) (hO : vOK T) {N : Nat} {h : zH} {Q : zR → Prop} (x : Int) (hv0 : zHv h)
    (k0 : ((h 121 14).2 = 3) → ((h 121 17).2 = x) → Q (h, some (0, 1)))
    (k1 : ((h 121 14).2 = 3) → ((h 121 17).2 ≠ x) → Q (h, some (0, 0)))
    (k2 : ((h 121 14).2 ≠ 3) → Q (h, some (0, 0))) :
    vP D T N 259 0 h [some (2, 121), some (0, x)] [] Q := by
  refine v_load (v := (2, 121)) (hz_X12_isSign hT _ _ rfl) rfl rfl ?_
  refine v_getI (t := 0) (r := 121) (hz_X12_isSign hT _ _ rfl) rfl rfl rfl ?_
  refine v_push (3) (hz_X12_isSign hT _ _ rfl) rfl ?_
  refine v_ic (hz_X12_isSign hT _ _ rfl) (fun hc1 => ?_) (fun hc1 => ?_)
  · have hc1 : (h 121 14).2 = 3 := hc1
    refine v_load (v := (2, 121)) (hz_X12_isSign hT _ _ rfl) rfl rfl ?_
    refine v_getI (t := 0) (r := 121) (hz_X12_isSign hT _ _ rfl) rfl rfl rfl ?_
    refine v_load (v := (0, x)) (hz_X12_isSign hT _ _ rfl) rfl rfl ?_
    refine v_ic (hz_X12_isSign hT _ _ rfl) (fun hc2 => ?_) (fun hc2 => ?_)
    · have hc2 : (h 121 17).2 = x := hc2
      refine v_push (1) (hz_X12_isSign hT _ _ rfl) rfl ?_
      refine v_goto (hz_X12_isSign hT _ _ rfl) ?_
      refine v_ret (hi_X12_isSign_21 hT) (Or.inl rfl) ?_
      exact k0 hc1 hc2
    · have hc2 : (h 121 17).2 ≠ x := hc2
      refine v_push (0) (hi_X12_isSign_20 hT) rfl ?_
      refine v_ret (hi_X12_isSign_21 hT) (Or.inl rfl) ?_
      exact k1 hc1 hc2
  · have hc1 : (h 121 14).2 ≠ 3 := hc1
    refine v_push (0) (hi_X12_isSign_20 hT) rfl ?_
    refine v_ret (hi_X12_isSign_21 hT) (Or.inl rfl) ?_
    exact k2 hc1
theorem rb_any_isSign {D : zD} {T : zT} (hT : hTab T) (hO : vOK T) {N : Nat} {h : zH} {Q : zR → Prop} {x : Int} (k : ∀ v : Int, Q (h, some (0, v))) : vP D T N 259 0 h [some (2, 121), some (0, x)] [] Q := vP_hv (fun hv => by
  refine qb_isSign hT hO x hv ?_ ?_ ?_ <;> intros <;> exact k _)
theorem qx_isKept {D : zD} {T : zT} (hT : hTab T) (hO : vOK T) {N : Nat} {h : zH} {Q : zR → Prop} {B : Nat → Int} {n m i : Nat} {τ : PT} (hX : rX B n m τ i h)
    (k0 : ((bW τ 0 i) = 0) → ((bW τ 1 i) = 0) → ((bW τ 2 i) = 0) → ((bW τ 3 i) = 0) → ((bW τ 4 i) = 0) → ((bW τ 5 i) = 0) → ((bW τ 6 i) = 0) → ((bW τ 7 i) = 0) → ((swd τ i) < 0) → ((twd τ i) < 0) → ((bW τ 20 i) = 0) → Q (h, some (0, 0)))
    (k1 : ((bW τ 0 i) = 0) → ((bW τ 1 i) = 0) → ((bW τ 2 i) = 0) → ((bW τ 3 i) = 0) → ((bW τ 4 i) = 0) → ((bW τ 5 i) = 0) → ((bW τ 6 i) = 0) → ((bW τ 7 i) = 0) → ((swd τ i) < 0) → ((twd τ i) < 0) → ((bW τ 20 i) ≠ 0) → Q (h, some (0, 1)))
    (k2 : ((bW τ 0 i) = 0) → ((bW τ 1 i) = 0) → ((bW τ 2 i) = 0) → ((bW τ 3 i) = 0) → ((bW τ 4 i) = 0) → ((bW τ 5 i) = 0) → ((bW τ 6 i) = 0) → ((bW τ 7 i) = 0) → ((swd τ i) < 0) → (0 ≤ (twd τ i)) → Q (h, some (0, 1)))
    (k3 : ((bW τ 0 i) = 0) → ((bW τ 1 i) = 0) → ((bW τ 2 i) = 0) → ((bW τ 3 i) = 0) → ((bW τ 4 i) = 0) → ((bW τ 5 i) = 0) → ((bW τ 6 i) = 0) → ((bW τ 7 i) = 0) → (0 ≤ (swd τ i)) → Q (h, some (0, 1)))
    (k4 : ((bW τ 0 i) = 0) → ((bW τ 1 i) = 0) → ((bW τ 2 i) = 0) → ((bW τ 3 i) = 0) → ((bW τ 4 i) = 0) → ((bW τ 5 i) = 0) → ((bW τ 6 i) = 0) → ((bW τ 7 i) ≠ 0) → Q (h, some (0, 1)))
    (k5 : ((bW τ 0 i) = 0) → ((bW τ 1 i) = 0) → ((bW τ 2 i) = 0) → ((bW τ 3 i) = 0) → ((bW τ 4 i) = 0) → ((bW τ 5 i) = 0) → ((bW τ 6 i) ≠ 0) → Q (h, some (0, 1)))
    (k6 : ((bW τ 0 i) = 0) → ((bW τ 1 i) = 0) → ((bW τ 2 i) = 0) → ((bW τ 3 i) = 0) → ((bW τ 4 i) = 0) → ((bW τ 5 i) ≠ 0) → Q (h, some (0, 1)))
    (k7 : ((bW τ 0 i) = 0) → ((bW τ 1 i) = 0) → ((bW τ 2 i) = 0) → ((bW τ 3 i) = 0) → ((bW τ 4 i) ≠ 0) → Q (h, some (0, 1)))
    (k8 : ((bW τ 0 i) = 0) → ((bW τ 1 i) = 0) → ((bW τ 2 i) = 0) → ((bW τ 3 i) ≠ 0) → Q (h, some (0, 1)))
    (k9 : ((bW τ 0 i) = 0) → ((bW τ 1 i) = 0) → ((bW τ 2 i) ≠ 0) → Q (h, some (0, 1)))
    (k10 : ((bW τ 0 i) = 0) → ((bW τ 1 i) ≠ 0) → Q (h, some (0, 1)))
    (k11 : ((bW τ 0 i) ≠ 0) → Q (h, some (0, 1))) :
    vP D T N 253 0 h [some (2, 121)] [] Q := by
  refine v_load (v := (2, 121)) (hz_X12_isKept hT _ _ rfl) rfl rfl ?_
  refine v_call (w := 1) [some (2, 121)] hO (hz_X12_isKept hT _ _ rfl) rfl rfl (rx_isWide hT hO hX ?_)
  · show vP D T N 253 4 h [some (2, 121)] [(0, (bW τ 0 i))] _
    refine v_if (hz_X12_isKept hT _ _ rfl) (fun hc1 => ?_) (fun hc1 => ?_)
    · have hc1 : (bW τ 0 i) = 0 := hc1
      refine v_load (v := (2, 121)) (hz_X12_isKept hT _ _ rfl) rfl rfl ?_
      refine v_call (w := 1) [some (2, 121)] hO (hz_X12_isKept hT _ _ rfl) rfl rfl (rx_isRow hT hO hX ?_)
      · show vP D T N 253 11 h [some (2, 121)] [(0, (bW τ 1 i))] _
        refine v_if (hz_X12_isKept hT _ _ rfl) (fun hc2 => ?_) (fun hc2 => ?_)
        · have hc2 : (bW τ 1 i) = 0 := hc2
          refine v_load (v := (2, 121)) (hz_X12_isKept hT _ _ rfl) rfl rfl ?_
          refine v_call (w := 1) [some (2, 121)] hO (hz_X12_isKept hT _ _ rfl) rfl rfl (rx_isRise hT hO hX ?_)
          · show vP D T N 253 18 h [some (2, 121)] [(0, (bW τ 2 i))] _
            refine v_if (hz_X12_isKept hT _ _ rfl) (fun hc3 => ?_) (fun hc3 => ?_)
            · have hc3 : (bW τ 2 i) = 0 := hc3
              refine v_load (v := (2, 121)) (hz_X12_isKept hT _ _ rfl) rfl rfl ?_
              refine v_call (w := 1) [some (2, 121)] hO (hz_X12_isKept hT _ _ rfl) rfl rfl (rx_isBy hT hO hX ?_)
              · show vP D T N 253 25 h [some (2, 121)] [(0, (bW τ 3 i))] _
                refine v_if (hz_X12_isKept hT _ _ rfl) (fun hc4 => ?_) (fun hc4 => ?_)
                · have hc4 : (bW τ 3 i) = 0 := hc4
                  refine v_load (v := (2, 121)) (hz_X12_isKept hT _ _ rfl) rfl rfl ?_
                  refine v_call (w := 1) [some (2, 121)] hO (hz_X12_isKept hT _ _ rfl) rfl rfl (rx_isCopies hT hO hX ?_)
                  · show vP D T N 253 32 h [some (2, 121)] [(0, (bW τ 4 i))] _
                    refine v_if (hz_X12_isKept hT _ _ rfl) (fun hc5 => ?_) (fun hc5 => ?_)
                    · have hc5 : (bW τ 4 i) = 0 := hc5
                      refine v_load (v := (2, 121)) (hz_X12_isKept hT _ _ rfl) rfl rfl ?_
                      refine v_call (w := 1) [some (2, 121)] hO (hz_X12_isKept hT _ _ rfl) rfl rfl (rx_isCompany hT hO hX ?_)
                      · show vP D T N 253 39 h [some (2, 121)] [(0, (bW τ 5 i))] _
                        refine v_if (hz_X12_isKept hT _ _ rfl) (fun hc6 => ?_) (fun hc6 => ?_)
                        · have hc6 : (bW τ 5 i) = 0 := hc6
                          refine v_load (v := (2, 121)) (hz_X12_isKept hT _ _ rfl) rfl rfl ?_
                          refine v_call (w := 1) [some (2, 121)] hO (hz_X12_isKept hT _ _ rfl) rfl rfl (rx_isAtWord hT hO hX ?_)
                          · show vP D T N 253 46 h [some (2, 121)] [(0, (bW τ 6 i))] _
                            refine v_if (hz_X12_isKept hT _ _ rfl) (fun hc7 => ?_) (fun hc7 => ?_)
                            · have hc7 : (bW τ 6 i) = 0 := hc7
                              refine v_load (v := (2, 121)) (hz_X12_isKept hT _ _ rfl) rfl rfl ?_
                              refine v_call (w := 1) [some (2, 121)] hO (hz_X12_isKept hT _ _ rfl) rfl rfl (rx_isTo hT hO hX ?_)
                              · show vP D T N 253 53 h [some (2, 121)] [(0, (bW τ 7 i))] _
                                refine v_if (hz_X12_isKept hT _ _ rfl) (fun hc8 => ?_) (fun hc8 => ?_)
                                · have hc8 : (bW τ 7 i) = 0 := hc8
                                  refine v_load (v := (2, 121)) (hz_X12_isKept hT _ _ rfl) rfl rfl ?_
                                  refine v_call (w := 1) [some (2, 121)] hO (hz_X12_isKept hT _ _ rfl) rfl rfl (rx_stepWord hT hO hX ?_)
                                  · show vP D T N 253 62 h [some (2, 121)] [(0, (swd τ i))] _
                                    refine v_if (hz_X12_isKept hT _ _ rfl) (fun hc9 => ?_) (fun hc9 => ?_)
                                    · have hc9 : (swd τ i) < 0 := hc9
                                      refine v_load (v := (2, 121)) (hz_X12_isKept hT _ _ rfl) rfl rfl ?_
                                      refine v_call (w := 1) [some (2, 121)] hO (hz_X12_isKept hT _ _ rfl) rfl rfl (rx_testWord hT hO hX ?_)
                                      · show vP D T N 253 69 h [some (2, 121)] [(0, (twd τ i))] _
                                        refine v_if (hz_X12_isKept hT _ _ rfl) (fun hc10 => ?_) (fun hc10 => ?_)
                                        · have hc10 : (twd τ i) < 0 := hc10
                                          refine v_load (v := (2, 121)) (hz_X12_isKept hT _ _ rfl) rfl rfl ?_
                                          refine v_call (w := 1) [some (2, 121)] hO (hz_X12_isKept hT _ _ rfl) rfl rfl (rx_isEnd hT hO hX ?_)
                                          · show vP D T N 253 76 h [some (2, 121)] [(0, (bW τ 20 i))] _
                                            refine v_if (hz_X12_isKept hT _ _ rfl) (fun hc11 => ?_) (fun hc11 => ?_)
                                            · have hc11 : (bW τ 20 i) = 0 := hc11
                                              refine v_push (0) (hz_X12_isKept hT _ _ rfl) rfl ?_
                                              refine v_ret (hi_X12_isKept_84 hT) (Or.inl rfl) ?_
                                              exact k0 hc1 hc2 hc3 hc4 hc5 hc6 hc7 hc8 hc9 hc10 hc11
                                            · have hc11 : (bW τ 20 i) ≠ 0 := hc11
                                              refine v_push (1) (hi_X12_isKept_79 hT) rfl ?_
                                              refine v_goto (hi_X12_isKept_80 hT) ?_
                                              refine v_ret (hi_X12_isKept_84 hT) (Or.inl rfl) ?_
                                              exact k1 hc1 hc2 hc3 hc4 hc5 hc6 hc7 hc8 hc9 hc10 hc11
                                        · have hc10 : 0 ≤ (twd τ i) := Int.not_lt.mp hc10
                                          refine v_push (1) (hi_X12_isKept_79 hT) rfl ?_
                                          refine v_goto (hi_X12_isKept_80 hT) ?_
                                          refine v_ret (hi_X12_isKept_84 hT) (Or.inl rfl) ?_
                                          exact k2 hc1 hc2 hc3 hc4 hc5 hc6 hc7 hc8 hc9 hc10
                                    · have hc9 : 0 ≤ (swd τ i) := Int.not_lt.mp hc9
                                      refine v_push (1) (hi_X12_isKept_79 hT) rfl ?_
                                      refine v_goto (hi_X12_isKept_80 hT) ?_
                                      refine v_ret (hi_X12_isKept_84 hT) (Or.inl rfl) ?_
                                      exact k3 hc1 hc2 hc3 hc4 hc5 hc6 hc7 hc8 hc9
                                · have hc8 : (bW τ 7 i) ≠ 0 := hc8
                                  refine v_push (1) (hi_X12_isKept_56 hT) rfl ?_
                                  refine v_ret (hi_X12_isKept_57 hT) (Or.inl rfl) ?_
                                  exact k4 hc1 hc2 hc3 hc4 hc5 hc6 hc7 hc8
                            · have hc7 : (bW τ 6 i) ≠ 0 := hc7
                              refine v_push (1) (hi_X12_isKept_56 hT) rfl ?_
                              refine v_ret (hi_X12_isKept_57 hT) (Or.inl rfl) ?_
                              exact k5 hc1 hc2 hc3 hc4 hc5 hc6 hc7
                        · have hc6 : (bW τ 5 i) ≠ 0 := hc6
                          refine v_push (1) (hi_X12_isKept_56 hT) rfl ?_
                          refine v_ret (hi_X12_isKept_57 hT) (Or.inl rfl) ?_
                          exact k6 hc1 hc2 hc3 hc4 hc5 hc6
                    · have hc5 : (bW τ 4 i) ≠ 0 := hc5
                      refine v_push (1) (hi_X12_isKept_56 hT) rfl ?_
                      refine v_ret (hi_X12_isKept_57 hT) (Or.inl rfl) ?_
                      exact k7 hc1 hc2 hc3 hc4 hc5
                · have hc4 : (bW τ 3 i) ≠ 0 := hc4
                  refine v_push (1) (hi_X12_isKept_56 hT) rfl ?_
                  refine v_ret (hi_X12_isKept_57 hT) (Or.inl rfl) ?_
                  exact k8 hc1 hc2 hc3 hc4
            · have hc3 : (bW τ 2 i) ≠ 0 := hc3
              refine v_push (1) (hi_X12_isKept_56 hT) rfl ?_
              refine v_ret (hi_X12_isKept_57 hT) (Or.inl rfl) ?_
              exact k9 hc1 hc2 hc3
        · have hc2 : (bW τ 1 i) ≠ 0 := hc2
          refine v_push (1) (hi_X12_isKept_56 hT) rfl ?_
          refine v_ret (hi_X12_isKept_57 hT) (Or.inl rfl) ?_
          exact k10 hc1 hc2
    · have hc1 : (bW τ 0 i) ≠ 0 := hc1
      refine v_push (1) (hi_X12_isKept_56 hT) rfl ?_
      refine v_ret (hi_X12_isKept_57 hT) (Or.inl rfl) ?_
      exact k11 hc1
theorem swd_ge {τ : PT} {i : Nat} : 0 ≤ swd τ i ↔ τ 0 i = 1 ∧ ((8 ≤ τ 3 i ∧ τ 3 i ≤ 15) ∨ τ 3 i = 19 ∨ τ 3 i = 21) := by
  unfold swd
  simp only [bW_y]
  omega
theorem twd_ge {τ : PT} {i : Nat} : 0 ≤ twd τ i ↔ τ 0 i = 1 ∧ (16 ≤ τ 3 i ∧ τ 3 i ≤ 18) := by
  unfold twd
  simp only [bW_y]
  omega
def bKp (τ : PT) (i : Nat) : Int := if τ 0 i = 1 ∧ τ 3 i ≠ -1 then 1 else 0
theorem RI_bd {B : Nat → Int} {s e : Nat} {v : Int} (h : RI B s e v) : -1 ≤ v ∧ v ≤ 21 := by
  rcases h with ⟨w, l, h1, h2, _⟩ | ⟨h1, _⟩
  · have h3 := (List.getElem?_eq_some_iff.mp h1).1
    have h4 := RWp_len.2.2
    omega
  · omega
theorem bKp_bd {B : Nat → Int} {n m i : Nat} {τ : PT} (g : Tks B n m τ) (hi : i ≤ m) : τ 0 i = 1 → -1 ≤ τ 3 i ∧ τ 3 i ≤ 21 := fun h => by
  obtain ⟨_, _, _, _, _, _, _, _, hr, _⟩ := tk_w g hi h
  exact RI_bd hr
theorem bW_0 {τ : PT} {w : Int} {i : Nat} : bW τ w i = 0 ↔ ¬ (τ 0 i = 1 ∧ τ 3 i = w) := by
  unfold bW
  by_cases c : τ 0 i = 1 ∧ τ 3 i = w
  · rw [if_pos c]; exact ⟨fun f => absurd f (by decide), fun f => absurd c f⟩
  · rw [if_neg c]; exact ⟨fun _ => c, fun _ => rfl⟩
theorem swd_lt {τ : PT} {i : Nat} : swd τ i < 0 ↔ ¬ (τ 0 i = 1 ∧ ((8 ≤ τ 3 i ∧ τ 3 i ≤ 15) ∨ τ 3 i = 19 ∨ τ 3 i = 21)) := by
  have := swd_ge (τ := τ) (i := i)
  omega
theorem twd_lt {τ : PT} {i : Nat} : twd τ i < 0 ↔ ¬ (τ 0 i = 1 ∧ (16 ≤ τ 3 i ∧ τ 3 i ≤ 18)) := by
  have := twd_ge (τ := τ) (i := i)
  omega
theorem rx_isKept {D : zD} {T : zT} (hT : hTab T) (hO : vOK T) {N : Nat} {h : zH} {Q : zR → Prop} {B : Nat → Int} {n m i : Nat} {τ : PT} (hX : rX B n m τ i h) (k : Q (h, some (0, bKp τ i))) : vP D T N 253 0 h [some (2, 121)] [] Q := by
  have hb := bKp_bd hX.2.2 hX.2.1
  unfold bKp at k
  refine qx_isKept hT hO hX ?_ ?_ ?_ ?_ ?_ ?_ ?_ ?_ ?_ ?_ ?_ ?_ <;> intros <;> simp only [ne_eq, bW_0, swd_ge, twd_ge, swd_lt, twd_lt, Decidable.not_not] at *
  all_goals first
    | (rw [if_pos (by omega)] at k; exact k)
    | (rw [if_neg (by omega)] at k; exact k)
    | (exfalso; omega)
theorem qx_isNameR {D : zD} {T : zT} (hT : hTab T) (hO : vOK T) {N : Nat} {h : zH} {Q : zR → Prop} {B : Nat → Int} {n m i : Nat} {τ : PT} (hv0 : zHv h) (hX : rX B n m τ i h)
    (k0 : ((τ 0 i) = 1) → (8 < (τ 2 i - τ 1 i)) → Q (h, some (0, 0)))
    (k1 : ((τ 0 i) = 1) → ((τ 2 i - τ 1 i) ≤ 8) → ((bKp τ i) = 0) → Q (h, some (0, 1)))
    (k2 : ((τ 0 i) = 1) → ((τ 2 i - τ 1 i) ≤ 8) → ((bKp τ i) ≠ 0) → Q (h, some (0, 0)))
    (k3 : ((τ 0 i) ≠ 1) → Q (h, some (0, 0))) :
    vP D T N 255 0 h [some (2, 121)] [] Q := by
  refine v_load (v := (2, 121)) (hz_X12_isName hT _ _ rfl) rfl rfl ?_
  refine v_getf (v := (0, (τ 0 i))) (r := 121) (hz_X12_isName hT _ _ rfl) rfl rfl (fun _ => hX.tk) ?_
  refine v_push (1) (hz_X12_isName hT _ _ rfl) rfl ?_
  refine v_ic (hz_X12_isName hT _ _ rfl) (fun hc1 => ?_) (fun hc1 => ?_)
  · have hc1 : (τ 0 i) = 1 := hc1
    refine v_load (v := (2, 121)) (hz_X12_isName hT _ _ rfl) rfl rfl ?_
    refine v_getf (v := (0, (τ 2 i - τ 1 i))) (r := 121) (hz_X12_isName hT _ _ rfl) rfl rfl (fun _ => (hX.ln hc1)) ?_
    refine v_push (8) (hz_X12_isName hT _ _ rfl) rfl ?_
    refine v_ic (hz_X12_isName hT _ _ rfl) (fun hc2 => ?_) (fun hc2 => ?_)
    · have hc2 : 8 < (τ 2 i - τ 1 i) := hc2
      refine v_push (0) (hi_X12_isName_28 hT) rfl ?_
      refine v_ret (hi_X12_isName_29 hT) (Or.inl rfl) ?_
      exact k0 hc1 hc2
    · have hc2 : (τ 2 i - τ 1 i) ≤ 8 := Int.not_lt.mp hc2
      refine v_load (v := (2, 121)) (hz_X12_isName hT _ _ rfl) rfl rfl ?_
      refine v_call (w := 1) [some (2, 121)] hO (hz_X12_isName hT _ _ rfl) rfl rfl (rx_isKept hT hO hX ?_)
      · show vP D T N 255 21 h [some (2, 121)] [(0, (bKp τ i))] _
        refine v_if (hz_X12_isName hT _ _ rfl) (fun hc3 => ?_) (fun hc3 => ?_)
        · have hc3 : (bKp τ i) = 0 := hc3
          refine v_push (1) (hz_X12_isName hT _ _ rfl) rfl ?_
          refine v_goto (hz_X12_isName hT _ _ rfl) ?_
          refine v_ret (hi_X12_isName_29 hT) (Or.inl rfl) ?_
          exact k1 hc1 hc2 hc3
        · have hc3 : (bKp τ i) ≠ 0 := hc3
          refine v_push (0) (hi_X12_isName_28 hT) rfl ?_
          refine v_ret (hi_X12_isName_29 hT) (Or.inl rfl) ?_
          exact k2 hc1 hc2 hc3
  · have hc1 : (τ 0 i) ≠ 1 := hc1
    refine v_push (0) (hi_X12_isName_28 hT) rfl ?_
    refine v_ret (hi_X12_isName_29 hT) (Or.inl rfl) ?_
    exact k3 hc1
theorem rx_isName {D : zD} {T : zT} (hT : hTab T) (hO : vOK T) {N : Nat} {h : zH} {Q : zR → Prop} {B : Nat → Int} {n m i : Nat} {τ : PT} (hX : rX B n m τ i h) (k : Q (h, some (0, bN τ i))) : vP D T N 255 0 h [some (2, 121)] [] Q := by
  unfold bN at k
  refine vP_hv (fun hv => ?_)
  refine qx_isNameR hT hO hv hX ?_ ?_ ?_ ?_ <;> intros <;> unfold bKp at *
  all_goals first
    | (rw [if_pos (by omega)] at k; exact k)
    | (rw [if_neg (by omega)] at k; exact k)
    | (exfalso; omega)
theorem qx_gr {D : zD} {T : zT} (hT : hTab T) (hO : vOK T) {N : Nat} {h : zH} {Q : zR → Prop} (x : Int)
    (k0 : (x = 112) → Q (h, some (0, 0)))
    (k1 : (x ≠ 112) → (x = 114) → Q (h, some (0, 1)))
    (k2 : (x ≠ 112) → (x ≠ 114) → (x = 104) → Q (h, some (0, 2)))
    (k3 : (x ≠ 112) → (x ≠ 114) → (x ≠ 104) → (x = 119) → Q (h, some (0, 3)))
    (k4 : (x ≠ 112) → (x ≠ 114) → (x ≠ 104) → (x ≠ 119) → (x = 102) → Q (h, some (0, 4)))
    (k5 : (x ≠ 112) → (x ≠ 114) → (x ≠ 104) → (x ≠ 119) → (x ≠ 102) → Q (h, some (0, -1))) :
    vP D T N 234 0 h [some (0, x)] [] Q := by
  refine v_load (v := (0, x)) (hz_X12_groundOf hT _ _ rfl) rfl rfl ?_
  refine v_push (112) (hz_X12_groundOf hT _ _ rfl) rfl ?_
  refine v_ic (hz_X12_groundOf hT _ _ rfl) (fun hc1 => ?_) (fun hc1 => ?_)
  · have hc1 : x = 112 := hc1
    refine v_push (0) (hz_X12_groundOf hT _ _ rfl) rfl ?_
    refine v_goto (hz_X12_groundOf hT _ _ rfl) ?_
    refine v_ret (hi_X12_groundOf_51 hT) (Or.inl rfl) ?_
    exact k0 hc1
  · have hc1 : x ≠ 112 := hc1
    refine v_load (v := (0, x)) (hz_X12_groundOf hT _ _ rfl) rfl rfl ?_
    refine v_push (114) (hz_X12_groundOf hT _ _ rfl) rfl ?_
    refine v_ic (hz_X12_groundOf hT _ _ rfl) (fun hc2 => ?_) (fun hc2 => ?_)
    · have hc2 : x = 114 := hc2
      refine v_push (1) (hz_X12_groundOf hT _ _ rfl) rfl ?_
      refine v_goto (hz_X12_groundOf hT _ _ rfl) ?_
      refine v_ret (hi_X12_groundOf_51 hT) (Or.inl rfl) ?_
      exact k1 hc1 hc2
    · have hc2 : x ≠ 114 := hc2
      refine v_load (v := (0, x)) (hz_X12_groundOf hT _ _ rfl) rfl rfl ?_
      refine v_push (104) (hz_X12_groundOf hT _ _ rfl) rfl ?_
      refine v_ic (hz_X12_groundOf hT _ _ rfl) (fun hc3 => ?_) (fun hc3 => ?_)
      · have hc3 : x = 104 := hc3
        refine v_push (2) (hz_X12_groundOf hT _ _ rfl) rfl ?_
        refine v_goto (hz_X12_groundOf hT _ _ rfl) ?_
        refine v_ret (hi_X12_groundOf_51 hT) (Or.inl rfl) ?_
        exact k2 hc1 hc2 hc3
      · have hc3 : x ≠ 104 := hc3
        refine v_load (v := (0, x)) (hz_X12_groundOf hT _ _ rfl) rfl rfl ?_
        refine v_push (119) (hz_X12_groundOf hT _ _ rfl) rfl ?_
        refine v_ic (hz_X12_groundOf hT _ _ rfl) (fun hc4 => ?_) (fun hc4 => ?_)
        · have hc4 : x = 119 := hc4
          refine v_push (3) (hz_X12_groundOf hT _ _ rfl) rfl ?_
          refine v_goto (hz_X12_groundOf hT _ _ rfl) ?_
          refine v_ret (hi_X12_groundOf_51 hT) (Or.inl rfl) ?_
          exact k3 hc1 hc2 hc3 hc4
        · have hc4 : x ≠ 119 := hc4
          refine v_load (v := (0, x)) (hz_X12_groundOf hT _ _ rfl) rfl rfl ?_
          refine v_push (102) (hz_X12_groundOf hT _ _ rfl) rfl ?_
          refine v_ic (hz_X12_groundOf hT _ _ rfl) (fun hc5 => ?_) (fun hc5 => ?_)
          · have hc5 : x = 102 := hc5
            refine v_push (4) (hz_X12_groundOf hT _ _ rfl) rfl ?_
            refine v_goto (hz_X12_groundOf hT _ _ rfl) ?_
            refine v_ret (hi_X12_groundOf_51 hT) (Or.inl rfl) ?_
            exact k4 hc1 hc2 hc3 hc4 hc5
          · have hc5 : x ≠ 102 := hc5
            refine v_push (-1) (hz_X12_groundOf hT _ _ rfl) rfl ?_
            refine v_ret (hi_X12_groundOf_51 hT) (Or.inl rfl) ?_
            exact k5 hc1 hc2 hc3 hc4 hc5
theorem r_ground {D : zD} {T : zT} (hT : hTab T) (hO : vOK T) {N : Nat} {h : zH} {Q : zR → Prop} (x : Int) (k : Q (h, some (0, lt x))) : vP D T N 234 0 h [some (0, x)] [] Q := by
  unfold lt at k
  refine qx_gr hT hO x ?_ ?_ ?_ ?_ ?_ ?_ <;> intros
  all_goals first
    | (rw [show (if x = 112 then (0 : Int) else if x = 114 then 1 else if x = 104 then 2 else if x = 119 then 3 else if x = 102 then 4 else -1) = 0 from by omega] at k; exact k)
    | (rw [show (if x = 112 then (0 : Int) else if x = 114 then 1 else if x = 104 then 2 else if x = 119 then 3 else if x = 102 then 4 else -1) = 1 from by omega] at k; exact k)
    | (rw [show (if x = 112 then (0 : Int) else if x = 114 then 1 else if x = 104 then 2 else if x = 119 then 3 else if x = 102 then 4 else -1) = 2 from by omega] at k; exact k)
    | (rw [show (if x = 112 then (0 : Int) else if x = 114 then 1 else if x = 104 then 2 else if x = 119 then 3 else if x = 102 then 4 else -1) = 3 from by omega] at k; exact k)
    | (rw [show (if x = 112 then (0 : Int) else if x = 114 then 1 else if x = 104 then 2 else if x = 119 then 3 else if x = 102 then 4 else -1) = 4 from by omega] at k; exact k)
    | (rw [show (if x = 112 then (0 : Int) else if x = 114 then 1 else if x = 104 then 2 else if x = 119 then 3 else if x = 102 then 4 else -1) = -1 from by omega] at k; exact k)
/-! THE REFERENCE'S LAND THAT IS BEING READ (block 4) -/
def cc (w c : Int) : Int := w * (c / 8) + c % 8
theorem cc_eq {w x y : Int} (x1 : 0 ≤ x) (x2 : x < 8) : cc w (y * 8 + x) = w * y + x := by
  unfold cc
  rw [show (y * 8 + x) / 8 = y from by omega, show (y * 8 + x) % 8 = x from by omega]
def rZ (j : Nat) : Prop := j = 4 ∨ (101 ≤ j ∧ j < 245) ∨ (269 ≤ j ∧ j < 277)
def rL (P : PT) (h : zH) : Prop := (h 126 2200 = (0, P 0 0) ∧ h 126 2201 = (0, P 0 1) ∧ h 126 2202 = (0, P 0 2) ∧ h 126 2203 = (0, P 0 3) ∧ h 121 24 = (0, P 0 9)) ∧ (∀ x y : Int, 0 ≤ x → x < P 0 0 → 0 ≤ y → y < 6 → h 126 (2205 + (P 0 0 * y + x)).toNat = (0, P 1 (pCl x y)) ∧ h 126 (2253 + (P 0 0 * y + x)).toNat = (0, P 2 (pCl x y))) ∧ (∀ k : Nat, (k : Int) < P 0 3 → h 128 (24 + k) = (1, P 4 k) ∧ h 126 (2457 + k) = (0, cc (P 0 0) (P 5 k)) ∧ h 126 (2445 + k) = (0, cc (P 0 0) (P 6 k)) ∧ h 126 (2451 + k) = (0, cc (P 0 0) (P 7 k)) ∧ h 126 (2463 + k) = (0, P 8 k)) ∧ (∀ j, rZ j → h 126 (2200 + j) = (0, 0))
section RL
variable {P : PT} {h h' : zH}
theorem rL.w (g : rL P h) : h 126 2200 = (0, P 0 0) := g.1.1
theorem rL.ro (g : rL P h) : h 126 2201 = (0, P 0 1) := g.1.2.1
theorem rL.c (g : rL P h) : h 126 2202 = (0, P 0 2) := g.1.2.2.1
theorem rL.m (g : rL P h) : h 126 2203 = (0, P 0 3) := g.1.2.2.2.1
theorem rL.d (g : rL P h) : h 121 24 = (0, P 0 9) := g.1.2.2.2.2
theorem rL.eq (f : ∀ a b, a = 126 ∨ a = 128 ∨ (a = 121 ∧ b = 24) → h' a b = h a b) (g : rL P h) : rL P h' := by
  obtain ⟨⟨a0, a1, a2, a3, a4⟩, b1, b2, b3⟩ := g
  have f6 : ∀ b, h' 126 b = h 126 b := fun b => f 126 b (Or.inl rfl)
  have f8 : ∀ b, h' 128 b = h 128 b := fun b => f 128 b (Or.inr (Or.inl rfl))
  refine ⟨⟨(f6 _).trans a0, (f6 _).trans a1, (f6 _).trans a2, (f6 _).trans a3, (f 121 24 (Or.inr (Or.inr ⟨rfl, rfl⟩))).trans a4⟩, fun x y x1 x2 y1 y2 => ?_, fun k hk => ?_, fun j hj => (f6 _).trans (b3 j hj)⟩
  · rw [f6, f6]; exact b1 x y x1 x2 y1 y2
  · rw [f6, f6, f6, f6, f8]; exact b2 k hk
theorem rL.qf (g : rL P h) (f : qF h h') : rL P h' := g.eq (fun a b c => f a b (fun d => by omega))
/-- so many places the rises of a LAND take -/
theorem cell47 {w x y : Int} (w8 : w ≤ 8) (x1 : 0 ≤ x) (x2 : x < w) (y1 : 0 ≤ y) (y2 : y < 6) : 0 ≤ w * y ∧ w * y + x ≤ 47 := cellb (r := 6) ⟨by omega, w8⟩ ⟨by decide, by decide⟩ x1 (by omega) y1 (by omega)
theorem rL.rise {x y v : Int} (w8 : P 0 0 ≤ 8) (x1 : 0 ≤ x) (x2 : x < P 0 0) (y1 : 0 ≤ y) (y2 : y < 6) (g : rL P h) : rL (pset P 2 (pCl x y) v) (zset h 126 (2253 + (P 0 0 * y + x)).toNat (0, v)) := by
  obtain ⟨⟨a0, a1, a2, a3, a4⟩, b1, b2, b3⟩ := g
  have cb := cell47 w8 x1 x2 y1 y2
  have p0 : ∀ a k, a ≠ 2 → pset P 2 (pCl x y) v a k = P a k := fun a k ha => pset_ne (fun c => ha c.1)
  have z : ∀ b, (b < 2253 ∨ 2300 < b) → zset h 126 (2253 + (P 0 0 * y + x)).toNat (0, v) 126 b = h 126 b := fun b hb => zset_ne (fun c => by omega)
  have z8 : ∀ a b, a ≠ 126 → zset h 126 (2253 + (P 0 0 * y + x)).toNat (0, v) a b = h a b := fun a b ha => zset_ne (fun c => ha c.1)
  refine ⟨⟨(z _ (by decide)).trans a0, (z _ (by decide)).trans a1, (z _ (by decide)).trans a2, (z _ (by decide)).trans a3, (z8 _ _ (by decide)).trans a4⟩, fun x' y' x1' x2' y1' y2' => ?_, fun k hk => ?_, fun j hj => ?_⟩
  · have x2' : x' < P 0 0 := x2'
    have cb' := cell47 w8 x1' x2' y1' y2'
    obtain ⟨c1, c2⟩ := b1 x' y' x1' x2' y1' y2'
    refine ⟨?_, ?_⟩
    · show zset h 126 _ (0, v) 126 (2205 + (P 0 0 * y' + x')).toNat = (0, pset P 2 (pCl x y) v 1 (pCl x' y'))
      rw [z _ (by omega), p0 _ _ (by decide)]
      exact c1
    · show zset h 126 _ (0, v) 126 (2253 + (P 0 0 * y' + x')).toNat = (0, pset P 2 (pCl x y) v 2 (pCl x' y'))
      by_cases e : P 0 0 * y + x = P 0 0 * y' + x'
      · obtain ⟨e1, e2⟩ := cell_inj x1 x2 x1' x2' e
        rw [← e, ← e1, ← e2, zset_same, pset_same]
      · rw [zset_ne (fun c => e (by omega)), pset_ne (fun c => ?_)]
        · exact c2
        · have c3 := c.2
          unfold pCl at c3
          have e1 : y = y' := by omega
          have e2 : x = x' := by omega
          exact e (by rw [e1, e2])
  · have hk : (k : Int) < P 0 3 := hk
    obtain ⟨c1, c2, c3, c4, c5⟩ := b2 k hk
    refine ⟨(z8 _ _ (by decide)).trans ?_, (z _ (by omega)).trans ?_, (z _ (by omega)).trans ?_, (z _ (by omega)).trans ?_, (z _ (by omega)).trans ?_⟩
    · rw [p0 _ _ (by decide)]; exact c1
    · rw [p0 _ _ (by decide), p0 _ _ (by decide)]; exact c2
    · rw [p0 _ _ (by decide), p0 _ _ (by decide)]; exact c3
    · rw [p0 _ _ (by decide), p0 _ _ (by decide)]; exact c4
    · rw [p0 _ _ (by decide)]; exact c5
  · unfold rZ at hj
    rw [z _ (by omega)]
    exact b3 j hj
theorem rL.d9 {v : Int} (g : rL P h) : rL (pset P 0 9 v) (zset h 121 24 (0, v)) := by
  obtain ⟨⟨a0, a1, a2, a3, a4⟩, b1, b2, b3⟩ := g
  have z : ∀ a b, a ≠ 121 → zset h 121 24 (0, v) a b = h a b := fun a b ha => zset_ne (fun c => ha c.1)
  have q : ∀ a k, ¬ (a = 0 ∧ k = 9) → pset P 0 9 v a k = P a k := fun a k hk => pset_ne hk
  refine ⟨⟨?_, ?_, ?_, ?_, ?_⟩, fun x y x1 x2 y1 y2 => ?_, fun k hk => ?_, fun j hj => ?_⟩
  · rw [z _ _ (by decide), q _ _ (by decide)]; exact a0
  · rw [z _ _ (by decide), q _ _ (by decide)]; exact a1
  · rw [z _ _ (by decide), q _ _ (by decide)]; exact a2
  · rw [z _ _ (by decide), q _ _ (by decide)]; exact a3
  · rw [zset_same, pset_same]
  · rw [q 0 0 (by decide)] at x2 ⊢
    rw [z _ _ (by decide), z _ _ (by decide), q _ _ (by omega), q _ _ (by omega)]
    exact b1 x y x1 x2 y1 y2
  · rw [q 0 3 (by decide)] at hk
    rw [z _ _ (by decide), z _ _ (by decide), z _ _ (by decide), z _ _ (by decide), z _ _ (by decide), q 0 0 (by decide), q _ _ (by omega), q _ _ (by omega), q _ _ (by omega), q _ _ (by omega), q _ _ (by omega)]
    exact b2 k hk
  · rw [z _ _ (by decide)]; exact b3 j hj
theorem rL.f {k : Nat} {v : Int} (hk : k = 1 ∨ k = 2) (g : rL P h) : rL (pset P 0 k v) (zset h 126 (2200 + k) (0, v)) := by
  obtain ⟨⟨a0, a1, a2, a3, a4⟩, b1, b2, b3⟩ := g
  have z : ∀ a b, ¬ (a = 126 ∧ b = 2200 + k) → zset h 126 (2200 + k) (0, v) a b = h a b := fun a b ha => zset_ne ha
  have q : ∀ a j, ¬ (a = 0 ∧ j = k) → pset P 0 k v a j = P a j := fun a j hj => pset_ne hj
  refine ⟨⟨?_, ?_, ?_, ?_, ?_⟩, fun x y x1 x2 y1 y2 => ?_, fun j hj => ?_, fun j hj => ?_⟩
  · rw [z _ _ (by omega), q _ _ (by omega)]; exact a0
  · by_cases e : k = 1
    · subst e; rw [pset_same]; exact zset_same
    · rw [z _ _ (by omega), q _ _ (by omega)]; exact a1
  · by_cases e : k = 2
    · subst e; rw [pset_same]; exact zset_same
    · rw [z _ _ (by omega), q _ _ (by omega)]; exact a2
  · rw [z _ _ (by omega), q _ _ (by omega)]; exact a3
  · rw [z _ _ (by omega), q _ _ (by omega)]; exact a4
  · rw [q 0 0 (by omega)] at x2 ⊢
    have h0 := Int.mul_nonneg (show 0 ≤ P 0 0 by omega) y1
    rw [z _ _ (by omega), z _ _ (by omega), q _ _ (by omega), q _ _ (by omega)]
    exact b1 x y x1 x2 y1 y2
  · rw [q 0 3 (by omega)] at hj
    rw [z _ _ (by omega), z _ _ (by omega), z _ _ (by omega), z _ _ (by omega), z _ _ (by omega), q 0 0 (by omega), q _ _ (by omega), q _ _ (by omega), q _ _ (by omega), q _ _ (by omega), q _ _ (by omega)]
    exact b2 j hj
  · unfold rZ at hj
    rw [z _ _ (by omega)]; exact b3 j hj
theorem pset_29 {v : Int} : pset (pset P 0 9 1) 0 2 v = pset (pset P 0 2 v) 0 9 1 := by
  funext a b
  unfold pset
  by_cases c : a = 0 ∧ b = 2
  · rw [if_pos c, if_neg (fun d => by omega), if_pos c]
  · rw [if_neg c]
    by_cases d : a = 0 ∧ b = 9
    · rw [if_pos d, if_pos d]
    · rw [if_neg d, if_neg d, if_neg c]
theorem rL.c29 {v : Int} (g : rL (pset P 0 9 1) h) : rL (pset (pset P 0 2 v) 0 9 1) (zset h 126 2202 (0, v)) := by
  rw [← pset_29]
  exact g.f (k := 2) (Or.inr rfl)
def rW (nm : Int) (P : PT) (h : zH) : Prop := rL P h ∧ h 128 (24 + P 0 3).toNat = (1, nm)
theorem rW.qf {nm : Int} (g : rW nm P h) (f : qF h h') : rW nm P h' := ⟨g.1.qf f, (f 128 _ (fun c => by omega)).trans g.2⟩
theorem rL.wr {nm : Int} (m0 : 0 ≤ P 0 3) (g : rL P h) : rW nm P (zset h 128 (24 + P 0 3).toNat (1, nm)) := by
  refine ⟨?_, zset_same⟩
  obtain ⟨⟨a0, a1, a2, a3, a4⟩, b1, b2, b3⟩ := g
  have z : ∀ a b, a ≠ 128 → zset h 128 (24 + P 0 3).toNat (1, nm) a b = h a b := fun a b ha => zset_ne (fun c => ha c.1)
  refine ⟨⟨(z _ _ (by decide)).trans a0, (z _ _ (by decide)).trans a1, (z _ _ (by decide)).trans a2, (z _ _ (by decide)).trans a3, (z _ _ (by decide)).trans a4⟩, fun x y x1 x2 y1 y2 => ?_, fun k hk => ?_, fun j hj => (z _ _ (by decide)).trans (b3 j hj)⟩
  · rw [z _ _ (by decide), z _ _ (by decide)]; exact b1 x y x1 x2 y1 y2
  · rw [zset_ne (fun c => by omega), z _ _ (by decide), z _ _ (by decide), z _ _ (by decide), z _ _ (by decide)]; exact b2 k hk
theorem rW.add {nm x y x' y' b : Int} (m0 : 0 ≤ P 0 3 ∧ P 0 3 < 6) (w8 : P 0 0 ≤ 8) (x1 : 0 ≤ x) (x2 : x < P 0 0) (x1' : 0 ≤ x') (x2' : x' < P 0 0) (g : rW nm P h) : rL (pAdd P nm (y * 8 + x) (y' * 8 + x') b) (zset (zset (zset (zset (zset h 126 (2445 + P 0 3).toNat (0, P 0 0 * y + x)) 126 (2457 + P 0 3).toNat (0, P 0 0 * y + x)) 126 (2451 + P 0 3).toNat (0, P 0 0 * y' + x')) 126 (2463 + P 0 3).toNat (0, b)) 126 2203 (0, P 0 3 + 1)) := by
  obtain ⟨⟨⟨a0, a1, a2, a3, a4⟩, b1, b2, b3⟩, hw⟩ := g
  have z8 : ∀ a b', a ≠ 126 → zset (zset (zset (zset (zset h 126 (2445 + P 0 3).toNat (0, P 0 0 * y + x)) 126 (2457 + P 0 3).toNat (0, P 0 0 * y + x)) 126 (2451 + P 0 3).toNat (0, P 0 0 * y' + x')) 126 (2463 + P 0 3).toNat (0, b)) 126 2203 (0, P 0 3 + 1) a b' = h a b' := fun a b' ha => by
    rw [zset_ne (fun c => ha c.1), zset_ne (fun c => ha c.1), zset_ne (fun c => ha c.1), zset_ne (fun c => ha c.1), zset_ne (fun c => ha c.1)]
  have z : ∀ b', (b' < 2445 ∨ 2468 < b') → b' ≠ 2203 → zset (zset (zset (zset (zset h 126 (2445 + P 0 3).toNat (0, P 0 0 * y + x)) 126 (2457 + P 0 3).toNat (0, P 0 0 * y + x)) 126 (2451 + P 0 3).toNat (0, P 0 0 * y' + x')) 126 (2463 + P 0 3).toNat (0, b)) 126 2203 (0, P 0 3 + 1) 126 b' = h 126 b' := fun b' h1 h2 => by
    rw [zset_ne (fun c => h2 c.2), zset_ne (fun c => by omega), zset_ne (fun c => by omega), zset_ne (fun c => by omega), zset_ne (fun c => by omega)]
  refine ⟨⟨?_, ?_, ?_, ?_, ?_⟩, fun xx yy xx1 xx2 yy1 yy2 => ?_, fun k hk => ?_, fun j hj => ?_⟩
  · rw [z _ (by decide) (by decide), pAdd_0 (by decide) (by decide)]; exact a0
  · rw [z _ (by decide) (by decide), pAdd_0 (by decide) (by decide)]; exact a1
  · rw [z _ (by decide) (by decide), pAdd_0 (by decide) (by decide)]; exact a2
  · rw [zset_same, pAdd_3]
  · rw [z8 _ _ (by decide), pAdd_0 (by decide) (by decide)]; exact a4
  · rw [pAdd_0 (by decide) (by decide)] at xx2 ⊢
    have cb := cell47 w8 xx1 xx2 yy1 yy2
    rw [z _ (by omega) (by omega), z _ (by omega) (by omega), pAdd_0 (by decide) (by omega), pAdd_0 (by decide) (by omega)]
    exact b1 xx yy xx1 xx2 yy1 yy2
  · rw [pAdd_3] at hk
    rw [pAdd_0 (a := 0) (k := 0) (by decide) (by decide)]
    by_cases e : k = (P 0 3).toNat
    · obtain ⟨k4, k5, k6, k7, k8, k9⟩ := pAdd_k (P := P) (nm := nm) (hm := y * 8 + x) (gl := y' * 8 + x') (b := b)
      subst e
      rw [k4, k5, k6, k7, k8, cc_eq x1 (by omega), cc_eq x1' (by omega)]
      refine ⟨?_, ?_, ?_, ?_, ?_⟩
      · rw [z8 _ _ (by decide), show 24 + (P 0 3).toNat = (24 + P 0 3).toNat from by omega]; exact hw
      · rw [zset_ne (fun c => by omega), zset_ne (fun c => by omega), zset_ne (fun c => by omega), show 2457 + (P 0 3).toNat = (2457 + P 0 3).toNat from by omega, zset_same]
      · rw [zset_ne (fun c => by omega), zset_ne (fun c => by omega), zset_ne (fun c => by omega), zset_ne (fun c => by omega), show 2445 + (P 0 3).toNat = (2445 + P 0 3).toNat from by omega, zset_same]
      · rw [zset_ne (fun c => by omega), zset_ne (fun c => by omega), show 2451 + (P 0 3).toNat = (2451 + P 0 3).toNat from by omega, zset_same]
      · rw [zset_ne (fun c => by omega), show 2463 + (P 0 3).toNat = (2463 + P 0 3).toNat from by omega, zset_same]
    · rw [pAdd_n e (by decide), pAdd_n e (by decide), pAdd_n e (by decide), pAdd_n e (by decide), pAdd_n e (by decide), z8 _ _ (by decide)]
      obtain ⟨c1, c2, c3, c4, c5⟩ := b2 k (by omega)
      refine ⟨c1, ?_, ?_, ?_, ?_⟩
      · rw [zset_ne (fun c => by omega), zset_ne (fun c => by omega), zset_ne (fun c => by omega), zset_ne (fun c => by omega), zset_ne (fun c => by omega)]; exact c2
      · rw [zset_ne (fun c => by omega), zset_ne (fun c => by omega), zset_ne (fun c => by omega), zset_ne (fun c => by omega), zset_ne (fun c => by omega)]; exact c3
      · rw [zset_ne (fun c => by omega), zset_ne (fun c => by omega), zset_ne (fun c => by omega), zset_ne (fun c => by omega), zset_ne (fun c => by omega)]; exact c4
      · rw [zset_ne (fun c => by omega), zset_ne (fun c => by omega), zset_ne (fun c => by omega), zset_ne (fun c => by omega), zset_ne (fun c => by omega)]; exact c5
  · unfold rZ at hj
    rw [z _ (by omega) (by omega)]; exact b3 j hj
end RL
def rF (h0 h : zH) : Prop := ∀ a b, ¬ ((a = 121 ∧ ((12 ≤ b ∧ b ≤ 19) ∨ b = 24)) ∨ (a = 126 ∧ 2200 ≤ b) ∨ (a = 128 ∧ 24 ≤ b)) → h a b = h0 a b
theorem rF.rfl {h : zH} : rF h h := fun _ _ _ => Eq.refl _
theorem rF.t {h0 h h' : zH} (g : rF h0 h) (f : qF h h') : rF h0 h' := fun a b hn => (f a b (fun c => hn (by omega))).trans (g a b hn)
theorem rF.z {a b : Nat} {v : zV} {h0 h : zH} (ha : (a = 121 ∧ b = 24) ∨ (a = 126 ∧ 2200 ≤ b) ∨ (a = 128 ∧ 24 ≤ b)) (g : rF h0 h) : rF h0 (zset h a b v) := fun x y hn => (zset_ne (fun c => hn (by omega))).trans (g x y hn)
theorem rF.trans {h0 h h' : zH} (g : rF h0 h) (f : rF h h') : rF h0 h' := fun a b hn => (f a b hn).trans (g a b hn)
def rRd (B : Nat → Int) (n m : Nat) (τ : PT) (F : Er ⊕ (PT × Nat)) (h0 : zH) (x : zR) : Prop := x.2 = none ∧ ((∃ e, F = .inl e ∧ rE e x.1 ∧ rF h0 x.1) ∨ (∃ P j, F = .inr (P, j) ∧ rX B n m τ j x.1 ∧ rL P x.1 ∧ rF h0 x.1 ∧ lB P))
section RR
variable {B : Nat → Int} {n m : Nat} {τ : PT} {F : Er ⊕ (PT × Nat)} {h0 g : zH}
theorem rRd_n {e : Er} (hF : F = .inl e) (hc : rE e g) (hf : rF h0 g) : rRd B n m τ F h0 (g, none) := ⟨rfl, Or.inl ⟨e, hF, hc, hf⟩⟩
theorem rRd_y {P : PT} {j : Nat} (hF : F = .inr (P, j)) (hX : rX B n m τ j g) (hL : rL P g) (hf : rF h0 g) (hb : lB P) : rRd B n m τ F h0 (g, none) := ⟨rfl, Or.inr ⟨P, j, hF, hX, hL, hf, hb⟩⟩
theorem rRd_k {D : zD} {T : zT} {N mi pc : Nat} {l : List (Option zV)} {S : List zV} {Q : zR → Prop} (H : vP D T N mi pc g l S (rRd B n m τ F g)) (k1 : ∀ g' P j, rF g g' → F = .inr (P, j) → rX B n m τ j g' → rL P g' → lB P → Q (g', none)) (k2 : ∀ g' e, rF g g' → F = .inl e → rE e g' → Q (g', none)) : vP D T N mi pc g l S Q := vP_Q (fun x hx => by
  obtain ⟨g', v⟩ := x
  obtain ⟨h0, h1⟩ := hx
  have h0 : v = none := h0
  subst h0
  rcases h1 with ⟨e, h1, h3, h4⟩ | ⟨P, j, h1, h3, h4, h5, h6⟩
  · exact k2 g' e h4 h1 h3
  · exact k1 g' P j h5 h1 h3 h4 h6) H
end RR
theorem qx_wrong {D : zD} {T : zT} (hT : hTab T) (hO : vOK T) {N : Nat} {h : zH} {Q : zR → Prop} {B : Nat → Int} {n m i : Nat} {τ : PT} (hv0 : zHv h) (hX : rX B n m τ i h)
    (k0 : ((τ 0 i) = 4) → Q (zset (zset h 121 12 (0, 1)) 121 13 (0, (τ 1 i)), none))
    (k1 : ((τ 0 i) ≠ 4) → Q (zset (zset h 121 12 (0, 2)) 121 13 (0, (τ 1 i)), none)) :
    vP D T N 340 0 h [some (2, 121)] [] Q := by
  refine v_load (v := (2, 121)) (hz_X12_wrong hT _ _ rfl) rfl rfl ?_
  refine v_load (v := (2, 121)) (hz_X12_wrong hT _ _ rfl) rfl rfl ?_
  refine v_getf (v := (0, (τ 0 i))) (r := 121) (hz_X12_wrong hT _ _ rfl) rfl rfl (fun _ => hX.tk) ?_
  refine v_push (4) (hz_X12_wrong hT _ _ rfl) rfl ?_
  refine v_ic (hz_X12_wrong hT _ _ rfl) (fun hc1 => ?_) (fun hc1 => ?_)
  · have hc1 : (τ 0 i) = 4 := hc1
    refine v_push (1) (hz_X12_wrong hT _ _ rfl) rfl ?_
    refine v_goto (hz_X12_wrong hT _ _ rfl) ?_
    refine v_load (v := (2, 121)) (hi_X12_wrong_14 hT) rfl rfl ?_
    refine v_getf (v := (0, (τ 1 i))) (r := 121) (hi_X12_wrong_15 hT) rfl rfl (fun _ => hX.ps) ?_
    refine v_call (w := 3) [some (2, 121), some (0, 1), some (0, (τ 1 i))] hO (hi_X12_wrong_18 hT) rfl rfl ?_
    refine v_load (v := (2, 121)) (hi_X12_fail_0 hT) rfl rfl ?_
    refine v_getf (v := (0, 0)) (r := 121) (hi_X12_fail_1 hT) rfl rfl (fun _ => hX.b) ?_
    refine v_if (hi_X12_fail_4 hT) (fun hc2 => absurd (show 0 < (0 : Int) from hc2) (by decide)) (fun _ => ?_)
    refine v_load (v := (2, 121)) (hi_X12_fail_8 hT) rfl rfl ?_
    refine v_load (v := (0, 1)) (hi_X12_fail_9 hT) rfl rfl ?_
    refine v_putf (r := 121) hO (hi_X12_fail_10 hT) rfl (fun hf3 => ?_)
    refine v_load (v := (2, 121)) (hi_X12_fail_13 hT) rfl rfl ?_
    refine v_load (v := (0, (τ 1 i))) (hi_X12_fail_14 hT) rfl rfl ?_
    refine v_putf (r := 121) hO (hi_X12_fail_15 hT) rfl (fun hf4 => ?_)
    refine v_ret0 (hi_X12_fail_18 hT) ?_
    show vP D T N 340 21 (zset (zset h 121 12 (0, 1)) 121 13 (0, (τ 1 i))) [some (2, 121)] [] _
    refine v_ret0 (hi_X12_wrong_21 hT) ?_
    exact k0 hc1
  · have hc1 : (τ 0 i) ≠ 4 := hc1
    refine v_push (2) (hz_X12_wrong hT _ _ rfl) rfl ?_
    refine v_load (v := (2, 121)) (hi_X12_wrong_14 hT) rfl rfl ?_
    refine v_getf (v := (0, (τ 1 i))) (r := 121) (hi_X12_wrong_15 hT) rfl rfl (fun _ => hX.ps) ?_
    refine v_call (w := 3) [some (2, 121), some (0, 2), some (0, (τ 1 i))] hO (hi_X12_wrong_18 hT) rfl rfl ?_
    refine v_load (v := (2, 121)) (hi_X12_fail_0 hT) rfl rfl ?_
    refine v_getf (v := (0, 0)) (r := 121) (hi_X12_fail_1 hT) rfl rfl (fun _ => hX.b) ?_
    refine v_if (hi_X12_fail_4 hT) (fun hc5 => absurd (show 0 < (0 : Int) from hc5) (by decide)) (fun _ => ?_)
    refine v_load (v := (2, 121)) (hi_X12_fail_8 hT) rfl rfl ?_
    refine v_load (v := (0, 2)) (hi_X12_fail_9 hT) rfl rfl ?_
    refine v_putf (r := 121) hO (hi_X12_fail_10 hT) rfl (fun hf6 => ?_)
    refine v_load (v := (2, 121)) (hi_X12_fail_13 hT) rfl rfl ?_
    refine v_load (v := (0, (τ 1 i))) (hi_X12_fail_14 hT) rfl rfl ?_
    refine v_putf (r := 121) hO (hi_X12_fail_15 hT) rfl (fun hf7 => ?_)
    refine v_ret0 (hi_X12_fail_18 hT) ?_
    show vP D T N 340 21 (zset (zset h 121 12 (0, 2)) 121 13 (0, (τ 1 i))) [some (2, 121)] [] _
    refine v_ret0 (hi_X12_wrong_21 hT) ?_
    exact k1 hc1
theorem qx_fail {D : zD} {T : zT} (hT : hTab T) (hO : vOK T) {N : Nat} {h : zH} {Q : zR → Prop} {B : Nat → Int} {n m i : Nat} {τ : PT} (f p : Int) (hv0 : zHv h) (hX : rX B n m τ i h)
    (k0 : Q (zset (zset h 121 12 (0, f)) 121 13 (0, p), none)) :
    vP D T N 225 0 h [some (2, 121), some (0, f), some (0, p)] [] Q := by
  refine v_load (v := (2, 121)) (hi_X12_fail_0 hT) rfl rfl ?_
  refine v_getf (v := (0, 0)) (r := 121) (hi_X12_fail_1 hT) rfl rfl (fun _ => hX.b) ?_
  refine v_if (hi_X12_fail_4 hT) (fun hc1 => absurd (show 0 < (0 : Int) from hc1) (by decide)) (fun _ => ?_)
  refine v_load (v := (2, 121)) (hi_X12_fail_8 hT) rfl rfl ?_
  refine v_load (v := (0, f)) (hi_X12_fail_9 hT) rfl rfl ?_
  refine v_putf (r := 121) hO (hi_X12_fail_10 hT) rfl (fun hf2 => ?_)
  refine v_load (v := (2, 121)) (hi_X12_fail_13 hT) rfl rfl ?_
  refine v_load (v := (0, p)) (hi_X12_fail_14 hT) rfl rfl ?_
  refine v_putf (r := 121) hO (hi_X12_fail_15 hT) rfl (fun hf3 => ?_)
  refine v_ret0 (hi_X12_fail_18 hT) ?_
  exact k0 
/-! the reference's small steps -/
theorem rX.tx {B : Nat → Int} {n m i : Nat} {τ : PT} {h : zH} (g : rX B n m τ i h) : TXr B n h := g.1.1
section RU
variable {D : zD} {T : zT} {N : Nat} {h : zH} {Q : zR → Prop} {B : Nat → Int} {n m i : Nat} {τ : PT}
theorem rE_mk {f p : Int} (hf : 0 < f) : rE (f, p) (zset (zset h 121 12 (0, f)) 121 13 (0, p)) := rBl_mk hf
theorem qF_b {f p : Int} : qF h (zset (zset h 121 12 (0, f)) 121 13 (0, p)) := (qF.rfl.z (by decide) (by decide)).z (by decide) (by decide)
theorem rx_wrong (hT : hTab T) (hO : vOK T) (hX : rX B n m τ i h) (k : ∀ g, qF h g → rE (eF τ i 2) g → Q (g, none)) : vP D T N 340 0 h [some (2, 121)] [] Q := by
  refine vP_hv (fun hv => qx_wrong hT hO hv hX (fun c => k _ qF_b ?_) (fun c => k _ qF_b ?_))
  · unfold eF; rw [fk_4 c]; exact rE_mk (by decide)
  · unfold eF; rw [fk_n c]; exact rE_mk (by decide)
theorem rx_fail (hT : hTab T) (hO : vOK T) (f : Int) (hX : rX B n m τ i h) (h1 : τ 0 i = 1) (hf : 0 < f) (k : ∀ g, qF h g → rE (eF τ i f) g → Q (g, none)) : vP D T N 225 0 h [some (2, 121), some (0, f), some (0, τ 1 i)] [] Q := by
  refine vP_hv (fun hv => qx_fail hT hO f (τ 1 i) hv hX (k _ qF_b ?_))
  rw [eF_k h1]
  exact rE_mk hf
end RU
theorem pIx_bd {f : Nat → Int} {w : Int} : ∀ {n k : Nat}, pIx f w n k = -1 ∨ (k : Int) ≤ pIx f w n k
  | 0, _ => Or.inl rfl
  | n + 1, k => by
    show (if f k = w then (k : Int) else pIx f w n (k + 1)) = -1 ∨ (k : Int) ≤ (if f k = w then (k : Int) else pIx f w n (k + 1))
    by_cases c : f k = w
    · rw [if_pos c]; exact Or.inr (Int.le_refl _)
    · rw [if_neg c]
      rcases pIx_bd (f := f) (w := w) (n := n) (k := k + 1) with h | h
      · exact Or.inl h
      · exact Or.inr (by omega)
theorem pIx_n {f : Nat → Int} {w : Int} {n : Nat} (h : pIx f w n 0 < 0) : pIx f w n 0 = -1 := by
  rcases pIx_bd (f := f) (w := w) (n := n) (k := 0) with c | c <;> omega
theorem pIx_y {f : Nat → Int} {w : Int} {n : Nat} (h : 0 ≤ pIx f w n 0) : pIx f w n 0 ≠ -1 := by omega
theorem hq_addC {w y : Int} (h1 : 0 ≤ w ∧ w ≤ 8) (h2 : 0 ≤ y ∧ y ≤ 8) : (zf32 0 (Int32.ofInt 2205) (Int32.ofInt (w * y))).toInt = 2205 + w * y := by
  have := mulb h1 h2
  exact hq_add (by omega) (by omega)
theorem hq_addD {w y x : Int} (h1 : 0 ≤ w ∧ w ≤ 8) (h2 : 0 ≤ y ∧ y ≤ 8) (h3 : 0 ≤ x ∧ x ≤ 8) : (zf32 0 (Int32.ofInt (2205 + w * y)) (Int32.ofInt x)).toInt = 2205 + w * y + x := by
  have := mulb h1 h2
  exact hq_add (by omega) (by omega)
theorem rL.lett {P : PT} {h : zH} {x y v : Int} (w8 : P 0 0 ≤ 8) (x1 : 0 ≤ x) (x2 : x < P 0 0) (y1 : 0 ≤ y) (y2 : y < 6) (g : rL P h) : rL (pset P 1 (pCl x y) v) (zset h 126 (2205 + (P 0 0 * y + x)).toNat (0, v)) := by
  obtain ⟨⟨a0, a1, a2, a3, a4⟩, b1, b2, b3⟩ := g
  have cb := cell47 w8 x1 x2 y1 y2
  have p0 : ∀ a k, a ≠ 1 → pset P 1 (pCl x y) v a k = P a k := fun a k ha => pset_ne (fun c => ha c.1)
  have z : ∀ b, (b < 2205 ∨ 2252 < b) → zset h 126 (2205 + (P 0 0 * y + x)).toNat (0, v) 126 b = h 126 b := fun b hb => zset_ne (fun c => by omega)
  have z8 : ∀ a b, a ≠ 126 → zset h 126 (2205 + (P 0 0 * y + x)).toNat (0, v) a b = h a b := fun a b ha => zset_ne (fun c => ha c.1)
  refine ⟨⟨(z _ (by decide)).trans a0, (z _ (by decide)).trans a1, (z _ (by decide)).trans a2, (z _ (by decide)).trans a3, (z8 _ _ (by decide)).trans a4⟩, fun x' y' x1' x2' y1' y2' => ?_, fun k hk => ?_, fun j hj => ?_⟩
  · have x2' : x' < P 0 0 := x2'
    have cb' := cell47 w8 x1' x2' y1' y2'
    obtain ⟨c1, c2⟩ := b1 x' y' x1' x2' y1' y2'
    refine ⟨?_, ?_⟩
    · show zset h 126 _ (0, v) 126 (2205 + (P 0 0 * y' + x')).toNat = (0, pset P 1 (pCl x y) v 1 (pCl x' y'))
      by_cases e : P 0 0 * y + x = P 0 0 * y' + x'
      · obtain ⟨e1, e2⟩ := cell_inj x1 x2 x1' x2' e
        rw [← e, ← e1, ← e2, zset_same, pset_same]
      · rw [zset_ne (fun c => e (by omega)), pset_ne (fun c => ?_)]
        · exact c1
        · have c3 := c.2
          unfold pCl at c3
          have e1 : y = y' := by omega
          have e2 : x = x' := by omega
          exact e (by rw [e1, e2])
    · show zset h 126 _ (0, v) 126 (2253 + (P 0 0 * y' + x')).toNat = (0, pset P 1 (pCl x y) v 2 (pCl x' y'))
      rw [z _ (by omega), p0 _ _ (by decide)]
      exact c2
  · have hk : (k : Int) < P 0 3 := hk
    obtain ⟨c1, c2, c3, c4, c5⟩ := b2 k hk
    refine ⟨(z8 _ _ (by decide)).trans ?_, (z _ (by omega)).trans ?_, (z _ (by omega)).trans ?_, (z _ (by omega)).trans ?_, (z _ (by omega)).trans ?_⟩
    · rw [p0 _ _ (by decide)]; exact c1
    · rw [p0 _ _ (by decide), p0 _ _ (by decide)]; exact c2
    · rw [p0 _ _ (by decide), p0 _ _ (by decide)]; exact c3
    · rw [p0 _ _ (by decide), p0 _ _ (by decide)]; exact c4
    · rw [p0 _ _ (by decide)]; exact c5
  · unfold rZ at hj
    rw [z _ (by omega)]
    exact b3 j hj
theorem pLt_s {τ P : PT} {i x : Nat} (h0 : 0 ≤ P 0 1) : pset (pLt τ P i x) 1 (P 0 1 * 8 + x).toNat (τ (10 + x) i) = pLt τ P i (x + 1) := by
  funext a b
  unfold pset pLt
  by_cases q1 : a = 1 ∧ b = (P 0 1 * 8 + x).toNat
  · rw [if_pos q1, if_pos ⟨q1.1, by omega, by omega⟩, show b - 8 * (P 0 1).toNat = x from by omega]
  · rw [if_neg q1]
    by_cases q2 : a = 1 ∧ 8 * (P 0 1).toNat ≤ b ∧ b < 8 * (P 0 1).toNat + x
    · rw [if_pos q2, if_pos ⟨q2.1, q2.2.1, by omega⟩]
    · rw [if_neg q2, if_neg (fun c => by omega)]
theorem pLt_0 {τ P : PT} {i : Nat} : pLt τ P i 0 = P := by
  funext a b
  exact if_neg (fun c => by omega)
theorem pLt_f {τ P : PT} {i x k : Nat} : pLt τ P i x 0 k = P 0 k := if_neg (fun c => absurd c.1 (by decide))
