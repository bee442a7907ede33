/-! what the class's reader of ORDERS comes to, with what it read -/
def cOx7 (B : Nat → Int) (n : Nat) (P : PT) (h0 : zH) (x : zR) : Prop := ∃ m τ, Tks B n m τ ∧ ((∃ e, x.2 = some (0, 0) ∧ cB e x.1) ∨ (∃ (t : OT) (i : Nat), oSp τ P t 0 i ∧ τ 0 i = 0 ∧ x.2 = some (0, 1) ∧ cLay 8 x.1 t 0 ∧ x.1 18 1 = (0, ((tS t : Nat) : Int)) ∧ x.1 18 0 = (0, ((tN t : Nat) : Int)) ∧ tS t ≤ 30 ∧ tN t ≤ 60 ∧ x.1 10 7 = (0, 0) ∧ x.1 10 8 = (0, -1))) ∧ oXr h0 x.1
theorem cOx7_k {D : zD} {T : zT} {N mi pc : Nat} {l : List (Option zV)} {S : List zV} {Q : zR → Prop} {B : Nat → Int} {n : Nat} {P : PT} {h : zH} (H : vP D T N mi pc h l S (cOx7 B n P h)) (k1 : ∀ g m τ t i, oXr h g → Tks B n m τ → oSp τ P t 0 i → τ 0 i = 0 → cLay 8 g t 0 → g 18 1 = (0, ((tS t : Nat) : Int)) → g 18 0 = (0, ((tN t : Nat) : Int)) → tS t ≤ 30 → tN t ≤ 60 → g 10 7 = (0, 0) → g 10 8 = (0, -1) → Q (g, some (0, 1))) (k2 : ∀ g m τ e, oXr h g → Tks B n m τ → cB e g → Q (g, some (0, 0))) : vP D T N mi pc h l S Q := vP_Q (fun x hx => by
  obtain ⟨g, v⟩ := x
  obtain ⟨m, τ, hK, h1, hf⟩ := hx
  rcases h1 with ⟨e, h2, h3⟩ | ⟨t, i, h1, h2, h3, h4, h5, h6, h7, h8, h9, h10⟩
  · have h2 : v = some (0, 0) := h2
    subst h2
    exact k2 g m τ e hf hK h3
  · have h3 : v = some (0, 1) := h3
    subst h3
    exact k1 g m τ t i hf hK h1 h2 h4 h5 h6 h7 h8 h9 h10) H
def cOd7 (r : Nat) (B : Nat → Int) (n : Nat) (P : PT) (h0 : zH) (x : zR) : Prop := ∃ m τ, Tks B n m τ ∧ ((x.2 = some (0, -1) ∧ ∀ a j, r + 10 ≤ a → a ≤ r + 14 → x.1 a j = h0 a j) ∨ (∃ (t : OT) (i : Nat), oSp τ P t 0 i ∧ τ 0 i = 0 ∧ x.2 = some (0, ((tS t : Nat) : Int)) ∧ tS t ≤ 30 ∧ tN t ≤ 60 ∧ x.1 (r + 10) 0 = (0, ((tN t : Nat) : Int)) ∧ x.1 (r + 10) 1 = (0, ((tS t : Nat) : Int)) ∧ cLay r x.1 t 0))
theorem co7_turn_24 {D : zD} {T : zT} (hT : hTab T) (hO : vOK T) {N : Nat} {h : zH} {Q : zR → Prop} {B : Nat → Int} {n m i s d : Nat} {τ P : PT} (w x z : Int) (o : Option zV) (hX : cX B n m τ i h) (hK : Tks B n m τ) (hP : cP 24 P h) (hb : (0 ≤ P 0 0 ∧ P 0 0 ≤ 8) ∧ (0 ≤ P 0 1 ∧ P 0 1 ≤ 6) ∧ (0 ≤ P 0 2 ∧ P 0 2 ≤ 3) ∧ (0 ≤ P 0 3 ∧ P 0 3 ≤ 6)) (hl : h 17 2 = (2, 24)) (hs : h 18 1 = (0, (s : Int))) (hd : h 17 4 = (0, (d : Int))) (hz : h 18 0 = (0, z)) (bs : s ≤ 30) (bd : d ≤ 3) (bz : 0 ≤ z) (bzd : z + d ≤ 2 * s) (ho : ∀ e : Nat, e < d → 0 ≤ (h 23 e).2 ∧ (h 23 e).2 < z) (hx : 0 ≤ x ∧ x < 900) (h0 : τ 0 i ≠ 0) (hZ : cZs τ P h s d i z) (ih : ∀ g s' d' i' a b z' o', pStep τ P s d i = .inr (s', d', i') → cX B n m τ i' g → cP 24 P g → g 17 2 = (2, 24) → g 18 1 = (0, a) → a = (s' : Int) → g 17 4 = (0, b) → b = (d' : Int) → g 18 0 = (0, z') → s' ≤ 30 ∧ d' ≤ 3 ∧ 0 ≤ z' ∧ z' + d' ≤ 2 * s' → (∀ e : Nat, e < d' → 0 ≤ (g 23 e).2 ∧ (g 23 e).2 < z') → oFr h g → cZs τ P g s' d' i' z' → vP D T N 88 27 g [some (2, 17), some (2, 24), some (0, w), some (0, (x + 1)), o'] [] Q) (er : ∀ g e, pStep τ P s d i = .inl e → cB e g → oFr h g → Q (g, some (0, 0))) : vP D T (N + 1) 88 27 h [some (2, 17), some (2, 24), some (0, w), some (0, x), o] [] Q := by
  refine vP_hv (fun hv => ?_)
  have tb := bKp_bd hK hX.im.1
  by_cases hE : bW τ 20 i ≠ 0
  · exact co7_20_24 hT hO w x z o hv hX hK hP hb hl hs hd hz bs bd bz bzd ho hx h0 hE (fun g s' d' i' a b z' o' f q x1 x2 x3 x4 x5 x6 x7 x8 x9 x10 x11 e7 p w_ r => ih g s' d' i' a b z' o' q x1 x2 x3 x4 x5 x6 x7 x8 x9 x10 x11 (cZs_en hZ hE q p w_ e7 r)) er
  · have hE : bW τ 20 i = 0 := Classical.byContradiction hE
    by_cases hsw : swd τ i < 0
    · refine co_x_24 hT hO w x z o hv hX hK hP hb hl hs hd hz bs bd bz bzd ho hx h0 hE hsw ?_ (fun g s' d' i' a b z' o' q => absurd q ?_) er
      · have := swd_lt.mp hsw
        unfold bHw
        by_cases c : τ 0 i = 1
        · rw [if_pos c]; omega
        · rw [if_neg c]; omega
      · unfold pStep
        rw [if_neg (fun c => c hE), if_pos hsw]
        intro c
        cases c
    · have hge := swd_ge.mp (show 0 ≤ swd τ i by omega)
      obtain ⟨h1, h3⟩ := hge
      have hk : τ 3 i = 8 ∨ τ 3 i = 9 ∨ τ 3 i = 10 ∨ τ 3 i = 11 ∨ τ 3 i = 12 ∨ τ 3 i = 13 ∨ τ 3 i = 14 ∨ τ 3 i = 15 ∨ τ 3 i = 19 ∨ τ 3 i = 21 := by omega
      rcases hk with h3 | h3 | h3 | h3 | h3 | h3 | h3 | h3 | h3 | h3
      · exact co7_8_24 hT hO w x z o hv hX hK hP hb hl hs hd hz bs bd bz bzd ho hx h0 h1 h3 (fun g s' d' i' a b z' o' K u v j q x1 x2 x3 x4 x5 x6 x7 x8 x9 x10 x11 e7 p w_ r => ih g s' d' i' a b z' o' q x1 x2 x3 x4 x5 x6 x7 x8 x9 x10 x11 (cZs_st hb hZ hE q p w_ e7 r (by rw [h3]; rfl))) er
      · exact co7_9_24 hT hO w x z o hv hX hK hP hb hl hs hd hz bs bd bz bzd ho hx h0 h1 h3 (fun g s' d' i' a b z' o' K u v j q x1 x2 x3 x4 x5 x6 x7 x8 x9 x10 x11 e7 p w_ r => ih g s' d' i' a b z' o' q x1 x2 x3 x4 x5 x6 x7 x8 x9 x10 x11 (cZs_st hb hZ hE q p w_ e7 r (by rw [h3]; rfl))) er
      · exact co7_10_24 hT hO w x z o hv hX hK hP hb hl hs hd hz bs bd bz bzd ho hx h0 h1 h3 (fun g s' d' i' a b z' o' K u v j q x1 x2 x3 x4 x5 x6 x7 x8 x9 x10 x11 e7 p w_ r => ih g s' d' i' a b z' o' q x1 x2 x3 x4 x5 x6 x7 x8 x9 x10 x11 (cZs_st hb hZ hE q p w_ e7 r (by rw [h3]; rfl))) er
      · exact co7_11_24 hT hO w x z o hv hX hK hP hb hl hs hd hz bs bd bz bzd ho hx h0 h1 h3 (fun g s' d' i' a b z' o' K u v j q x1 x2 x3 x4 x5 x6 x7 x8 x9 x10 x11 e7 p w_ r => ih g s' d' i' a b z' o' q x1 x2 x3 x4 x5 x6 x7 x8 x9 x10 x11 (cZs_st hb hZ hE q p w_ e7 r (by rw [h3]; rfl))) er
      · exact co7_12_24 hT hO w x z o hv hX hK hP hb hl hs hd hz bs bd bz bzd ho hx h0 h1 h3 (fun g s' d' i' a b z' o' K u v j q x1 x2 x3 x4 x5 x6 x7 x8 x9 x10 x11 e7 p w_ r => ih g s' d' i' a b z' o' q x1 x2 x3 x4 x5 x6 x7 x8 x9 x10 x11 (cZs_st hb hZ hE q p w_ e7 r (by rw [h3]; rfl))) er
      · exact co7_13_24 hT hO w x z o hv hX hK hP hb hl hs hd hz bs bd bz bzd ho hx h0 h1 h3 (fun g s' d' i' a b z' o' K u v j q x1 x2 x3 x4 x5 x6 x7 x8 x9 x10 x11 e7 p w_ r => ih g s' d' i' a b z' o' q x1 x2 x3 x4 x5 x6 x7 x8 x9 x10 x11 (cZs_st hb hZ hE q p w_ e7 r (by rw [h3]; rfl))) er
      · exact co7_14_24 hT hO w x z o hv hX hK hP hb hl hs hd hz bs bd bz bzd ho hx h0 h1 h3 (fun g s' d' i' a b z' o' K u v j q x1 x2 x3 x4 x5 x6 x7 x8 x9 x10 x11 e7 p w_ r => ih g s' d' i' a b z' o' q x1 x2 x3 x4 x5 x6 x7 x8 x9 x10 x11 (cZs_st hb hZ hE q p w_ e7 r (by rw [h3]; rfl))) er
      · by_cases htw : twd τ (i + 1) < 0
        · refine co_15x_24 hT hO w x z o hv hX hK hP hb hl hs hd hz bs bd bz bzd ho hx h0 h1 h3 htw ?_ (fun g s' d' i' a b z' o' q => absurd ((pStep_V q hE).2.1 h3) (by omega)) er
          have := twd_lt.mp htw
          unfold bHw
          by_cases c : τ 0 (i + 1) = 1
          · rw [if_pos c]; omega
          · rw [if_neg c]; omega
        · have hte := twd_ge.mp (show 0 ≤ twd τ (i + 1) by omega)
          obtain ⟨h1b, h3b⟩ := hte
          have hk : τ 3 (i + 1) = 16 ∨ τ 3 (i + 1) = 17 ∨ τ 3 (i + 1) = 18 := by omega
          rcases hk with h3b | h3b | h3b
          · exact co7_15_16_24 hT hO w x z o hv hX hK hP hb hl hs hd hz bs bd bz bzd ho hx h0 h1 h3 h1b h3b (fun g s' d' i' a b z' o' K u v j q x1 x2 x3 x4 x5 x6 x7 x8 x9 x10 x11 e7 p w_ r => ih g s' d' i' a b z' o' q x1 x2 x3 x4 x5 x6 x7 x8 x9 x10 x11 (cZs_op hb hZ hE q p w_ e7 r (by rw [h3]; rfl))) er
          · exact co7_15_17_24 hT hO w x z o hv hX hK hP hb hl hs hd hz bs bd bz bzd ho hx h0 h1 h3 h1b h3b (fun g s' d' i' a b z' o' K u v j q x1 x2 x3 x4 x5 x6 x7 x8 x9 x10 x11 e7 p w_ r => ih g s' d' i' a b z' o' q x1 x2 x3 x4 x5 x6 x7 x8 x9 x10 x11 (cZs_op hb hZ hE q p w_ e7 r (by rw [h3]; rfl))) er
          · exact co7_15_18_24 hT hO w x z o hv hX hK hP hb hl hs hd hz bs bd bz bzd ho hx h0 h1 h3 h1b h3b (fun g s' d' i' a b z' o' K u v j q x1 x2 x3 x4 x5 x6 x7 x8 x9 x10 x11 e7 p w_ r => ih g s' d' i' a b z' o' q x1 x2 x3 x4 x5 x6 x7 x8 x9 x10 x11 (cZs_op hb hZ hE q p w_ e7 r (by rw [h3]; rfl))) er
      · exact co7_19_24 hT hO w x z o hv hX hK hP hb hl hs hd hz bs bd bz bzd ho hx h0 h1 h3 (fun g s' d' i' a b z' o' K u v j q x1 x2 x3 x4 x5 x6 x7 x8 x9 x10 x11 e7 p w_ r => ih g s' d' i' a b z' o' q x1 x2 x3 x4 x5 x6 x7 x8 x9 x10 x11 (cZs_op hb hZ hE q p w_ e7 r (by rw [h3]; rfl))) er
      · exact co7_21_24 hT hO w x z o hv hX hK hP hb hl hs hd hz bs bd bz bzd ho hx h0 h1 h3 (fun g s' d' i' a b z' o' K u v j q x1 x2 x3 x4 x5 x6 x7 x8 x9 x10 x11 e7 p w_ r => ih g s' d' i' a b z' o' q x1 x2 x3 x4 x5 x6 x7 x8 x9 x10 x11 (cZs_st hb hZ hE q p w_ e7 r (by rw [h3]; rfl))) er
theorem co7_text_24 {D : zD} {T : zT} (hT : hTab T) (hO : vOK T) {N : Nat} {h : zH} {B : Nat → Int} {n : Nat} {P : PT} (hB : TXc B n h) (hn : (n : Int) ≤ (h 10 1).2) (hP : cP 24 P h) (hb : lB P) : vP D T N 88 0 h [some (2, 17), some (2, 24), some (0, (n : Int)), none, none] [] (cOx7 B n P h) := by
  refine vP_hv (fun hv => co_text0_24 hT hO hv hB hn ?_)
  intro g m τ f hK hX
  have hP1 : cP 24 P g := hP.eq (fun a b h1 h2 => (f a b (fun c => by omega)).trans ((zset_ne (fun c => by omega)).trans ((zset_ne (fun c => by omega)).trans ((zset_ne (fun c => by omega)).trans (zset_ne (fun c => by omega))))))
  have f0 : ∀ g', oFr g g' → oXr h g' := fun g' f' a b hn => by
    rw [f' a b (fun c => hn (by omega)), f a b (fun c => hn (by omega)), zset_ne (fun c => hn (by omega)), zset_ne (fun c => hn (by omega)), zset_ne (fun c => hn (by omega)), zset_ne (fun c => hn (by omega))]
  refine vP_loop (fun h' l => ∃ (x : Nat) (s d i : Nat) (z : Int) (o : Option zV), l = [some (2, 17), some (2, 24), some (0, (n : Int)), some (0, (x : Int)), o] ∧ 2 * x ≤ i ∧ cX B n m τ i h' ∧ cP 24 P h' ∧ h' 17 2 = (2, 24) ∧ h' 18 1 = (0, (s : Int)) ∧ h' 17 4 = (0, (d : Int)) ∧ h' 18 0 = (0, z) ∧ (s ≤ 30 ∧ d ≤ 3 ∧ 0 ≤ z ∧ z + d ≤ 2 * s) ∧ (∀ e : Nat, e < d → 0 ≤ (h' 23 e).2 ∧ (h' 23 e).2 < z) ∧ oFr g h' ∧ cZs τ P h' s d i z) ?_ N _ _ ⟨0, 0, 0, 0, 0, none, rfl, by decide, hX, hP1, ?_, ?_, ?_, ?_, ⟨by decide, by decide, by decide, by decide⟩, fun e he => absurd he (by omega), oFr.rfl, cZs_0⟩
  · rintro N h' l ⟨x, s, d, i, z, o, rfl, hxi, hX', hP', hl, hs, hd, hz, ⟨b1, b2, b3, b4⟩, ho, hF, hZ⟩ ih
    have him := hX'.im
    by_cases h0 : τ 0 i = 0
    · refine vP_hv (fun hv => co_exit_24 hT hO n x o d hv hX' hd (bEn_y.mpr h0) (by omega) ?_ ?_)
      · intro c
        obtain ⟨Z, t, ib, z1, z2, z3, z4, z5, z6, z7⟩ := hZ
        cases Z with
        | cons y Z =>
          have l : (y :: Z).length = Z.length + 1 := rfl
          omega
        | nil =>
          have z1 : ib = 0 := z1
          have e1 : zN [] = 0 := rfl
          have e2 : zSs [] = 0 := rfl
          subst z1
          rw [e1] at z4 z5
          rw [e2] at z6
          refine ⟨m, τ, hK, Or.inr ⟨t, i, z2, h0, rfl, z4, ?_, ?_, by omega, by omega, hX'.fl, hX'.pl⟩, f0 _ hF⟩
          · rw [show ((tS t : Nat) : Int) = (s : Int) from by omega]; exact hs
          · rw [show ((tN t : Nat) : Int) = z from by omega]; exact hz
      · intro c g3 f3 c3
        exact ⟨m, τ, hK, Or.inl ⟨_, rfl, c3⟩, f0 _ (hF.t f3)⟩
    · refine co7_turn_24 hT hO n x z o hX' hK hP' hb hl hs hd hz b1 b2 b3 b4 ho ⟨by omega, by omega⟩ h0 hZ ?_ ?_
      · intro g3 s' d' i' a b z' o' q hX3 hP3 hl3 hs3 ha hd3 hb3 hz3 hbd ho3 f3 hZ3
        subst ha hb3
        have hi := pStep_i q
        exact ih _ _ ⟨x + 1, s', d', i', z', o', rfl, by omega, hX3, hP3, hl3, hs3, hd3, hz3, hbd, ho3, hF.trans f3, hZ3⟩
      · intro g3 e q c3 f3
        exact ⟨m, τ, hK, Or.inl ⟨e, rfl, c3⟩, f0 _ (hF.trans f3)⟩
  · exact (f 17 2 (fun c => by omega)).trans ((zset_ne (by decide)).trans ((zset_ne (by decide)).trans ((zset_ne (by decide)).trans zset_same)))
  · exact (f 18 1 (fun c => by omega)).trans ((zset_ne (by decide)).trans zset_same)
  · exact (f 17 4 (fun c => by omega)).trans zset_same
  · exact (f 18 0 (fun c => by omega)).trans ((zset_ne (by decide)).trans ((zset_ne (by decide)).trans zset_same))
theorem qc_ord7_24 {D : zD} {T : zT} (hT : hTab T) (hO : vOK T) {N : Nat} {h : zH} {Q : zR → Prop} {B : Nat → Int} {n : Nat} {P : PT} (hv0 : zHv h) (hB : TXc B n h) (hP : cP 24 P h) (hb : lB P) (e7 : h 0 7 = (2, 24)) (hn : (n : Int) ≤ (h 10 1).2) (hn3 : (n : Int) ≤ 300)
    (k0 : ∀ (g4 : zH) (m : Nat) (τ : PT) (t : OT) (i : Nat), (oXr h g4) → (Tks B n m τ) → (oSp τ P t 0 i) → (τ 0 i = 0) → (cLay 8 g4 t 0) → (g4 18 1 = (0, ((tS t : Nat) : Int))) → (g4 18 0 = (0, ((tN t : Nat) : Int))) → (tS t ≤ 30) → (tN t ≤ 60) → (g4 10 7 = (0, 0)) → (g4 10 8 = (0, -1)) → Q (zset (zcopy (zcopy (zcopy (zcopy (zset (zset (zset (zset (zset g4 10 1 (0, 0)) 10 9 (0, 0)) 10 10 (0, -1)) 34 0 (0, ((tN t : Nat) : Int))) 34 1 (0, ((tS t : Nat) : Int))) 19 0 35 0 60) 20 0 36 0 60) 21 0 37 0 60) 22 0 38 0 60) 0 0 (0, 0), some (0, ((tS t : Nat) : Int))))
    (k1 : ∀ (g5 : zH) (m : Nat) (τ : PT) (e5 : Er), (oXr h g5) → (Tks B n m τ) → (cB e5 g5) → Q (zset (zset (zset (zset g5 10 1 (0, 0)) 10 9 (0, e5.1)) 10 10 (0, e5.2)) 0 0 (0, 10), some (0, -1))) :
    vP D T N 170 0 h [some (2, 0), some (0, (n : Int)), none] [] Q := by
  refine v_load (v := (0, (n : Int))) (hz_X11_orders hT _ _ rfl) rfl rfl ?_
  refine v_if (hz_X11_orders hT _ _ rfl) (fun hc1 => absurd (show (n : Int) < 0 from hc1) (by omega)) (fun _ => ?_)
  refine v_load (v := (0, (n : Int))) (hz_X11_orders hT _ _ rfl) rfl rfl ?_
  refine v_load (v := (2, 0)) (hz_X11_orders hT _ _ rfl) rfl rfl ?_
  refine v_getR (c := 10) (r := 0) (hz_X11_orders hT _ _ rfl) rfl rfl rfl ?_
  refine v_getI (t := 0) (r := 10) (hz_X11_orders hT _ _ rfl) rfl rfl rfl ?_
  refine v_ic (hz_X11_orders hT _ _ rfl) (fun hc2 => absurd (show (h 10 1).2 < (n : Int) from hc2) (by omega)) (fun _ => ?_)
  refine v_load (v := (0, (n : Int))) (hz_X11_orders hT _ _ rfl) rfl rfl ?_
  refine v_push (300) (hz_X11_orders hT _ _ rfl) rfl ?_
  refine v_ic (hz_X11_orders hT _ _ rfl) (fun hc3 => absurd (show 300 < (n : Int) from hc3) (by omega)) (fun _ => ?_)
  refine v_load (v := (2, 0)) (hz_X11_orders hT _ _ rfl) rfl rfl ?_
  refine v_getR (c := 17) (r := 0) (hz_X11_orders hT _ _ rfl) rfl rfl rfl ?_
  refine v_load (v := (2, 0)) (hz_X11_orders hT _ _ rfl) rfl rfl ?_
  refine v_getf (v := (2, 24)) (r := 0) (hz_X11_orders hT _ _ rfl) rfl rfl (fun _ => e7) ?_
  refine v_load (v := (0, (n : Int))) (hz_X11_orders hT _ _ rfl) rfl rfl ?_
  refine v_call (w := 5) [some (2, 17), some (2, 24), some (0, (n : Int)), none, none] hO (hz_X11_orders hT _ _ rfl) rfl rfl (cOx7_k (co7_text_24 hT hO hB (by omega) hP hb) (fun g4 m τ t i xf4 hK4 qs4 qz4 ql4 sa4 sb4 ba4 bb4 da4 db4 => ?_) (fun g5 m τ e5 xf5 hK5 c5 => ?_))
  · show vP D T N 170 40 g4 [some (2, 0), some (0, (n : Int)), none] [(0, 1)] _
    refine vP_hv (fun hv4 => ?_)
    refine v_store1 [some (2, 0), some (0, (n : Int)), some (0, 1)] (hz_X11_orders hT _ _ rfl) ⟨rfl, Nat.ne_of_beq_eq_false rfl⟩ (Nat.le_of_ble_eq_true rfl) rfl ?_
    refine v_load (v := (2, 0)) (hz_X11_orders hT _ _ rfl) rfl rfl ?_
    refine v_getR (c := 10) (r := 0) (hz_X11_orders hT _ _ rfl) rfl rfl rfl ?_
    refine v_call (w := 1) [some (2, 10)] hO (hz_X11_orders hT _ _ rfl) rfl rfl ?_
    refine v_load (v := (2, 10)) (hz_X8_finishText hT _ _ rfl) rfl rfl ?_
    refine v_push (0) (hz_X8_finishText hT _ _ rfl) rfl ?_
    refine v_putf (r := 10) hO (hz_X8_finishText hT _ _ rfl) rfl (fun hf6 => ?_)
    refine v_load (v := (2, 10)) (hz_X8_finishText hT _ _ rfl) rfl rfl ?_
    refine v_load (v := (2, 10)) (hz_X8_finishText hT _ _ rfl) rfl rfl ?_
    refine v_getf (v := (0, 0)) (r := 10) (hz_X8_finishText hT _ _ rfl) rfl rfl (fun _ => Eq.trans (zset_ne (fun c => absurd c.2 (by decide))) (da4)) ?_
    refine v_putf (r := 10) hO (hz_X8_finishText hT _ _ rfl) rfl (fun hf7 => ?_)
    refine v_load (v := (2, 10)) (hz_X8_finishText hT _ _ rfl) rfl rfl ?_
    refine v_load (v := (2, 10)) (hz_X8_finishText hT _ _ rfl) rfl rfl ?_
    refine v_getf (v := (0, -1)) (r := 10) (hz_X8_finishText hT _ _ rfl) rfl rfl (fun _ => Eq.trans (Eq.trans (zset_ne (fun c => absurd c.2 (by decide))) (zset_ne (fun c => absurd c.2 (by decide)))) (db4)) ?_
    refine v_putf (r := 10) hO (hz_X8_finishText hT _ _ rfl) rfl (fun hf8 => ?_)
    refine v_ret0 (hz_X8_finishText hT _ _ rfl) ?_
    show vP D T N 170 48 (zset (zset (zset g4 10 1 (0, 0)) 10 9 (0, 0)) 10 10 (0, -1)) [some (2, 0), some (0, (n : Int)), some (0, 1)] [] _
    refine v_load (v := (0, 1)) (hz_X11_orders hT _ _ rfl) rfl rfl ?_
    refine v_if (hz_X11_orders hT _ _ rfl) (fun hc9 => absurd (show (1 : Int) = 0 from hc9) (by omega)) (fun _ => ?_)
    refine v_load (v := (2, 0)) (hz_X11_orders hT _ _ rfl) rfl rfl ?_
    refine v_getf (v := (2, 24)) (r := 0) (hz_X11_orders hT _ _ rfl) rfl rfl (fun _ => Eq.trans (Eq.trans (zset_ne (fun c => absurd c.1 (by decide))) (Eq.trans (zset_ne (fun c => absurd c.1 (by decide))) (zset_ne (fun c => absurd c.1 (by decide))))) ((Eq.trans (xf4 0 7 (fun c => by omega)) e7))) ?_
    refine v_getR (c := 34) (r := 24) (hz_X11_orders hT _ _ rfl) rfl rfl rfl ?_
    refine v_load (v := (2, 0)) (hz_X11_orders hT _ _ rfl) rfl rfl ?_
    refine v_getR (c := 17) (r := 0) (hz_X11_orders hT _ _ rfl) rfl rfl rfl ?_
    refine v_getR (c := 18) (r := 17) (hz_X11_orders hT _ _ rfl) rfl rfl rfl ?_
    refine v_call (w := 2) [some (2, 34), some (2, 18)] hO (hz_X11_orders hT _ _ rfl) rfl rfl ?_
    refine v_load (v := (2, 34)) (hz_X5_becomeLike hT _ _ rfl) rfl rfl ?_
    refine v_load (v := (2, 18)) (hz_X5_becomeLike hT _ _ rfl) rfl rfl ?_
    refine v_getf (v := (0, ((tN t : Nat) : Int))) (r := 18) (hz_X5_becomeLike hT _ _ rfl) rfl rfl (fun _ => Eq.trans (Eq.trans (zset_ne (fun c => absurd c.1 (by decide))) (Eq.trans (zset_ne (fun c => absurd c.1 (by decide))) (zset_ne (fun c => absurd c.1 (by decide))))) (sb4)) ?_
    refine v_putf (r := 34) hO (hz_X5_becomeLike hT _ _ rfl) rfl (fun hf10 => ?_)
    refine v_load (v := (2, 34)) (hz_X5_becomeLike hT _ _ rfl) rfl rfl ?_
    refine v_load (v := (2, 18)) (hz_X5_becomeLike hT _ _ rfl) rfl rfl ?_
    refine v_getf (v := (0, ((tS t : Nat) : Int))) (r := 18) (hz_X5_becomeLike hT _ _ rfl) rfl rfl (fun _ => Eq.trans (Eq.trans (zset_ne (fun c => absurd c.1 (by decide))) (Eq.trans (zset_ne (fun c => absurd c.1 (by decide))) (Eq.trans (zset_ne (fun c => absurd c.1 (by decide))) (zset_ne (fun c => absurd c.1 (by decide)))))) (sa4)) ?_
    refine v_putf (r := 34) hO (hz_X5_becomeLike hT _ _ rfl) rfl (fun hf11 => ?_)
    refine v_load (v := (2, 18)) (hz_X5_becomeLike hT _ _ rfl) rfl rfl ?_
    refine v_getR (c := 19) (r := 18) (hz_X5_becomeLike hT _ _ rfl) rfl rfl rfl ?_
    refine v_push (0) (hz_X5_becomeLike hT _ _ rfl) rfl ?_
    refine v_load (v := (2, 34)) (hz_X5_becomeLike hT _ _ rfl) rfl rfl ?_
    refine v_getR (c := 35) (r := 34) (hz_X5_becomeLike hT _ _ rfl) rfl rfl rfl ?_
    refine v_push (0) (hz_X5_becomeLike hT _ _ rfl) rfl ?_
    refine v_push (60) (hz_X5_becomeLike hT _ _ rfl) rfl ?_
    refine v_copy (r0 := 19) (r1 := 35) (hz_X5_becomeLike hT _ _ rfl) rfl rfl rfl rfl (fun hd12 hd13 hd14 hd15 hd16 => ?_)
    refine v_load (v := (2, 18)) (hz_X5_becomeLike hT _ _ rfl) rfl rfl ?_
    refine v_getR (c := 20) (r := 18) (hz_X5_becomeLike hT _ _ rfl) rfl rfl rfl ?_
    refine v_push (0) (hz_X5_becomeLike hT _ _ rfl) rfl ?_
    refine v_load (v := (2, 34)) (hz_X5_becomeLike hT _ _ rfl) rfl rfl ?_
    refine v_getR (c := 36) (r := 34) (hz_X5_becomeLike hT _ _ rfl) rfl rfl rfl ?_
    refine v_push (0) (hz_X5_becomeLike hT _ _ rfl) rfl ?_
    refine v_push (60) (hz_X5_becomeLike hT _ _ rfl) rfl ?_
    refine v_copy (r0 := 20) (r1 := 36) (hz_X5_becomeLike hT _ _ rfl) rfl rfl rfl rfl (fun hd17 hd18 hd19 hd20 hd21 => ?_)
    refine v_load (v := (2, 18)) (hz_X5_becomeLike hT _ _ rfl) rfl rfl ?_
    refine v_getR (c := 21) (r := 18) (hz_X5_becomeLike hT _ _ rfl) rfl rfl rfl ?_
    refine v_push (0) (hz_X5_becomeLike hT _ _ rfl) rfl ?_
    refine v_load (v := (2, 34)) (hz_X5_becomeLike hT _ _ rfl) rfl rfl ?_
    refine v_getR (c := 37) (r := 34) (hz_X5_becomeLike hT _ _ rfl) rfl rfl rfl ?_
    refine v_push (0) (hz_X5_becomeLike hT _ _ rfl) rfl ?_
    refine v_push (60) (hz_X5_becomeLike hT _ _ rfl) rfl ?_
    refine v_copy (r0 := 21) (r1 := 37) (hz_X5_becomeLike hT _ _ rfl) rfl rfl rfl rfl (fun hd22 hd23 hd24 hd25 hd26 => ?_)
    refine v_load (v := (2, 18)) (hz_X5_becomeLike hT _ _ rfl) rfl rfl ?_
    refine v_getR (c := 22) (r := 18) (hz_X5_becomeLike hT _ _ rfl) rfl rfl rfl ?_
    refine v_push (0) (hz_X5_becomeLike hT _ _ rfl) rfl ?_
    refine v_load (v := (2, 34)) (hz_X5_becomeLike hT _ _ rfl) rfl rfl ?_
    refine v_getR (c := 38) (r := 34) (hz_X5_becomeLike hT _ _ rfl) rfl rfl rfl ?_
    refine v_push (0) (hz_X5_becomeLike hT _ _ rfl) rfl ?_
    refine v_push (60) (hz_X5_becomeLike hT _ _ rfl) rfl ?_
    refine v_copy (r0 := 22) (r1 := 38) (hz_X5_becomeLike hT _ _ rfl) rfl rfl rfl rfl (fun hd27 hd28 hd29 hd30 hd31 => ?_)
    refine v_ret0 (hz_X5_becomeLike hT _ _ rfl) ?_
    show vP D T N 170 76 (zcopy (zcopy (zcopy (zcopy (zset (zset (zset (zset (zset g4 10 1 (0, 0)) 10 9 (0, 0)) 10 10 (0, -1)) 34 0 (0, ((tN t : Nat) : Int))) 34 1 (0, ((tS t : Nat) : Int))) 19 0 35 0 60) 20 0 36 0 60) 21 0 37 0 60) 22 0 38 0 60) [some (2, 0), some (0, (n : Int)), some (0, 1)] [] _
    refine v_load (v := (2, 0)) (hz_X11_orders hT _ _ rfl) rfl rfl ?_
    refine v_load (v := (2, 0)) (hz_X11_orders hT _ _ rfl) rfl rfl ?_
    refine v_getf (v := (2, 24)) (r := 0) (hz_X11_orders hT _ _ rfl) rfl rfl (fun _ => Eq.trans (Eq.trans (vcopy_ne (fun c => absurd c.1 (by decide))) (Eq.trans (vcopy_ne (fun c => absurd c.1 (by decide))) (Eq.trans (vcopy_ne (fun c => absurd c.1 (by decide))) (Eq.trans (vcopy_ne (fun c => absurd c.1 (by decide))) (Eq.trans (zset_ne (fun c => absurd c.1 (by decide))) (Eq.trans (zset_ne (fun c => absurd c.1 (by decide))) (Eq.trans (zset_ne (fun c => absurd c.1 (by decide))) (Eq.trans (zset_ne (fun c => absurd c.1 (by decide))) (zset_ne (fun c => absurd c.1 (by decide))))))))))) ((Eq.trans (xf4 0 7 (fun c => by omega)) e7))) ?_
    refine v_getR (c := 34) (r := 24) (hz_X11_orders hT _ _ rfl) rfl rfl rfl ?_
    refine v_getf (v := (0, ((tS t : Nat) : Int))) (r := 34) (hz_X11_orders hT _ _ rfl) rfl rfl (fun _ => Eq.trans (Eq.trans (vcopy_ne (fun c => absurd c.1 (by decide))) (Eq.trans (vcopy_ne (fun c => absurd c.1 (by decide))) (Eq.trans (vcopy_ne (fun c => absurd c.1 (by decide))) (vcopy_ne (fun c => absurd c.1 (by decide)))))) zset_same) ?_
    refine v_call (w := 2) [some (2, 0), some (0, ((tS t : Nat) : Int))] hO (hz_X11_orders hT _ _ rfl) rfl rfl ?_
    refine v_load (v := (2, 0)) (hz_X11_answer hT _ _ rfl) rfl rfl ?_
    refine v_push (0) (hz_X11_answer hT _ _ rfl) rfl ?_
    refine v_putf (r := 0) hO (hz_X11_answer hT _ _ rfl) rfl (fun hf32 => ?_)
    refine v_load (v := (0, ((tS t : Nat) : Int))) (hz_X11_answer hT _ _ rfl) rfl rfl ?_
    refine v_ret (hz_X11_answer hT _ _ rfl) (Or.inl rfl) ?_
    show vP D T N 170 90 (zset (zcopy (zcopy (zcopy (zcopy (zset (zset (zset (zset (zset g4 10 1 (0, 0)) 10 9 (0, 0)) 10 10 (0, -1)) 34 0 (0, ((tN t : Nat) : Int))) 34 1 (0, ((tS t : Nat) : Int))) 19 0 35 0 60) 20 0 36 0 60) 21 0 37 0 60) 22 0 38 0 60) 0 0 (0, 0)) [some (2, 0), some (0, (n : Int)), some (0, 1)] [(0, ((tS t : Nat) : Int))] _
    refine v_ret (hz_X11_orders hT _ _ rfl) (Or.inl rfl) ?_
    exact k0 g4 m τ t i xf4 hK4 qs4 qz4 ql4 sa4 sb4 ba4 bb4 da4 db4
  · show vP D T N 170 40 g5 [some (2, 0), some (0, (n : Int)), none] [(0, 0)] _
    refine vP_hv (fun hv5 => ?_)
    refine v_store1 [some (2, 0), some (0, (n : Int)), some (0, 0)] (hz_X11_orders hT _ _ rfl) ⟨rfl, Nat.ne_of_beq_eq_false rfl⟩ (Nat.le_of_ble_eq_true rfl) rfl ?_
    refine v_load (v := (2, 0)) (hz_X11_orders hT _ _ rfl) rfl rfl ?_
    refine v_getR (c := 10) (r := 0) (hz_X11_orders hT _ _ rfl) rfl rfl rfl ?_
    refine v_call (w := 1) [some (2, 10)] hO (hz_X11_orders hT _ _ rfl) rfl rfl ?_
    refine v_load (v := (2, 10)) (hz_X8_finishText hT _ _ rfl) rfl rfl ?_
    refine v_push (0) (hz_X8_finishText hT _ _ rfl) rfl ?_
    refine v_putf (r := 10) hO (hz_X8_finishText hT _ _ rfl) rfl (fun hf33 => ?_)
    refine v_load (v := (2, 10)) (hz_X8_finishText hT _ _ rfl) rfl rfl ?_
    refine v_load (v := (2, 10)) (hz_X8_finishText hT _ _ rfl) rfl rfl ?_
    refine v_getf (v := (0, e5.1)) (r := 10) (hz_X8_finishText hT _ _ rfl) rfl rfl (fun _ => Eq.trans (zset_ne (fun c => absurd c.2 (by decide))) (c5.1)) ?_
    refine v_putf (r := 10) hO (hz_X8_finishText hT _ _ rfl) rfl (fun hf34 => ?_)
    refine v_load (v := (2, 10)) (hz_X8_finishText hT _ _ rfl) rfl rfl ?_
    refine v_load (v := (2, 10)) (hz_X8_finishText hT _ _ rfl) rfl rfl ?_
    refine v_getf (v := (0, e5.2)) (r := 10) (hz_X8_finishText hT _ _ rfl) rfl rfl (fun _ => Eq.trans (Eq.trans (zset_ne (fun c => absurd c.2 (by decide))) (zset_ne (fun c => absurd c.2 (by decide)))) (c5.2)) ?_
    refine v_putf (r := 10) hO (hz_X8_finishText hT _ _ rfl) rfl (fun hf35 => ?_)
    refine v_ret0 (hz_X8_finishText hT _ _ rfl) ?_
    show vP D T N 170 48 (zset (zset (zset g5 10 1 (0, 0)) 10 9 (0, e5.1)) 10 10 (0, e5.2)) [some (2, 0), some (0, (n : Int)), some (0, 0)] [] _
    refine v_load (v := (0, 0)) (hz_X11_orders hT _ _ rfl) rfl rfl ?_
    refine v_if (hz_X11_orders hT _ _ rfl) (fun _ => ?_) (fun hc36 => absurd (show (0 : Int) = 0 from (by omega)) hc36)
    refine v_load (v := (2, 0)) (hz_X11_orders hT _ _ rfl) rfl rfl ?_
    refine v_push (10) (hz_X11_orders hT _ _ rfl) rfl ?_
    refine v_call (w := 2) [some (2, 0), some (0, 10)] hO (hz_X11_orders hT _ _ rfl) rfl rfl ?_
    refine v_load (v := (2, 0)) (hz_X11_refused hT _ _ rfl) rfl rfl ?_
    refine v_load (v := (0, 10)) (hz_X11_refused hT _ _ rfl) rfl rfl ?_
    refine v_putf (r := 0) hO (hz_X11_refused hT _ _ rfl) rfl (fun hf37 => ?_)
    refine v_push (-1) (hz_X11_refused hT _ _ rfl) rfl ?_
    refine v_ret (hz_X11_refused hT _ _ rfl) (Or.inl rfl) ?_
    show vP D T N 170 58 (zset (zset (zset (zset g5 10 1 (0, 0)) 10 9 (0, e5.1)) 10 10 (0, e5.2)) 0 0 (0, 10)) [some (2, 0), some (0, (n : Int)), some (0, 0)] [(0, -1)] _
    refine v_ret (hz_X11_orders hT _ _ rfl) (Or.inl rfl) ?_
    exact k1 g5 m τ e5 xf5 hK5 c5
theorem co7_ord_24 {D : zD} {T : zT} (hT : hTab T) (hO : vOK T) {N : Nat} {h : zH} {B : Nat → Int} {n : Nat} {P : PT} (hB : TXc B n h) (hP : cP 24 P h) (hb : lB P) (e7 : h 0 7 = (2, 24)) (hn : (n : Int) ≤ (h 10 1).2) (hn3 : (n : Int) ≤ 300) : vP D T N 170 0 h [some (2, 0), some (0, (n : Int)), none] [] (cOd7 24 B n P h) := by
  refine vP_hv (fun hv => qc_ord7_24 hT hO hv hB hP hb e7 hn hn3 ?_ ?_)
  · intro g m τ t i xf hK qs q0 ql s1 s0 b3 b6 d7 d8
    refine ⟨m, τ, hK, Or.inr ⟨t, i, qs, q0, rfl, b3, b6, ?_, ?_, ?_⟩⟩
    · dsimp only
      exact (zset_ne (by decide)).trans ((vcopy_ne (by decide)).trans ((vcopy_ne (by decide)).trans ((vcopy_ne (by decide)).trans ((vcopy_ne (by decide)).trans ((zset_ne (by decide)).trans zset_same)))))
    · dsimp only
      exact (zset_ne (by decide)).trans ((vcopy_ne (by decide)).trans ((vcopy_ne (by decide)).trans ((vcopy_ne (by decide)).trans ((vcopy_ne (by decide)).trans zset_same))))
    · dsimp only
      refine ql.tr (fun j k h1 h2 h3 => ?_) (by omega)
      have hj : j = 11 ∨ j = 12 ∨ j = 13 ∨ j = 14 := by omega
      have z5 : ∀ a, 19 ≤ a → a ≤ 22 → zset (zset (zset (zset (zset g 10 1 (0, 0)) 10 9 (0, 0)) 10 10 (0, -1)) 34 0 (0, ((tN t : Nat) : Int))) 34 1 (0, ((tS t : Nat) : Int)) a k = g a k := fun a ha1 ha2 => by
        rw [zset_ne (fun c => by omega), zset_ne (fun c => by omega), zset_ne (fun c => by omega), zset_ne (fun c => by omega), zset_ne (fun c => by omega)]
      rcases hj with rfl | rfl | rfl | rfl
      · exact (zset_ne (fun c => by omega)).trans ((vcopy_ne (fun c => by omega)).trans ((vcopy_ne (fun c => by omega)).trans ((vcopy_ne (fun c => by omega)).trans ((vcopy_at0 h3).trans (z5 19 (by decide) (by decide))))))
      · exact (zset_ne (fun c => by omega)).trans ((vcopy_ne (fun c => by omega)).trans ((vcopy_ne (fun c => by omega)).trans ((vcopy_at0 h3).trans ((vcopy_ne (fun c => by omega)).trans (z5 20 (by decide) (by decide))))))
      · exact (zset_ne (fun c => by omega)).trans ((vcopy_ne (fun c => by omega)).trans ((vcopy_at0 h3).trans ((vcopy_ne (fun c => by omega)).trans ((vcopy_ne (fun c => by omega)).trans (z5 21 (by decide) (by decide))))))
      · exact (zset_ne (fun c => by omega)).trans ((vcopy_at0 h3).trans ((vcopy_ne (fun c => by omega)).trans ((vcopy_ne (fun c => by omega)).trans ((vcopy_ne (fun c => by omega)).trans (z5 22 (by decide) (by decide))))))
  · intro g m τ e xf hK c
    refine ⟨m, τ, hK, Or.inl ⟨rfl, fun a j ha1 ha2 => ?_⟩⟩
    show zset (zset (zset (zset g 10 1 (0, 0)) 10 9 (0, e.1)) 10 10 (0, e.2)) 0 0 (0, 10) a j = h a j
    rw [zset_ne (fun c => by omega), zset_ne (fun c => by omega), zset_ne (fun c => by omega), zset_ne (fun c => by omega)]
    exact xf a j (fun c => by omega)
theorem co7_turn_39 {D : zD} {T : zT} (hT : hTab T) (hO : vOK T) {N : Nat} {h : zH} {Q : zR → Prop} {B : Nat → Int} {n m i s d : Nat} {τ P : PT} (w x z : Int) (o : Option zV) (hX : cX B n m τ i h) (hK : Tks B n m τ) (hP : cP 39 P h) (hb : (0 ≤ P 0 0 ∧ P 0 0 ≤ 8) ∧ (0 ≤ P 0 1 ∧ P 0 1 ≤ 6) ∧ (0 ≤ P 0 2 ∧ P 0 2 ≤ 3) ∧ (0 ≤ P 0 3 ∧ P 0 3 ≤ 6)) (hl : h 17 2 = (2, 39)) (hs : h 18 1 = (0, (s : Int))) (hd : h 17 4 = (0, (d : Int))) (hz : h 18 0 = (0, z)) (bs : s ≤ 30) (bd : d ≤ 3) (bz : 0 ≤ z) (bzd : z + d ≤ 2 * s) (ho : ∀ e : Nat, e < d → 0 ≤ (h 23 e).2 ∧ (h 23 e).2 < z) (hx : 0 ≤ x ∧ x < 900) (h0 : τ 0 i ≠ 0) (hZ : cZs τ P h s d i z) (ih : ∀ g s' d' i' a b z' o', pStep τ P s d i = .inr (s', d', i') → cX B n m τ i' g → cP 39 P g → g 17 2 = (2, 39) → g 18 1 = (0, a) → a = (s' : Int) → g 17 4 = (0, b) → b = (d' : Int) → g 18 0 = (0, z') → s' ≤ 30 ∧ d' ≤ 3 ∧ 0 ≤ z' ∧ z' + d' ≤ 2 * s' → (∀ e : Nat, e < d' → 0 ≤ (g 23 e).2 ∧ (g 23 e).2 < z') → oFr h g → cZs τ P g s' d' i' z' → vP D T N 88 27 g [some (2, 17), some (2, 39), some (0, w), some (0, (x + 1)), o'] [] Q) (er : ∀ g e, pStep τ P s d i = .inl e → cB e g → oFr h g → Q (g, some (0, 0))) : vP D T (N + 1) 88 27 h [some (2, 17), some (2, 39), some (0, w), some (0, x), o] [] Q := by
  refine vP_hv (fun hv => ?_)
  have tb := bKp_bd hK hX.im.1
  by_cases hE : bW τ 20 i ≠ 0
  · exact co7_20_39 hT hO w x z o hv hX hK hP hb hl hs hd hz bs bd bz bzd ho hx h0 hE (fun g s' d' i' a b z' o' f q x1 x2 x3 x4 x5 x6 x7 x8 x9 x10 x11 e7 p w_ r => ih g s' d' i' a b z' o' q x1 x2 x3 x4 x5 x6 x7 x8 x9 x10 x11 (cZs_en hZ hE q p w_ e7 r)) er
  · have hE : bW τ 20 i = 0 := Classical.byContradiction hE
    by_cases hsw : swd τ i < 0
    · refine co_x_39 hT hO w x z o hv hX hK hP hb hl hs hd hz bs bd bz bzd ho hx h0 hE hsw ?_ (fun g s' d' i' a b z' o' q => absurd q ?_) er
      · have := swd_lt.mp hsw
        unfold bHw
        by_cases c : τ 0 i = 1
        · rw [if_pos c]; omega
        · rw [if_neg c]; omega
      · unfold pStep
        rw [if_neg (fun c => c hE), if_pos hsw]
        intro c
        cases c
    · have hge := swd_ge.mp (show 0 ≤ swd τ i by omega)
      obtain ⟨h1, h3⟩ := hge
      have hk : τ 3 i = 8 ∨ τ 3 i = 9 ∨ τ 3 i = 10 ∨ τ 3 i = 11 ∨ τ 3 i = 12 ∨ τ 3 i = 13 ∨ τ 3 i = 14 ∨ τ 3 i = 15 ∨ τ 3 i = 19 ∨ τ 3 i = 21 := by omega
      rcases hk with h3 | h3 | h3 | h3 | h3 | h3 | h3 | h3 | h3 | h3
      · exact co7_8_39 hT hO w x z o hv hX hK hP hb hl hs hd hz bs bd bz bzd ho hx h0 h1 h3 (fun g s' d' i' a b z' o' K u v j q x1 x2 x3 x4 x5 x6 x7 x8 x9 x10 x11 e7 p w_ r => ih g s' d' i' a b z' o' q x1 x2 x3 x4 x5 x6 x7 x8 x9 x10 x11 (cZs_st hb hZ hE q p w_ e7 r (by rw [h3]; rfl))) er
      · exact co7_9_39 hT hO w x z o hv hX hK hP hb hl hs hd hz bs bd bz bzd ho hx h0 h1 h3 (fun g s' d' i' a b z' o' K u v j q x1 x2 x3 x4 x5 x6 x7 x8 x9 x10 x11 e7 p w_ r => ih g s' d' i' a b z' o' q x1 x2 x3 x4 x5 x6 x7 x8 x9 x10 x11 (cZs_st hb hZ hE q p w_ e7 r (by rw [h3]; rfl))) er
      · exact co7_10_39 hT hO w x z o hv hX hK hP hb hl hs hd hz bs bd bz bzd ho hx h0 h1 h3 (fun g s' d' i' a b z' o' K u v j q x1 x2 x3 x4 x5 x6 x7 x8 x9 x10 x11 e7 p w_ r => ih g s' d' i' a b z' o' q x1 x2 x3 x4 x5 x6 x7 x8 x9 x10 x11 (cZs_st hb hZ hE q p w_ e7 r (by rw [h3]; rfl))) er
      · exact co7_11_39 hT hO w x z o hv hX hK hP hb hl hs hd hz bs bd bz bzd ho hx h0 h1 h3 (fun g s' d' i' a b z' o' K u v j q x1 x2 x3 x4 x5 x6 x7 x8 x9 x10 x11 e7 p w_ r => ih g s' d' i' a b z' o' q x1 x2 x3 x4 x5 x6 x7 x8 x9 x10 x11 (cZs_st hb hZ hE q p w_ e7 r (by rw [h3]; rfl))) er
      · exact co7_12_39 hT hO w x z o hv hX hK hP hb hl hs hd hz bs bd bz bzd ho hx h0 h1 h3 (fun g s' d' i' a b z' o' K u v j q x1 x2 x3 x4 x5 x6 x7 x8 x9 x10 x11 e7 p w_ r => ih g s' d' i' a b z' o' q x1 x2 x3 x4 x5 x6 x7 x8 x9 x10 x11 (cZs_st hb hZ hE q p w_ e7 r (by rw [h3]; rfl))) er
      · exact co7_13_39 hT hO w x z o hv hX hK hP hb hl hs hd hz bs bd bz bzd ho hx h0 h1 h3 (fun g s' d' i' a b z' o' K u v j q x1 x2 x3 x4 x5 x6 x7 x8 x9 x10 x11 e7 p w_ r => ih g s' d' i' a b z' o' q x1 x2 x3 x4 x5 x6 x7 x8 x9 x10 x11 (cZs_st hb hZ hE q p w_ e7 r (by rw [h3]; rfl))) er
      · exact co7_14_39 hT hO w x z o hv hX hK hP hb hl hs hd hz bs bd bz bzd ho hx h0 h1 h3 (fun g s' d' i' a b z' o' K u v j q x1 x2 x3 x4 x5 x6 x7 x8 x9 x10 x11 e7 p w_ r => ih g s' d' i' a b z' o' q x1 x2 x3 x4 x5 x6 x7 x8 x9 x10 x11 (cZs_st hb hZ hE q p w_ e7 r (by rw [h3]; rfl))) er
      · by_cases htw : twd τ (i + 1) < 0
        · refine co_15x_39 hT hO w x z o hv hX hK hP hb hl hs hd hz bs bd bz bzd ho hx h0 h1 h3 htw ?_ (fun g s' d' i' a b z' o' q => absurd ((pStep_V q hE).2.1 h3) (by omega)) er
          have := twd_lt.mp htw
          unfold bHw
          by_cases c : τ 0 (i + 1) = 1
          · rw [if_pos c]; omega
          · rw [if_neg c]; omega
        · have hte := twd_ge.mp (show 0 ≤ twd τ (i + 1) by omega)
          obtain ⟨h1b, h3b⟩ := hte
          have hk : τ 3 (i + 1) = 16 ∨ τ 3 (i + 1) = 17 ∨ τ 3 (i + 1) = 18 := by omega
          rcases hk with h3b | h3b | h3b
          · exact co7_15_16_39 hT hO w x z o hv hX hK hP hb hl hs hd hz bs bd bz bzd ho hx h0 h1 h3 h1b h3b (fun g s' d' i' a b z' o' K u v j q x1 x2 x3 x4 x5 x6 x7 x8 x9 x10 x11 e7 p w_ r => ih g s' d' i' a b z' o' q x1 x2 x3 x4 x5 x6 x7 x8 x9 x10 x11 (cZs_op hb hZ hE q p w_ e7 r (by rw [h3]; rfl))) er
          · exact co7_15_17_39 hT hO w x z o hv hX hK hP hb hl hs hd hz bs bd bz bzd ho hx h0 h1 h3 h1b h3b (fun g s' d' i' a b z' o' K u v j q x1 x2 x3 x4 x5 x6 x7 x8 x9 x10 x11 e7 p w_ r => ih g s' d' i' a b z' o' q x1 x2 x3 x4 x5 x6 x7 x8 x9 x10 x11 (cZs_op hb hZ hE q p w_ e7 r (by rw [h3]; rfl))) er
          · exact co7_15_18_39 hT hO w x z o hv hX hK hP hb hl hs hd hz bs bd bz bzd ho hx h0 h1 h3 h1b h3b (fun g s' d' i' a b z' o' K u v j q x1 x2 x3 x4 x5 x6 x7 x8 x9 x10 x11 e7 p w_ r => ih g s' d' i' a b z' o' q x1 x2 x3 x4 x5 x6 x7 x8 x9 x10 x11 (cZs_op hb hZ hE q p w_ e7 r (by rw [h3]; rfl))) er
      · exact co7_19_39 hT hO w x z o hv hX hK hP hb hl hs hd hz bs bd bz bzd ho hx h0 h1 h3 (fun g s' d' i' a b z' o' K u v j q x1 x2 x3 x4 x5 x6 x7 x8 x9 x10 x11 e7 p w_ r => ih g s' d' i' a b z' o' q x1 x2 x3 x4 x5 x6 x7 x8 x9 x10 x11 (cZs_op hb hZ hE q p w_ e7 r (by rw [h3]; rfl))) er
      · exact co7_21_39 hT hO w x z o hv hX hK hP hb hl hs hd hz bs bd bz bzd ho hx h0 h1 h3 (fun g s' d' i' a b z' o' K u v j q x1 x2 x3 x4 x5 x6 x7 x8 x9 x10 x11 e7 p w_ r => ih g s' d' i' a b z' o' q x1 x2 x3 x4 x5 x6 x7 x8 x9 x10 x11 (cZs_st hb hZ hE q p w_ e7 r (by rw [h3]; rfl))) er
theorem co7_text_39 {D : zD} {T : zT} (hT : hTab T) (hO : vOK T) {N : Nat} {h : zH} {B : Nat → Int} {n : Nat} {P : PT} (hB : TXc B n h) (hn : (n : Int) ≤ (h 10 1).2) (hP : cP 39 P h) (hb : lB P) : vP D T N 88 0 h [some (2, 17), some (2, 39), some (0, (n : Int)), none, none] [] (cOx7 B n P h) := by
  refine vP_hv (fun hv => co_text0_39 hT hO hv hB hn ?_)
  intro g m τ f hK hX
  have hP1 : cP 39 P g := hP.eq (fun a b h1 h2 => (f a b (fun c => by omega)).trans ((zset_ne (fun c => by omega)).trans ((zset_ne (fun c => by omega)).trans ((zset_ne (fun c => by omega)).trans (zset_ne (fun c => by omega))))))
  have f0 : ∀ g', oFr g g' → oXr h g' := fun g' f' a b hn => by
    rw [f' a b (fun c => hn (by omega)), f a b (fun c => hn (by omega)), zset_ne (fun c => hn (by omega)), zset_ne (fun c => hn (by omega)), zset_ne (fun c => hn (by omega)), zset_ne (fun c => hn (by omega))]
  refine vP_loop (fun h' l => ∃ (x : Nat) (s d i : Nat) (z : Int) (o : Option zV), l = [some (2, 17), some (2, 39), some (0, (n : Int)), some (0, (x : Int)), o] ∧ 2 * x ≤ i ∧ cX B n m τ i h' ∧ cP 39 P h' ∧ h' 17 2 = (2, 39) ∧ h' 18 1 = (0, (s : Int)) ∧ h' 17 4 = (0, (d : Int)) ∧ h' 18 0 = (0, z) ∧ (s ≤ 30 ∧ d ≤ 3 ∧ 0 ≤ z ∧ z + d ≤ 2 * s) ∧ (∀ e : Nat, e < d → 0 ≤ (h' 23 e).2 ∧ (h' 23 e).2 < z) ∧ oFr g h' ∧ cZs τ P h' s d i z) ?_ N _ _ ⟨0, 0, 0, 0, 0, none, rfl, by decide, hX, hP1, ?_, ?_, ?_, ?_, ⟨by decide, by decide, by decide, by decide⟩, fun e he => absurd he (by omega), oFr.rfl, cZs_0⟩
  · rintro N h' l ⟨x, s, d, i, z, o, rfl, hxi, hX', hP', hl, hs, hd, hz, ⟨b1, b2, b3, b4⟩, ho, hF, hZ⟩ ih
    have him := hX'.im
    by_cases h0 : τ 0 i = 0
    · refine vP_hv (fun hv => co_exit_39 hT hO n x o d hv hX' hd (bEn_y.mpr h0) (by omega) ?_ ?_)
      · intro c
        obtain ⟨Z, t, ib, z1, z2, z3, z4, z5, z6, z7⟩ := hZ
        cases Z with
        | cons y Z =>
          have l : (y :: Z).length = Z.length + 1 := rfl
          omega
        | nil =>
          have z1 : ib = 0 := z1
          have e1 : zN [] = 0 := rfl
          have e2 : zSs [] = 0 := rfl
          subst z1
          rw [e1] at z4 z5
          rw [e2] at z6
          refine ⟨m, τ, hK, Or.inr ⟨t, i, z2, h0, rfl, z4, ?_, ?_, by omega, by omega, hX'.fl, hX'.pl⟩, f0 _ hF⟩
          · rw [show ((tS t : Nat) : Int) = (s : Int) from by omega]; exact hs
          · rw [show ((tN t : Nat) : Int) = z from by omega]; exact hz
      · intro c g3 f3 c3
        exact ⟨m, τ, hK, Or.inl ⟨_, rfl, c3⟩, f0 _ (hF.t f3)⟩
    · refine co7_turn_39 hT hO n x z o hX' hK hP' hb hl hs hd hz b1 b2 b3 b4 ho ⟨by omega, by omega⟩ h0 hZ ?_ ?_
      · intro g3 s' d' i' a b z' o' q hX3 hP3 hl3 hs3 ha hd3 hb3 hz3 hbd ho3 f3 hZ3
        subst ha hb3
        have hi := pStep_i q
        exact ih _ _ ⟨x + 1, s', d', i', z', o', rfl, by omega, hX3, hP3, hl3, hs3, hd3, hz3, hbd, ho3, hF.trans f3, hZ3⟩
      · intro g3 e q c3 f3
        exact ⟨m, τ, hK, Or.inl ⟨e, rfl, c3⟩, f0 _ (hF.trans f3)⟩
  · exact (f 17 2 (fun c => by omega)).trans ((zset_ne (by decide)).trans ((zset_ne (by decide)).trans ((zset_ne (by decide)).trans zset_same)))
  · exact (f 18 1 (fun c => by omega)).trans ((zset_ne (by decide)).trans zset_same)
  · exact (f 17 4 (fun c => by omega)).trans zset_same
  · exact (f 18 0 (fun c => by omega)).trans ((zset_ne (by decide)).trans ((zset_ne (by decide)).trans zset_same))
theorem qc_ord7_39 {D : zD} {T : zT} (hT : hTab T) (hO : vOK T) {N : Nat} {h : zH} {Q : zR → Prop} {B : Nat → Int} {n : Nat} {P : PT} (hv0 : zHv h) (hB : TXc B n h) (hP : cP 39 P h) (hb : lB P) (e7 : h 0 7 = (2, 39)) (hn : (n : Int) ≤ (h 10 1).2) (hn3 : (n : Int) ≤ 300)
    (k0 : ∀ (g4 : zH) (m : Nat) (τ : PT) (t : OT) (i : Nat), (oXr h g4) → (Tks B n m τ) → (oSp τ P t 0 i) → (τ 0 i = 0) → (cLay 8 g4 t 0) → (g4 18 1 = (0, ((tS t : Nat) : Int))) → (g4 18 0 = (0, ((tN t : Nat) : Int))) → (tS t ≤ 30) → (tN t ≤ 60) → (g4 10 7 = (0, 0)) → (g4 10 8 = (0, -1)) → Q (zset (zcopy (zcopy (zcopy (zcopy (zset (zset (zset (zset (zset g4 10 1 (0, 0)) 10 9 (0, 0)) 10 10 (0, -1)) 49 0 (0, ((tN t : Nat) : Int))) 49 1 (0, ((tS t : Nat) : Int))) 19 0 50 0 60) 20 0 51 0 60) 21 0 52 0 60) 22 0 53 0 60) 0 0 (0, 0), some (0, ((tS t : Nat) : Int))))
    (k1 : ∀ (g5 : zH) (m : Nat) (τ : PT) (e5 : Er), (oXr h g5) → (Tks B n m τ) → (cB e5 g5) → Q (zset (zset (zset (zset g5 10 1 (0, 0)) 10 9 (0, e5.1)) 10 10 (0, e5.2)) 0 0 (0, 10), some (0, -1))) :
    vP D T N 170 0 h [some (2, 0), some (0, (n : Int)), none] [] Q := by
  refine v_load (v := (0, (n : Int))) (hz_X11_orders hT _ _ rfl) rfl rfl ?_
  refine v_if (hz_X11_orders hT _ _ rfl) (fun hc1 => absurd (show (n : Int) < 0 from hc1) (by omega)) (fun _ => ?_)
  refine v_load (v := (0, (n : Int))) (hz_X11_orders hT _ _ rfl) rfl rfl ?_
  refine v_load (v := (2, 0)) (hz_X11_orders hT _ _ rfl) rfl rfl ?_
  refine v_getR (c := 10) (r := 0) (hz_X11_orders hT _ _ rfl) rfl rfl rfl ?_
  refine v_getI (t := 0) (r := 10) (hz_X11_orders hT _ _ rfl) rfl rfl rfl ?_
  refine v_ic (hz_X11_orders hT _ _ rfl) (fun hc2 => absurd (show (h 10 1).2 < (n : Int) from hc2) (by omega)) (fun _ => ?_)
  refine v_load (v := (0, (n : Int))) (hz_X11_orders hT _ _ rfl) rfl rfl ?_
  refine v_push (300) (hz_X11_orders hT _ _ rfl) rfl ?_
  refine v_ic (hz_X11_orders hT _ _ rfl) (fun hc3 => absurd (show 300 < (n : Int) from hc3) (by omega)) (fun _ => ?_)
  refine v_load (v := (2, 0)) (hz_X11_orders hT _ _ rfl) rfl rfl ?_
  refine v_getR (c := 17) (r := 0) (hz_X11_orders hT _ _ rfl) rfl rfl rfl ?_
  refine v_load (v := (2, 0)) (hz_X11_orders hT _ _ rfl) rfl rfl ?_
  refine v_getf (v := (2, 39)) (r := 0) (hz_X11_orders hT _ _ rfl) rfl rfl (fun _ => e7) ?_
  refine v_load (v := (0, (n : Int))) (hz_X11_orders hT _ _ rfl) rfl rfl ?_
  refine v_call (w := 5) [some (2, 17), some (2, 39), some (0, (n : Int)), none, none] hO (hz_X11_orders hT _ _ rfl) rfl rfl (cOx7_k (co7_text_39 hT hO hB (by omega) hP hb) (fun g4 m τ t i xf4 hK4 qs4 qz4 ql4 sa4 sb4 ba4 bb4 da4 db4 => ?_) (fun g5 m τ e5 xf5 hK5 c5 => ?_))
  · show vP D T N 170 40 g4 [some (2, 0), some (0, (n : Int)), none] [(0, 1)] _
    refine vP_hv (fun hv4 => ?_)
    refine v_store1 [some (2, 0), some (0, (n : Int)), some (0, 1)] (hz_X11_orders hT _ _ rfl) ⟨rfl, Nat.ne_of_beq_eq_false rfl⟩ (Nat.le_of_ble_eq_true rfl) rfl ?_
    refine v_load (v := (2, 0)) (hz_X11_orders hT _ _ rfl) rfl rfl ?_
    refine v_getR (c := 10) (r := 0) (hz_X11_orders hT _ _ rfl) rfl rfl rfl ?_
    refine v_call (w := 1) [some (2, 10)] hO (hz_X11_orders hT _ _ rfl) rfl rfl ?_
    refine v_load (v := (2, 10)) (hz_X8_finishText hT _ _ rfl) rfl rfl ?_
    refine v_push (0) (hz_X8_finishText hT _ _ rfl) rfl ?_
    refine v_putf (r := 10) hO (hz_X8_finishText hT _ _ rfl) rfl (fun hf6 => ?_)
    refine v_load (v := (2, 10)) (hz_X8_finishText hT _ _ rfl) rfl rfl ?_
    refine v_load (v := (2, 10)) (hz_X8_finishText hT _ _ rfl) rfl rfl ?_
    refine v_getf (v := (0, 0)) (r := 10) (hz_X8_finishText hT _ _ rfl) rfl rfl (fun _ => Eq.trans (zset_ne (fun c => absurd c.2 (by decide))) (da4)) ?_
    refine v_putf (r := 10) hO (hz_X8_finishText hT _ _ rfl) rfl (fun hf7 => ?_)
    refine v_load (v := (2, 10)) (hz_X8_finishText hT _ _ rfl) rfl rfl ?_
    refine v_load (v := (2, 10)) (hz_X8_finishText hT _ _ rfl) rfl rfl ?_
    refine v_getf (v := (0, -1)) (r := 10) (hz_X8_finishText hT _ _ rfl) rfl rfl (fun _ => Eq.trans (Eq.trans (zset_ne (fun c => absurd c.2 (by decide))) (zset_ne (fun c => absurd c.2 (by decide)))) (db4)) ?_
    refine v_putf (r := 10) hO (hz_X8_finishText hT _ _ rfl) rfl (fun hf8 => ?_)
    refine v_ret0 (hz_X8_finishText hT _ _ rfl) ?_
    show vP D T N 170 48 (zset (zset (zset g4 10 1 (0, 0)) 10 9 (0, 0)) 10 10 (0, -1)) [some (2, 0), some (0, (n : Int)), some (0, 1)] [] _
    refine v_load (v := (0, 1)) (hz_X11_orders hT _ _ rfl) rfl rfl ?_
    refine v_if (hz_X11_orders hT _ _ rfl) (fun hc9 => absurd (show (1 : Int) = 0 from hc9) (by omega)) (fun _ => ?_)
    refine v_load (v := (2, 0)) (hz_X11_orders hT _ _ rfl) rfl rfl ?_
    refine v_getf (v := (2, 39)) (r := 0) (hz_X11_orders hT _ _ rfl) rfl rfl (fun _ => Eq.trans (Eq.trans (zset_ne (fun c => absurd c.1 (by decide))) (Eq.trans (zset_ne (fun c => absurd c.1 (by decide))) (zset_ne (fun c => absurd c.1 (by decide))))) ((Eq.trans (xf4 0 7 (fun c => by omega)) e7))) ?_
    refine v_getR (c := 49) (r := 39) (hz_X11_orders hT _ _ rfl) rfl rfl rfl ?_
    refine v_load (v := (2, 0)) (hz_X11_orders hT _ _ rfl) rfl rfl ?_
    refine v_getR (c := 17) (r := 0) (hz_X11_orders hT _ _ rfl) rfl rfl rfl ?_
    refine v_getR (c := 18) (r := 17) (hz_X11_orders hT _ _ rfl) rfl rfl rfl ?_
    refine v_call (w := 2) [some (2, 49), some (2, 18)] hO (hz_X11_orders hT _ _ rfl) rfl rfl ?_
    refine v_load (v := (2, 49)) (hz_X5_becomeLike hT _ _ rfl) rfl rfl ?_
    refine v_load (v := (2, 18)) (hz_X5_becomeLike hT _ _ rfl) rfl rfl ?_
    refine v_getf (v := (0, ((tN t : Nat) : Int))) (r := 18) (hz_X5_becomeLike hT _ _ rfl) rfl rfl (fun _ => Eq.trans (Eq.trans (zset_ne (fun c => absurd c.1 (by decide))) (Eq.trans (zset_ne (fun c => absurd c.1 (by decide))) (zset_ne (fun c => absurd c.1 (by decide))))) (sb4)) ?_
    refine v_putf (r := 49) hO (hz_X5_becomeLike hT _ _ rfl) rfl (fun hf10 => ?_)
    refine v_load (v := (2, 49)) (hz_X5_becomeLike hT _ _ rfl) rfl rfl ?_
    refine v_load (v := (2, 18)) (hz_X5_becomeLike hT _ _ rfl) rfl rfl ?_
    refine v_getf (v := (0, ((tS t : Nat) : Int))) (r := 18) (hz_X5_becomeLike hT _ _ rfl) rfl rfl (fun _ => Eq.trans (Eq.trans (zset_ne (fun c => absurd c.1 (by decide))) (Eq.trans (zset_ne (fun c => absurd c.1 (by decide))) (Eq.trans (zset_ne (fun c => absurd c.1 (by decide))) (zset_ne (fun c => absurd c.1 (by decide)))))) (sa4)) ?_
    refine v_putf (r := 49) hO (hz_X5_becomeLike hT _ _ rfl) rfl (fun hf11 => ?_)
    refine v_load (v := (2, 18)) (hz_X5_becomeLike hT _ _ rfl) rfl rfl ?_
    refine v_getR (c := 19) (r := 18) (hz_X5_becomeLike hT _ _ rfl) rfl rfl rfl ?_
    refine v_push (0) (hz_X5_becomeLike hT _ _ rfl) rfl ?_
    refine v_load (v := (2, 49)) (hz_X5_becomeLike hT _ _ rfl) rfl rfl ?_
    refine v_getR (c := 50) (r := 49) (hz_X5_becomeLike hT _ _ rfl) rfl rfl rfl ?_
    refine v_push (0) (hz_X5_becomeLike hT _ _ rfl) rfl ?_
    refine v_push (60) (hz_X5_becomeLike hT _ _ rfl) rfl ?_
    refine v_copy (r0 := 19) (r1 := 50) (hz_X5_becomeLike hT _ _ rfl) rfl rfl rfl rfl (fun hd12 hd13 hd14 hd15 hd16 => ?_)
    refine v_load (v := (2, 18)) (hz_X5_becomeLike hT _ _ rfl) rfl rfl ?_
    refine v_getR (c := 20) (r := 18) (hz_X5_becomeLike hT _ _ rfl) rfl rfl rfl ?_
    refine v_push (0) (hz_X5_becomeLike hT _ _ rfl) rfl ?_
    refine v_load (v := (2, 49)) (hz_X5_becomeLike hT _ _ rfl) rfl rfl ?_
    refine v_getR (c := 51) (r := 49) (hz_X5_becomeLike hT _ _ rfl) rfl rfl rfl ?_
    refine v_push (0) (hz_X5_becomeLike hT _ _ rfl) rfl ?_
    refine v_push (60) (hz_X5_becomeLike hT _ _ rfl) rfl ?_
    refine v_copy (r0 := 20) (r1 := 51) (hz_X5_becomeLike hT _ _ rfl) rfl rfl rfl rfl (fun hd17 hd18 hd19 hd20 hd21 => ?_)
    refine v_load (v := (2, 18)) (hz_X5_becomeLike hT _ _ rfl) rfl rfl ?_
    refine v_getR (c := 21) (r := 18) (hz_X5_becomeLike hT _ _ rfl) rfl rfl rfl ?_
    refine v_push (0) (hz_X5_becomeLike hT _ _ rfl) rfl ?_
    refine v_load (v := (2, 49)) (hz_X5_becomeLike hT _ _ rfl) rfl rfl ?_
    refine v_getR (c := 52) (r := 49) (hz_X5_becomeLike hT _ _ rfl) rfl rfl rfl ?_
    refine v_push (0) (hz_X5_becomeLike hT _ _ rfl) rfl ?_
    refine v_push (60) (hz_X5_becomeLike hT _ _ rfl) rfl ?_
    refine v_copy (r0 := 21) (r1 := 52) (hz_X5_becomeLike hT _ _ rfl) rfl rfl rfl rfl (fun hd22 hd23 hd24 hd25 hd26 => ?_)
    refine v_load (v := (2, 18)) (hz_X5_becomeLike hT _ _ rfl) rfl rfl ?_
    refine v_getR (c := 22) (r := 18) (hz_X5_becomeLike hT _ _ rfl) rfl rfl rfl ?_
    refine v_push (0) (hz_X5_becomeLike hT _ _ rfl) rfl ?_
    refine v_load (v := (2, 49)) (hz_X5_becomeLike hT _ _ rfl) rfl rfl ?_
    refine v_getR (c := 53) (r := 49) (hz_X5_becomeLike hT _ _ rfl) rfl rfl rfl ?_
    refine v_push (0) (hz_X5_becomeLike hT _ _ rfl) rfl ?_
    refine v_push (60) (hz_X5_becomeLike hT _ _ rfl) rfl ?_
    refine v_copy (r0 := 22) (r1 := 53) (hz_X5_becomeLike hT _ _ rfl) rfl rfl rfl rfl (fun hd27 hd28 hd29 hd30 hd31 => ?_)
    refine v_ret0 (hz_X5_becomeLike hT _ _ rfl) ?_
    show vP D T N 170 76 (zcopy (zcopy (zcopy (zcopy (zset (zset (zset (zset (zset g4 10 1 (0, 0)) 10 9 (0, 0)) 10 10 (0, -1)) 49 0 (0, ((tN t : Nat) : Int))) 49 1 (0, ((tS t : Nat) : Int))) 19 0 50 0 60) 20 0 51 0 60) 21 0 52 0 60) 22 0 53 0 60) [some (2, 0), some (0, (n : Int)), some (0, 1)] [] _
    refine v_load (v := (2, 0)) (hz_X11_orders hT _ _ rfl) rfl rfl ?_
    refine v_load (v := (2, 0)) (hz_X11_orders hT _ _ rfl) rfl rfl ?_
    refine v_getf (v := (2, 39)) (r := 0) (hz_X11_orders hT _ _ rfl) rfl rfl (fun _ => Eq.trans (Eq.trans (vcopy_ne (fun c => absurd c.1 (by decide))) (Eq.trans (vcopy_ne (fun c => absurd c.1 (by decide))) (Eq.trans (vcopy_ne (fun c => absurd c.1 (by decide))) (Eq.trans (vcopy_ne (fun c => absurd c.1 (by decide))) (Eq.trans (zset_ne (fun c => absurd c.1 (by decide))) (Eq.trans (zset_ne (fun c => absurd c.1 (by decide))) (Eq.trans (zset_ne (fun c => absurd c.1 (by decide))) (Eq.trans (zset_ne (fun c => absurd c.1 (by decide))) (zset_ne (fun c => absurd c.1 (by decide))))))))))) ((Eq.trans (xf4 0 7 (fun c => by omega)) e7))) ?_
    refine v_getR (c := 49) (r := 39) (hz_X11_orders hT _ _ rfl) rfl rfl rfl ?_
    refine v_getf (v := (0, ((tS t : Nat) : Int))) (r := 49) (hz_X11_orders hT _ _ rfl) rfl rfl (fun _ => Eq.trans (Eq.trans (vcopy_ne (fun c => absurd c.1 (by decide))) (Eq.trans (vcopy_ne (fun c => absurd c.1 (by decide))) (Eq.trans (vcopy_ne (fun c => absurd c.1 (by decide))) (vcopy_ne (fun c => absurd c.1 (by decide)))))) zset_same) ?_
    refine v_call (w := 2) [some (2, 0), some (0, ((tS t : Nat) : Int))] hO (hz_X11_orders hT _ _ rfl) rfl rfl ?_
    refine v_load (v := (2, 0)) (hz_X11_answer hT _ _ rfl) rfl rfl ?_
    refine v_push (0) (hz_X11_answer hT _ _ rfl) rfl ?_
    refine v_putf (r := 0) hO (hz_X11_answer hT _ _ rfl) rfl (fun hf32 => ?_)
    refine v_load (v := (0, ((tS t : Nat) : Int))) (hz_X11_answer hT _ _ rfl) rfl rfl ?_
    refine v_ret (hz_X11_answer hT _ _ rfl) (Or.inl rfl) ?_
    show vP D T N 170 90 (zset (zcopy (zcopy (zcopy (zcopy (zset (zset (zset (zset (zset g4 10 1 (0, 0)) 10 9 (0, 0)) 10 10 (0, -1)) 49 0 (0, ((tN t : Nat) : Int))) 49 1 (0, ((tS t : Nat) : Int))) 19 0 50 0 60) 20 0 51 0 60) 21 0 52 0 60) 22 0 53 0 60) 0 0 (0, 0)) [some (2, 0), some (0, (n : Int)), some (0, 1)] [(0, ((tS t : Nat) : Int))] _
    refine v_ret (hz_X11_orders hT _ _ rfl) (Or.inl rfl) ?_
    exact k0 g4 m τ t i xf4 hK4 qs4 qz4 ql4 sa4 sb4 ba4 bb4 da4 db4
  · show vP D T N 170 40 g5 [some (2, 0), some (0, (n : Int)), none] [(0, 0)] _
    refine vP_hv (fun hv5 => ?_)
    refine v_store1 [some (2, 0), some (0, (n : Int)), some (0, 0)] (hz_X11_orders hT _ _ rfl) ⟨rfl, Nat.ne_of_beq_eq_false rfl⟩ (Nat.le_of_ble_eq_true rfl) rfl ?_
    refine v_load (v := (2, 0)) (hz_X11_orders hT _ _ rfl) rfl rfl ?_
    refine v_getR (c := 10) (r := 0) (hz_X11_orders hT _ _ rfl) rfl rfl rfl ?_
    refine v_call (w := 1) [some (2, 10)] hO (hz_X11_orders hT _ _ rfl) rfl rfl ?_
    refine v_load (v := (2, 10)) (hz_X8_finishText hT _ _ rfl) rfl rfl ?_
    refine v_push (0) (hz_X8_finishText hT _ _ rfl) rfl ?_
    refine v_putf (r := 10) hO (hz_X8_finishText hT _ _ rfl) rfl (fun hf33 => ?_)
    refine v_load (v := (2, 10)) (hz_X8_finishText hT _ _ rfl) rfl rfl ?_
    refine v_load (v := (2, 10)) (hz_X8_finishText hT _ _ rfl) rfl rfl ?_
    refine v_getf (v := (0, e5.1)) (r := 10) (hz_X8_finishText hT _ _ rfl) rfl rfl (fun _ => Eq.trans (zset_ne (fun c => absurd c.2 (by decide))) (c5.1)) ?_
    refine v_putf (r := 10) hO (hz_X8_finishText hT _ _ rfl) rfl (fun hf34 => ?_)
    refine v_load (v := (2, 10)) (hz_X8_finishText hT _ _ rfl) rfl rfl ?_
    refine v_load (v := (2, 10)) (hz_X8_finishText hT _ _ rfl) rfl rfl ?_
    refine v_getf (v := (0, e5.2)) (r := 10) (hz_X8_finishText hT _ _ rfl) rfl rfl (fun _ => Eq.trans (Eq.trans (zset_ne (fun c => absurd c.2 (by decide))) (zset_ne (fun c => absurd c.2 (by decide)))) (c5.2)) ?_
    refine v_putf (r := 10) hO (hz_X8_finishText hT _ _ rfl) rfl (fun hf35 => ?_)
    refine v_ret0 (hz_X8_finishText hT _ _ rfl) ?_
    show vP D T N 170 48 (zset (zset (zset g5 10 1 (0, 0)) 10 9 (0, e5.1)) 10 10 (0, e5.2)) [some (2, 0), some (0, (n : Int)), some (0, 0)] [] _
    refine v_load (v := (0, 0)) (hz_X11_orders hT _ _ rfl) rfl rfl ?_
    refine v_if (hz_X11_orders hT _ _ rfl) (fun _ => ?_) (fun hc36 => absurd (show (0 : Int) = 0 from (by omega)) hc36)
    refine v_load (v := (2, 0)) (hz_X11_orders hT _ _ rfl) rfl rfl ?_
    refine v_push (10) (hz_X11_orders hT _ _ rfl) rfl ?_
    refine v_call (w := 2) [some (2, 0), some (0, 10)] hO (hz_X11_orders hT _ _ rfl) rfl rfl ?_
    refine v_load (v := (2, 0)) (hz_X11_refused hT _ _ rfl) rfl rfl ?_
    refine v_load (v := (0, 10)) (hz_X11_refused hT _ _ rfl) rfl rfl ?_
    refine v_putf (r := 0) hO (hz_X11_refused hT _ _ rfl) rfl (fun hf37 => ?_)
    refine v_push (-1) (hz_X11_refused hT _ _ rfl) rfl ?_
    refine v_ret (hz_X11_refused hT _ _ rfl) (Or.inl rfl) ?_
    show vP D T N 170 58 (zset (zset (zset (zset g5 10 1 (0, 0)) 10 9 (0, e5.1)) 10 10 (0, e5.2)) 0 0 (0, 10)) [some (2, 0), some (0, (n : Int)), some (0, 0)] [(0, -1)] _
    refine v_ret (hz_X11_orders hT _ _ rfl) (Or.inl rfl) ?_
    exact k1 g5 m τ e5 xf5 hK5 c5
theorem co7_ord_39 {D : zD} {T : zT} (hT : hTab T) (hO : vOK T) {N : Nat} {h : zH} {B : Nat → Int} {n : Nat} {P : PT} (hB : TXc B n h) (hP : cP 39 P h) (hb : lB P) (e7 : h 0 7 = (2, 39)) (hn : (n : Int) ≤ (h 10 1).2) (hn3 : (n : Int) ≤ 300) : vP D T N 170 0 h [some (2, 0), some (0, (n : Int)), none] [] (cOd7 39 B n P h) := by
  refine vP_hv (fun hv => qc_ord7_39 hT hO hv hB hP hb e7 hn hn3 ?_ ?_)
  · intro g m τ t i xf hK qs q0 ql s1 s0 b3 b6 d7 d8
    refine ⟨m, τ, hK, Or.inr ⟨t, i, qs, q0, rfl, b3, b6, ?_, ?_, ?_⟩⟩
    · dsimp only
      exact (zset_ne (by decide)).trans ((vcopy_ne (by decide)).trans ((vcopy_ne (by decide)).trans ((vcopy_ne (by decide)).trans ((vcopy_ne (by decide)).trans ((zset_ne (by decide)).trans zset_same)))))
    · dsimp only
      exact (zset_ne (by decide)).trans ((vcopy_ne (by decide)).trans ((vcopy_ne (by decide)).trans ((vcopy_ne (by decide)).trans ((vcopy_ne (by decide)).trans zset_same))))
    · dsimp only
      refine ql.tr (fun j k h1 h2 h3 => ?_) (by omega)
      have hj : j = 11 ∨ j = 12 ∨ j = 13 ∨ j = 14 := by omega
      have z5 : ∀ a, 19 ≤ a → a ≤ 22 → zset (zset (zset (zset (zset g 10 1 (0, 0)) 10 9 (0, 0)) 10 10 (0, -1)) 49 0 (0, ((tN t : Nat) : Int))) 49 1 (0, ((tS t : Nat) : Int)) a k = g a k := fun a ha1 ha2 => by
        rw [zset_ne (fun c => by omega), zset_ne (fun c => by omega), zset_ne (fun c => by omega), zset_ne (fun c => by omega), zset_ne (fun c => by omega)]
      rcases hj with rfl | rfl | rfl | rfl
      · exact (zset_ne (fun c => by omega)).trans ((vcopy_ne (fun c => by omega)).trans ((vcopy_ne (fun c => by omega)).trans ((vcopy_ne (fun c => by omega)).trans ((vcopy_at0 h3).trans (z5 19 (by decide) (by decide))))))
      · exact (zset_ne (fun c => by omega)).trans ((vcopy_ne (fun c => by omega)).trans ((vcopy_ne (fun c => by omega)).trans ((vcopy_at0 h3).trans ((vcopy_ne (fun c => by omega)).trans (z5 20 (by decide) (by decide))))))
      · exact (zset_ne (fun c => by omega)).trans ((vcopy_ne (fun c => by omega)).trans ((vcopy_at0 h3).trans ((vcopy_ne (fun c => by omega)).trans ((vcopy_ne (fun c => by omega)).trans (z5 21 (by decide) (by decide))))))
      · exact (zset_ne (fun c => by omega)).trans ((vcopy_at0 h3).trans ((vcopy_ne (fun c => by omega)).trans ((vcopy_ne (fun c => by omega)).trans ((vcopy_ne (fun c => by omega)).trans (z5 22 (by decide) (by decide))))))
  · intro g m τ e xf hK c
    refine ⟨m, τ, hK, Or.inl ⟨rfl, fun a j ha1 ha2 => ?_⟩⟩
    show zset (zset (zset (zset g 10 1 (0, 0)) 10 9 (0, e.1)) 10 10 (0, e.2)) 0 0 (0, 10) a j = h a j
    rw [zset_ne (fun c => by omega), zset_ne (fun c => by omega), zset_ne (fun c => by omega), zset_ne (fun c => by omega)]
    exact xf a j (fun c => by omega)
