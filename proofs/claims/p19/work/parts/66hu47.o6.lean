theorem rIt_mk {P : PT} (lb : lB P) {g : zH} {s k a b : Nat} (h : rI7 (P 0 0) g s (k : Int) (a : Int) (b : Int)) : rIt 2200 (P 0 0).toNat g k a b s := by
  obtain ⟨h1, h2, h3, h4, h5, h6⟩ := h
  refine ⟨h1, fun c => h2 ⟨by omega, by omega, by omega⟩, fun c => ?_, fun c => h4 (by omega), fun c => h5 (by omega), fun c => h6 (by omega)⟩
  have e := h3 (by omega)
  have j := gJ_i lb.1.1 b
  have q : P 0 0 * ((b : Int) / 8) + (b : Int) % 8 = ((gJ P b : Nat) : Int) := by
    rw [j, show ((b / 8 : Nat) : Int) = (b : Int) / 8 from by omega, show ((b % 8 : Nat) : Int) = (b : Int) % 8 from by omega]
  rw [q] at e
  exact e
theorem rIt.mv {w : Nat} {h : zH} {k a b s : Nat} (g : rIt 2200 w h k a b s) (f : ∀ j, 9 * s ≤ j → j < 9 * s + 9 → h 126 (277 + j) = h 126 (2477 + j)) : rIt 0 w h k a b s := by
  have e : ∀ x, x ≤ 8 → h 126 (0 + (277 + x) + 9 * s) = h 126 (2200 + (277 + x) + 9 * s) := fun x hx => by
    have := f (9 * s + x) (by omega) (by omega)
    rw [show 0 + (277 + x) + 9 * s = 277 + (9 * s + x) from by omega, show 2200 + (277 + x) + 9 * s = 2477 + (9 * s + x) from by omega]
    exact this
  obtain ⟨g1, g2, g3, g4, g5, g6⟩ := g
  exact ⟨(e 0 (by omega)).trans g1, fun c => (e 1 (by omega)).trans (g2 c), fun c => (e 2 (by omega)).trans (g3 c), fun c => (e 2 (by omega)).trans (g4 c), fun c => (e 6 (by omega)).trans (g5 c), fun c => (e 7 (by omega)).trans (g6 c)⟩
theorem rLay.mv {w : Nat} {h : zH} : ∀ (t : OT) {s : Nat}, rLay 2200 w h t s → (∀ j, 9 * s ≤ j → j < 9 * (s + tS t) → h 126 (277 + j) = h 126 (2477 + j)) → rLay 0 w h t s
  | .leaf _, _, _, _ => trivial
  | .branch d y r, s, g, f => by
    have e8 : 1 ≤ tS (.branch d y r) → h 126 (0 + 285 + 9 * s) = h 126 (2200 + 285 + 9 * s) := fun c => by
      have := f (9 * s + 8) (by omega) (by omega)
      rw [show 0 + 285 + 9 * s = 277 + (9 * s + 8) from by omega, show 2200 + 285 + 9 * s = 2477 + (9 * s + 8) from by omega]
      exact this
    by_cases hB : oB d
    · rw [tS_b hB] at f e8
      rw [rLay_b hB ⟨rfl, rfl, rfl⟩] at g ⊢
      obtain ⟨g1, g2, g3, g4⟩ := g
      exact ⟨g1.mv (fun e h1 h2 => f e (by omega) (by omega)), (e8 (by omega)).trans g2, rLay.mv y g3 (fun e h1 h2 => f e (by omega) (by omega)), rLay.mv r g4 (fun e h1 h2 => f e (by omega) (by omega))⟩
    · rw [tS_a hB] at f e8
      rw [rLay_a hB ⟨rfl, rfl, rfl⟩] at g ⊢
      obtain ⟨g1, g2, g3⟩ := g
      exact ⟨g1.mv (fun e h1 h2 => f e (by omega) (by omega)), (e8 (by omega)).trans g2, rLay.mv r g3 (fun e h1 h2 => f e (by omega) (by omega))⟩
def rSt7 (B : Nat → Int) (n m : Nat) (τ P : PT) (s i : Nat) (h0 : zH) (x : zR) : Prop := x.2 = none ∧ roF h0 x.1 ∧ ((∃ e, rE e x.1) ∨ (∃ (s' i' dc : Nat) (y : OT), oRI B n m τ P s' i' x.1 ∧ s' = s + tS (.branch dc y oNil) ∧ oSp τ P (.branch dc y oNil) i i' ∧ rLay 2200 (P 0 0).toNat x.1 (.branch dc y oNil) s ∧ ∀ e, e < 2477 + 9 * s → x.1 126 e = h0 126 e))
theorem rS7_st {B : Nat → Int} {n m : Nat} {τ P : PT} {h g : zH} {s d i s' d' i' : Nat} {a K u v : Int} {j : Nat} (lb : lB P) (o : oRI B n m τ P s i h) (hE : bW τ 20 i = 0) (hop : opW (τ 3 i) = false) (q : pStep τ P s d i = .inr (s', d', i')) (hX : rX B n m τ i' g) (hs : g 121 25 = (0, a)) (ha : a = (s' : Int)) (b : s' ≤ 30) (f : roF h g) (p : pItV τ P i = .inr (K, u, v, j)) (fr : ∀ e, ¬ (2477 + 9 * s ≤ e ∧ e < 2486 + 9 * s) → g 126 e = h 126 e) (w : rI7 (P 0 0) g s K u v) (e8 : g 126 (2485 + 9 * s) = (0, (s : Int) + 1)) : rSt7 B n m τ P s i h (g, none) := by
  obtain ⟨k, a', b', rfl, rfl, rfl, e4, e5, e6⟩ := oTk_mk lb q hE p
  subst ha
  obtain ⟨p1, p2, p3, p4⟩ := pStep_d q hE
  have hB : ¬ oB (oE k a' b') := fun c => by
    rw [← e6, hop] at c
    cases c
  refine ⟨rfl, f, Or.inr ⟨s', i', oE k a' b', oNil, o.go f hX hs b, ?_, ?_, ?_, fun e he => fr e (by omega)⟩⟩
  · rw [tS_a hB]
    show s' = s + (0 + 1)
    omega
  · rw [oSp_a hB]
    exact ⟨i', e5, rfl, rfl⟩
  · rw [rLay_a hB e4]
    exact ⟨rIt_mk lb w, e8.trans (congrArg (Prod.mk 0) (by omega)), trivial⟩
theorem rx_rs7 {D : zD} {T : zT} (hT : hTab T) (hO : vOK T) {B : Nat → Int} {n m : Nat} {τ P : PT} (hb : lB P) : ∀ N : Nat, (∀ (h : zH) (s d i : Nat), d ≤ 3 → oRI B n m τ P s i h → vP D T N 304 0 h [some (2, 121), some (0, (d : Int)), none, none, none] [] (rSt7 B n m τ P s i h)) ∧ (∀ (h0 h : zH) (s d i s1 i1 ib dc : Nat) (y : OT) (k : Int), d + 1 ≤ 3 → s ≤ 29 → oTk τ P i dc ib → oB dc → oSp τ P y ib i1 → rLay 2200 (P 0 0).toNat h y (s + 1) → s1 = s + 1 + tS y → rIt 2200 (P 0 0).toNat h (dc % 32) (dc / 32 % 128) (dc / 4096) s → (∀ e, e < 2477 + 9 * s → h 126 e = h0 126 e) → oRI B n m τ P s1 i1 h → roF h0 h → vP D T N 304 142 h [some (2, 121), some (0, (d : Int)), some (0, k), some (0, 1), some (0, 2477 + 9 * (s : Int))] [] (rSt7 B n m τ P s i h0)) := by
  intro N
  induction N with
  | zero => exact ⟨fun _ _ _ _ _ _ _ n r hn => absurd hn (Nat.not_lt_zero _), fun _ _ _ _ _ _ _ _ _ _ _ _ _ _ _ _ _ _ _ _ _ _ _ n r hn => absurd hn (Nat.not_lt_zero _)⟩
  | succ N IH =>
    obtain ⟨IH1, IH2⟩ := IH
    refine ⟨fun h s d i hd o => ?_, fun h0 h s d i s1 i1 ib dc y k hd hs0 tk hB sp ly e1 it fr o hF => ?_⟩
    · obtain ⟨hX, ⟨e0, e1, e2, e3⟩, hN, hs, bs⟩ := o
      have o : oRI B n m τ P s i h := ⟨hX, ⟨e0, e1, e2, e3⟩, hN, hs, bs⟩
      refine vP_hv (fun hv => ?_)
      by_cases hsw : swd τ i < 0
      · exact ro_x hT hO hv hX e0 e1 e2 e3 hN hb hs bs hd hsw (fun g e f => ⟨rfl, f, Or.inl ⟨_, e⟩⟩)
      · obtain ⟨h1, h3⟩ := swd_ge.mp (show 0 ≤ swd τ i by omega)
        have hE : bW τ 20 i = 0 := bW_0.mpr (fun c => by omega)
        have er : ∀ g e, pStep τ P s d i = .inl e → rE e g → roF h g → rSt7 B n m τ P s i h (g, none) := fun g e q c f => ⟨rfl, f, Or.inl ⟨e, c⟩⟩
        have ih : opW (τ 3 i) = false → ∀ g s' d' i' a K u v j, pStep τ P s d i = .inr (s', d', i') → rX B n m τ i' g → g 121 25 = (0, a) → a = (s' : Int) → s' ≤ 30 → roF h g → pItV τ P i = .inr (K, u, v, j) → (∀ e, ¬ (2477 + 9 * s ≤ e ∧ e < 2486 + 9 * s) → g 126 e = h 126 e) → rI7 (P 0 0) g s K u v → g 126 (2485 + 9 * s) = (0, (s : Int) + 1) → rSt7 B n m τ P s i h (g, none) := fun hop g s' d' i' a K u v j q hX' hs' ha b f p fr w e8 => rS7_st hb o hE hop q hX' hs' ha b f p fr w e8
        have ihb : opW (τ 3 i) = true → ∀ k : Int, ∀ g s' d' i' a K u v j, pStep τ P s d i = .inr (s', d', i') → rX B n m τ i' g → g 121 25 = (0, a) → a = (s' : Int) → s' ≤ 30 → roF h g → pItV τ P i = .inr (K, u, v, j) → (∀ e, ¬ (2477 + 9 * s ≤ e ∧ e < 2486 + 9 * s) → g 126 e = h 126 e) → rI7 (P 0 0) g s K u v → vP D T N 304 142 g [some (2, 121), some (0, (d : Int)), some (0, k), some (0, 1), some (0, 2477 + 9 * (s : Int))] [] (rSt7 B n m τ P s i h) := fun hop k g s' d' i' a K u v j q hX' hs' ha b f p fr w => by
          obtain ⟨kk, a', b', rfl, rfl, rfl, e4, e5, e6⟩ := oTk_mk hb q hE p
          subst ha
          obtain ⟨p1, p2, p3, p4⟩ := pStep_d q hE
          obtain ⟨p5, p6⟩ := p3 hop
          obtain ⟨d1, d2, d3⟩ := e4
          refine IH2 h g s d i s' i' i' (oE kk a' b') oNil k (by omega) (by omega) e5 (e6.mp hop) rfl trivial p1 ?_ (fun e he => fr e (by omega)) (o.go f hX' hs' b) f
          rw [d1, d2, d3]
          exact rIt_mk hb w
        have hk : τ 3 i = 8 ∨ τ 3 i = 9 ∨ τ 3 i = 10 ∨ τ 3 i = 11 ∨ τ 3 i = 12 ∨ τ 3 i = 13 ∨ τ 3 i = 14 ∨ τ 3 i = 15 ∨ τ 3 i = 19 ∨ τ 3 i = 21 := by omega
        rcases hk with h3 | h3 | h3 | h3 | h3 | h3 | h3 | h3 | h3 | h3
        · exact ro7_8 hT hO hv hX e0 e1 e2 e3 hN hb hs bs hd h1 h3 (ih (by rw [h3]; rfl)) er
        · exact ro7_9 hT hO hv hX e0 e1 e2 e3 hN hb hs bs hd h1 h3 (ih (by rw [h3]; rfl)) er
        · exact ro7_10 hT hO hv hX e0 e1 e2 e3 hN hb hs bs hd h1 h3 (ih (by rw [h3]; rfl)) er
        · exact ro7_11 hT hO hv hX e0 e1 e2 e3 hN hb hs bs hd h1 h3 (ih (by rw [h3]; rfl)) er
        · exact ro7_12 hT hO hv hX e0 e1 e2 e3 hN hb hs bs hd h1 h3 (ih (by rw [h3]; rfl)) er
        · exact ro7_13 hT hO hv hX e0 e1 e2 e3 hN hb hs bs hd h1 h3 (ih (by rw [h3]; rfl)) er
        · exact ro7_14 hT hO hv hX e0 e1 e2 e3 hN hb hs bs hd h1 h3 (ih (by rw [h3]; rfl)) er
        · by_cases htw : twd τ (i + 1) < 0
          · exact ro_15x hT hO hv hX e0 e1 e2 e3 hN hb hs bs hd h1 h3 htw er
          · obtain ⟨h1b, h3b⟩ := twd_ge.mp (show 0 ≤ twd τ (i + 1) by omega)
            have hk : τ 3 (i + 1) = 16 ∨ τ 3 (i + 1) = 17 ∨ τ 3 (i + 1) = 18 := by omega
            rcases hk with h3b | h3b | h3b
            · exact ro7_15_16 hT hO hv hX e0 e1 e2 e3 hN hb hs bs hd h1 h3 h1b h3b (ihb (by rw [h3]; rfl) 7) er
            · exact ro7_15_17 hT hO hv hX e0 e1 e2 e3 hN hb hs bs hd h1 h3 h1b h3b (ihb (by rw [h3]; rfl) 7) er
            · exact ro7_15_18 hT hO hv hX e0 e1 e2 e3 hN hb hs bs hd h1 h3 h1b h3b (ihb (by rw [h3]; rfl) 7) er
        · exact ro7_19 hT hO hv hX e0 e1 e2 e3 hN hb hs bs hd h1 h3 (ihb (by rw [h3]; rfl) 8) er
        · exact ro7_21 hT hO hv hX e0 e1 e2 e3 hN hb hs bs hd h1 h3 (ih (by rw [h3]; rfl)) er
    · obtain ⟨hX, ⟨e0, e1', e2, e3⟩, hN, hs, bs⟩ := o
      have o : oRI B n m τ P s1 i1 h := ⟨hX, ⟨e0, e1', e2, e3⟩, hN, hs, bs⟩
      refine vP_hv (fun hv => ro_loop (n := n) (m := m) (B := B) hT hO k hv hX e0 e1' e2 e3 hN hb hs bs (show d ≤ 3 by omega) hs0 ?_ ?_ ?_ ?_)
      · intro c
        have R := IH1 h s1 (d + 1) i1 hd o
        rw [show ((d + 1 : Nat) : Int) = (d : Int) + 1 from by omega] at R
        refine vP_Q (fun r hr => ?_) R
        obtain ⟨g, v⟩ := r
        obtain ⟨h1, f1, h2⟩ := hr
        have h1 : v = none := h1
        subst h1
        refine vP_hv (fun hv => ro_167 hT hO (d : Int) k 1 (2477 + 9 * (s : Int)) hv ?_)
        rcases h2 with ⟨e, a3⟩ | ⟨s2, i2, dc2, y2, a1, a2, a3, a4, a5⟩
        · have hs2 : g 121 25 = (0, (g 121 25).2) := hv.at rfl
          refine ro_loopB hT hO k _ hv a3 hs2 hs0 ?_
          intro _ _ _ _
          exact ⟨rfl, (hF.trans f1).z (by omega), Or.inl ⟨e, a3.z (by decide)⟩⟩
        · have a5 : ∀ e, e < 2477 + 9 * s1 → g 126 e = h 126 e := a5
          refine IH2 h0 g s d i s2 i2 ib dc (tA y (.branch dc2 y2 oNil)) k hd hs0 tk hB (oSp_A y _ sp a3) (rLay_A y _ (rLay.fr y ly (fun e h1 h2 => a5 e (by omega))) ?_) ?_ (it.fr (fun e h1 h2 => a5 e (by omega))) (fun e he => (a5 e (by omega)).trans (fr e he)) a1 (hF.trans f1)
          · rw [← e1]; exact a4
          · rw [tS_A]; omega
      · intro c g6 f6 _ hX6 g9 f9 c9 hX9 _ _
        have f : roF h (zset g9 126 (2477 + 9 * (s : Int) + 8).toNat (0, (s1 : Int))) := ((roF.rfl.t f6).t f9).z (by omega)
        have ne : ∀ e, e ≠ 2485 + 9 * s → zset g9 126 (2477 + 9 * (s : Int) + 8).toNat (0, (s1 : Int)) 126 e = h 126 e := fun e he => (zset_ne (fun c => he (by omega))).trans ((f9 126 e (fun c => by omega)).trans (f6 126 e (fun c => by omega)))
        have e25 : zset g9 126 (2477 + 9 * (s : Int) + 8).toNat (0, (s1 : Int)) 121 25 = (0, (s1 : Int)) := (zset_ne (fun c => absurd c.1 (by decide))).trans ((f9 121 25 (fun c => by omega)).trans ((f6 121 25 (fun c => by omega)).trans hs))
        refine ⟨rfl, hF.trans f, Or.inr ⟨s1, i1 + 1 + 1, dc, y, o.go f (hX9.z (by decide)) e25 bs, ?_, ?_, ?_, fun e he => (ne e (by omega)).trans (fr e he)⟩⟩
        · rw [tS_b hB]
          show s1 = s + (tS y + 0 + 1)
          omega
        · rw [oSp_b hB]
          exact ⟨ib, tk, i1, i1 + 1 + 1, sp, c, pSg_y c9, rfl⟩
        · rw [rLay_b hB ⟨rfl, rfl, rfl⟩]
          refine ⟨it.fr8 (fun e h1 h2 => ne e (by omega)), (zset_e (by omega)).trans (congrArg (Prod.mk 0) (by omega)), rLay.fr y ly (fun e h1 h2 => ne e (by omega)), trivial⟩
      · intro c g6 f6 _ hX6 g10 f10 c10 e10 _ _
        exact ⟨rfl, ((hF.trans ((roF.rfl.t f6).t f10)).z (by omega)), Or.inl ⟨_, e10.z (by decide)⟩⟩
      · intro c g7 f7 c7
        exact absurd c7 c
theorem vc126 {k : Nat} (hk : k < 2750) : vCode 126 k = some 0 := by
  show (if k < 2750 then some 0 else none) = some 0
  exact if_pos hk
def rOd7 (τ P : PT) (h0 : zH) (x : zR) : Prop := rOG h0 x.1 ∧ ((x.2 = some (0, -1) ∧ ∀ j, j < 550 → x.1 126 j = h0 126 j) ∨ (∃ (t : OT) (i : Nat), oSp τ P t 0 i ∧ τ 0 i = 0 ∧ x.2 = some (0, ((tS t : Nat) : Int)) ∧ x.1 126 275 = (0, 1) ∧ x.1 126 276 = (0, ((tS t : Nat) : Int)) ∧ rLay 0 (P 0 0).toNat x.1 t 0))
theorem rx_orders7 {D : zD} {T : zT} (hT : hTab T) (hO : vOK T) {N : Nat} {h : zH} {B : Nat → Int} {n m : Nat} {τ P : PT} (hb : lB P) (e0 : h 126 0 = (0, P 0 0)) (e1 : h 126 1 = (0, P 0 1)) (e2 : h 126 2 = (0, P 0 2)) (e3 : h 126 3 = (0, P 0 3)) (hN : rNm P h) (hK : Tks B n m τ) (hBB : BB B n) (hby : ∀ q, q < n → h 125 q = (0, B q)) (ht : (n : Int) ≤ (h 121 8).2) (hn3 : (n : Int) ≤ 300) : vP D T N 289 0 h [some (2, 121), some (0, (n : Int)), none] [] (rOd7 τ P h) := by
  refine vP_hv (fun hv => qr_ord0 hT hO hv hK hBB hby ht hn3 ?_)
  intro g f hX
  have f0 : rOG h (zset g 121 25 (0, 0)) := fun a b hn => by
    rw [zset_ne (fun c => hn (by omega)), f a b (fun c => hn (by omega)), zset_ne (fun c => hn (by omega)), zset_ne (fun c => hn (by omega)), zset_ne (fun c => hn (by omega)), zset_ne (fun c => hn (by omega)), zset_ne (fun c => hn (by omega)), zset_ne (fun c => hn (by omega))]
  have c0 : ∀ j, j < 550 → zset g 121 25 (0, 0) 126 j = h 126 j := fun j hj => by
    rw [zset_ne (by omega), f 126 j (fun c => by omega), zset_ne (by omega), zset_ne (by omega), zset_ne (by omega), zset_ne (by omega), zset_ne (by omega), zset_ne (by omega)]
  have n0 : ∀ k, zset g 121 25 (0, 0) 128 k = h 128 k := fun k => by
    rw [zset_ne (by omega), f 128 k (fun c => by omega), zset_ne (by omega), zset_ne (by omega), zset_ne (by omega), zset_ne (by omega), zset_ne (by omega), zset_ne (by omega)]
  have o : oRI B n m τ P 0 0 (zset g 121 25 (0, 0)) := ⟨hX.zf (by decide), ⟨(c0 0 (by decide)).trans e0, (c0 1 (by decide)).trans e1, (c0 2 (by decide)).trans e2, (c0 3 (by decide)).trans e3⟩, fun k hk => (n0 k).trans (hN k hk), zset_same, by decide⟩
  refine vP_loop (fun h' l => ∃ (o' : Option zV) (t : OT) (s i : Nat), l = [some (2, 121), some (0, (n : Int)), o'] ∧ oSp τ P t 0 i ∧ s = tS t ∧ rLay 2200 (P 0 0).toNat h' t 0 ∧ oRI B n m τ P s i h' ∧ roF (zset g 121 25 (0, 0)) h') ?_ N _ _ ⟨none, oNil, 0, 0, rfl, rfl, rfl, trivial, o, roF.rfl⟩
  rintro N h' l ⟨o', t, s, i, rfl, sp, es, ly, o, hF⟩ ih
  have o'' := o
  obtain ⟨hX', ⟨e0, e1, e2, e3⟩, hN', hs, bs⟩ := o''
  have cc0 : ∀ g', roF (zset g 121 25 (0, 0)) g' → ∀ j, j < 550 → g' 126 j = h 126 j := fun g' f' j hj => (f' 126 j (fun c => by omega)).trans (c0 j hj)
  refine vP_hv (fun hv => qr_ord28 hT hO n s o' hv hX' hs ⟨by omega, by omega⟩ ?_ ?_)
  · intro h0
    have hs4 : zset (zset (zset (zset h' 121 10 (0, 0)) 121 11 (0, -1)) 126 275 (0, 1)) 126 276 (0, (s : Int)) 121 25 = (0, (s : Int)) := by
      rw [zset_ne (by decide), zset_ne (by decide), zset_ne (by decide), zset_ne (by decide)]
      exact hs
    refine vP_loop (fun h'' l => ∃ x : Nat, l = [some (2, 121), some (0, (n : Int)), some (0, (x : Int))] ∧ x ≤ 9 * s ∧ (∀ a b, ¬ (a = 126 ∧ 277 ≤ b ∧ b < 547) → h'' a b = zset (zset (zset (zset h' 121 10 (0, 0)) 121 11 (0, -1)) 126 275 (0, 1)) 126 276 (0, (s : Int)) a b) ∧ ∀ j, j < x → h'' 126 (277 + j) = h'' 126 (2477 + j)) ?_ N _ _ ⟨0, rfl, by omega, fun _ _ _ => rfl, fun j hj => absurd hj (Nat.not_lt_zero _)⟩
    rintro N h'' l ⟨x, rfl, hx, hc, hcp⟩ ih2
    have hs5 : h'' 121 25 = (0, (s : Int)) := (hc 121 25 (fun c => by omega)).trans hs4
    refine vP_hv (fun hv2 => qr_ord82 hT hO n s x hv2 hs5 ⟨by omega, by omega⟩ ⟨by omega, by omega⟩ ?_ ?_)
    · intro c _ _ _ _
      refine ih2 _ _ ⟨x + 1, rfl, by omega, fun a b hn => ?_, fun j hj => ?_⟩
      · rw [zset_ne (fun c => hn (by omega))]
        exact hc a b hn
      · rw [zset_ne (r' := 126) (k' := 2477 + j) (fun c => by omega)]
        by_cases e : j = x
        · rw [zset_e (by omega), show (2477 + (x : Int)).toNat = 2477 + j from by omega]
          exact (hv2.eta (vc126 (by omega))).symm
        · rw [zset_ne (fun c => by omega)]
          exact hcp j (by omega)
    · intro c
      have hxe : x = 9 * s := by omega
      refine ⟨fun a b hn => ?_, Or.inr ⟨t, i, sp, h0, ?_, ?_, ?_, ?_⟩⟩
      · show h'' a b = h a b
        rw [hc a b (fun c => hn (by omega)), zset_ne (fun c => hn (by omega)), zset_ne (fun c => hn (by omega)), zset_ne (fun c => hn (by omega)), zset_ne (fun c => hn (by omega))]
        exact (f0.f hF) a b hn
      · rw [es]
      · exact (hc 126 275 (fun c => by omega)).trans ((zset_ne (by decide)).trans zset_same)
      · rw [← es]; exact (hc 126 276 (fun c => by omega)).trans zset_same
      · have q : ∀ e, 2477 ≤ e → h'' 126 e = h' 126 e := fun e he => by
          rw [hc 126 e (fun c => by omega), zset_ne (fun c => by omega), zset_ne (fun c => by omega), zset_ne (fun c => by omega), zset_ne (fun c => by omega)]
        have ly2 : rLay 2200 (P 0 0).toNat h'' t 0 := rLay.fr t ly (fun e h1 h2 => q e (by omega))
        exact rLay.mv t ly2 (fun e h1 h2 => hcp e (by omega))
  · intro h0
    have R := (rx_rs7 (D := D) hT hO (B := B) (n := n) (m := m) (τ := τ) hb N).1 h' s 0 i (by decide) o
    refine vP_Q (fun r hr => ?_) R
    obtain ⟨g2, v⟩ := r
    obtain ⟨h1, f2, h2⟩ := hr
    have h1 : v = none := h1
    subst h1
    refine vP_hv (fun hv => qr_ord47 hT hO n o' hv ?_)
    rcases h2 with ⟨e, a3⟩ | ⟨s2, i2, dc, y, a1, a2, a3, a4, a5⟩
    · refine vP_hv (fun hv => qr_ord28B hT hO n o' hv a3 ⟨fun a b hn => ?_, Or.inl ⟨rfl, fun j hj => ?_⟩⟩)
      · show zset (zset (zset g2 121 10 (0, e.1)) 121 11 (0, e.2)) 121 0 (0, 10) a b = h a b
        rw [zset_ne (fun c => hn (by omega)), zset_ne (fun c => hn (by omega)), zset_ne (fun c => hn (by omega))]
        exact (f0.f (hF.trans f2)) a b hn
      · show zset (zset (zset g2 121 10 (0, e.1)) 121 11 (0, e.2)) 121 0 (0, 10) 126 j = h 126 j
        rw [zset_ne (by omega), zset_ne (by omega), zset_ne (by omega)]
        exact cc0 _ (hF.trans f2) j hj
    · have a5 : ∀ e, e < 2477 + 9 * s → g2 126 e = h' 126 e := a5
      refine ih _ _ ⟨o', tA t (.branch dc y oNil), s2, i2, rfl, oSp_A t _ sp a3, ?_, rLay_A t _ (rLay.fr t ly (fun e h1 h2 => a5 e (by omega))) ?_, a1, hF.trans f2⟩
      · rw [tS_A]; omega
      · rw [Nat.zero_add, ← es]; exact a4
