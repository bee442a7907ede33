def spF (h g : zH) : Prop := ∀ a b, ¬ (a = 130 ∨ a = 133 ∨ (a = 121 ∧ (b = 34 ∨ b = 35)) ∨ (a = 126 ∧ 101 ≤ b ∧ b < 245)) → g a b = h a b
theorem spF.rfl {h : zH} : spF h h := fun _ _ _ => Eq.refl _
theorem spF.trans {h g g2 : zH} (f : spF h g) (f2 : spF g g2) : spF h g2 := fun a b hn => (f2 a b hn).trans (f a b hn)
theorem taF.sp {h g : zH} (f : taF h g) : spF h g := fun a b hn => f a b (fun e => hn (by omega))
theorem spF.st {j q : Nat} {P : PT} {v : zV} {h : zH} (lb : lB P) (hj : j < 3) (gq : gIn P q) : spF h (zset h 126 ((101 + (48 * (j : Int))) + ((gJ P q : Nat) : Int)).toNat v) := fun a b hn => by
  have := gJ_lt lb gq
  exact zset_ne (fun e => hn (by omega))
theorem tdH.fr {K : TT4} {h g : zH} (t : tdH K h) (f : ∀ b, g 133 b = h 133 b) : tdH K g := ⟨(f 0).trans t.1, (f 1).trans t.2.1, (f 2).trans t.2.2.1, (f 3).trans t.2.2.2⟩
noncomputable def sbT (P1 : PT) (j : Nat) (fa : Int) : Nat → Nat → TT4 → TT4
  | 0, _, K => K
  | r + 1, n, K => sbT P1 j fa r (n + 1) (@ite TT4 (ifP P1 j (gQ P1 n)) (Classical.propDecidable _) (tsP (pSt P1 j (gQ P1 n) 1) j K fa (n : Int)) K)
theorem rx_sbL {D : zD} {T : zT} (hT : hTab T) (hO : vOK T) {N : Nat} {Q : zR → Prop} {P : PT} {j a : Nat} {z w : Int} (hb : fB P) (hj : j < 3) : ∀ (r n : Nat) (h : zH) (K : TT4) (o7 : Option zV), n + r = (P 0 0).toNat * (P 0 1).toNat → rBk 0 P h → tdH K h → (∀ (g : zH) (n' : Nat) (o : Option zV), tdH (sbT P j ((gJ P a : Nat) : Int) r n K) g → rBk 0 P g → spF h g → vP D T N 321 202 g [some (2, 121), some (0, (j : Int)), some (0, 2), some (0, z), some (0, ((gJ P a : Nat) : Int)), some (0, w), some (0, (n' : Int)), o] [] Q) → vP D T N 321 126 h [some (2, 121), some (0, (j : Int)), some (0, 2), some (0, z), some (0, ((gJ P a : Nat) : Int)), some (0, w), some (0, (n : Int)), o7] [] Q
  | 0, n, h, K, o7, hn, hR, hK, k => by
    have e := wr_i hb.1
    have hn : n = (P 0 0).toNat * (P 0 1).toNat := hn
    exact vP_hv (fun hv => qs_sup126x (P := P) hT hO z w o7 hv hR.w hR.r hb (by rw [← e, hn]; exact Int.le_refl _) (k h n o7 hK hR spF.rfl))
  | r + 1, n, h, K, o7, hn, hR, hK, k => by
    have e := wr_i hb.1
    have lb := hb.1
    have w48 := wr_48 hb.1
    obtain ⟨gq, ej⟩ := gQ_ok hb.1 (n := n) (by omega)
    have lj := gJ_lt lb gq
    have go : vP D T N 321 126 h [some (2, 121), some (0, (j : Int)), some (0, 2), some (0, z), some (0, ((gJ P a : Nat) : Int)), some (0, w), some (0, ((gJ P (gQ P n) : Nat) : Int)), o7] [] Q := by
      refine vP_hv (fun hv => qs_sup126 (P := P) (q := gQ P n) hT hO z w o7 hv hR.w hR.r hb gq lj hj (by rw [ej, ← e]; omega) ?_)
      refine rx_if hT hO hR hb hj gq (fun c => ?_) (fun c => ?_)
      · show vP D T N 321 147 h [some (2, 121), some (0, (j : Int)), some (0, 2), some (0, z), some (0, ((gJ P a : Nat) : Int)), some (0, w), some (0, ((gJ P (gQ P n) : Nat) : Int)), o7] [(0, 1)] Q
        refine vP_hv (fun hv => qs_sup147y hT hO z w o7 hv hR hb gq lj hj (fun _ _ => ?_))
        have R1 := hR.s3 lb hj gq (v := 1)
        have b1 : fB (pSt P j (gQ P n) 1) := hb.s3 (by decide)
        refine rx_ta hT hO (P := pSt P j (gQ P n) 1) _ _ R1 b1 (K := K) (hK.fr (fun b => zset_ne (fun e => absurd e.1 (by decide)))) (fun g t1 f1 => ?_)
        show vP D T N 321 183 g [some (2, 121), some (0, (j : Int)), some (0, 2), some (0, z), some (0, ((gJ P a : Nat) : Int)), some (0, w), some (0, ((gJ P (gQ P n) : Nat) : Int)), some (0, P 3 (48 * j + gQ P n))] [] Q
        have F0 : spF h (zset h 126 ((101 + (48 * (j : Int))) + ((gJ P (gQ P n) : Nat) : Int)).toNat (0, 1)) := spF.st lb hj gq
        have Rg : rBk 0 (pSt P j (gQ P n) 1) g := R1.eq lb (fun b _ _ => f1 126 b (by omega))
        have R2 := Rg.s3 (show lB (pSt P j (gQ P n) 1) from lb) hj gq (v := P 3 (48 * j + gQ P n))
        rw [pSt_back] at R2
        refine vP_hv (fun hv => qs_sup183 (P := P) hT hO z w _ hv lj hj (fun _ _ => ?_))
        have ek : (@ite TT4 (ifP P j (gQ P n)) (Classical.propDecidable _) (tsP (pSt P j (gQ P n) 1) j K ((gJ P a : Nat) : Int) (n : Int)) K) = tsP (pSt P j (gQ P n) 1) j K ((gJ P a : Nat) : Int) (n : Int) := if_pos c
        rw [show (((gJ P (gQ P n) : Nat) : Int) + 1) = ((n + 1 : Nat) : Int) from by rw [ej]; rfl]
        rw [show ((gJ P (gQ P n) : Nat) : Int) = (n : Int) from by rw [ej]] at t1
        refine rx_sbL hT hO hb hj r (n + 1) _ _ _ (by omega) R2 (t1.fr (fun b => zset_ne (fun e => absurd e.1 (by decide)))) (fun g2 n' o x1 x2 x3 => k g2 n' o ?_ x2 (((F0.trans f1.sp).trans (spF.st lb hj gq)).trans x3))
        show tdH (sbT P j ((gJ P a : Nat) : Int) r (n + 1) (@ite TT4 (ifP P j (gQ P n)) (Classical.propDecidable _) (tsP (pSt P j (gQ P n) 1) j K ((gJ P a : Nat) : Int) (n : Int)) K)) g2
        rw [ek]
        exact x1
      · show vP D T N 321 147 h [some (2, 121), some (0, (j : Int)), some (0, 2), some (0, z), some (0, ((gJ P a : Nat) : Int)), some (0, w), some (0, ((gJ P (gQ P n) : Nat) : Int)), o7] [(0, 0)] Q
        refine vP_hv (fun hv => qs_sup147n (P := P) hT hO z w o7 hv lj ?_)
        have ek : (@ite TT4 (ifP P j (gQ P n)) (Classical.propDecidable _) (tsP (pSt P j (gQ P n) 1) j K ((gJ P a : Nat) : Int) (n : Int)) K) = K := if_neg c
        rw [show (((gJ P (gQ P n) : Nat) : Int) + 1) = ((n + 1 : Nat) : Int) from by rw [ej]; rfl]
        refine rx_sbL hT hO hb hj r (n + 1) h K _ (by omega) hR hK (fun g2 n' o x1 x2 x3 => k g2 n' o ?_ x2 x3)
        show tdH (sbT P j ((gJ P a : Nat) : Int) r (n + 1) (@ite TT4 (ifP P j (gQ P n)) (Classical.propDecidable _) (tsP (pSt P j (gQ P n) 1) j K ((gJ P a : Nat) : Int) (n : Int)) K)) g2
        rw [ek]
        exact x1
    rw [ej] at go
    exact go
/-- the outer loop: mn cells a meal -/
noncomputable def saT (P : PT) (j mn : Nat) : Nat → Nat → TT4 → TT4
  | 0, _, K => K
  | r + 1, n, K => saT P j mn r (n + 1) (@ite TT4 (ifP P j (gQ P n)) (Classical.propDecidable _) (if mn = 1 then tsP (pSt P j (gQ P n) 1) j K (n : Int) (-1) else sbT (pSt P j (gQ P n) 1) j (n : Int) r (n + 1) K) K)
theorem rx_saL {D : zD} {T : zT} (hT : hTab T) (hO : vOK T) {N : Nat} {Q : zR → Prop} {P : PT} {j mn : Nat} {z : Int} (hb : fB P) (hj : j < 3) (hmn : mn = 1 ∨ mn = 2) : ∀ (r n : Nat) (h : zH) (K : TT4) (o5 o6 o7 : Option zV), n + r = (P 0 0).toNat * (P 0 1).toNat → rBk 0 P h → tdH K h → (∀ (g : zH) (n' : Nat) (p5 p6 p7 : Option zV), tdH (saT P j mn r n K) g → rBk 0 P g → spF h g → vP D T N 321 221 g [some (2, 121), some (0, (j : Int)), some (0, (mn : Int)), some (0, z), some (0, (n' : Int)), p5, p6, p7] [] Q) → vP D T N 321 64 h [some (2, 121), some (0, (j : Int)), some (0, (mn : Int)), some (0, z), some (0, (n : Int)), o5, o6, o7] [] Q
  | 0, n, h, K, o5, o6, o7, hn, hR, hK, k => by
    have e := wr_i hb.1
    have hn : n = (P 0 0).toNat * (P 0 1).toNat := hn
    exact vP_hv (fun hv => qs_sup64x (P := P) hT hO _ z o5 o6 o7 hv hR.w hR.r hb (by rw [← e, hn]; exact Int.le_refl _) (k h n o5 o6 o7 hK hR spF.rfl))
  | r + 1, n, h, K, o5, o6, o7, hn, hR, hK, k => by
    have e := wr_i hb.1
    have lb := hb.1
    have w48 := wr_48 hb.1
    obtain ⟨gq, ej⟩ := gQ_ok hb.1 (n := n) (by omega)
    have lj := gJ_lt lb gq
    have e1 : (((gJ P (gQ P n) : Nat) : Int) + 1) = ((n + 1 : Nat) : Int) := by rw [ej]; rfl
    have e0 : ((gJ P (gQ P n) : Nat) : Int) = (n : Int) := by rw [ej]
    have b1 : fB (pSt P j (gQ P n) 1) := hb.s3 (by decide)
    have F0 : spF h (zset h 126 ((101 + (48 * (j : Int))) + ((gJ P (gQ P n) : Nat) : Int)).toNat (0, 1)) := spF.st lb hj gq
    -- behind all of a
    have nx : ∀ (g : zH) (K' : TT4) (p5 p6 p7 : Option zV), (@ite TT4 (ifP P j (gQ P n)) (Classical.propDecidable _) (if mn = 1 then tsP (pSt P j (gQ P n) 1) j K (n : Int) (-1) else sbT (pSt P j (gQ P n) 1) j (n : Int) r (n + 1) K) K) = K' → rBk 0 P g → tdH K' g → spF h g → vP D T N 321 64 g [some (2, 121), some (0, (j : Int)), some (0, (mn : Int)), some (0, z), some (0, (((gJ P (gQ P n) : Nat) : Int) + 1)), p5, p6, p7] [] Q := fun g K' p5 p6 p7 ek hR' hK' F => by
      rw [e1]
      refine rx_saL hT hO hb hj hmn r (n + 1) g K' p5 p6 p7 (by omega) hR' hK' (fun g2 n' q5 q6 q7 x1 x2 x3 => k g2 n' q5 q6 q7 ?_ x2 (F.trans x3))
      show tdH (saT P j mn r (n + 1) (@ite TT4 (ifP P j (gQ P n)) (Classical.propDecidable _) (if mn = 1 then tsP (pSt P j (gQ P n) 1) j K (n : Int) (-1) else sbT (pSt P j (gQ P n) 1) j (n : Int) r (n + 1) K) K)) g2
      rw [ek]
      exact x1
    -- the state given back
    have gb : ∀ (g : zH) (K' : TT4) (p6 p7 : Option zV), ifP P j (gQ P n) → (if mn = 1 then tsP (pSt P j (gQ P n) 1) j K (n : Int) (-1) else sbT (pSt P j (gQ P n) 1) j (n : Int) r (n + 1) K) = K' → rBk 0 (pSt P j (gQ P n) 1) g → tdH K' g → spF h g → vP D T N 321 202 g [some (2, 121), some (0, (j : Int)), some (0, (mn : Int)), some (0, z), some (0, ((gJ P (gQ P n) : Nat) : Int)), some (0, P 3 (48 * j + gQ P n)), p6, p7] [] Q := fun g K' p6 p7 c ek Rg hK' F => by
      have R2 := Rg.s3 (show lB (pSt P j (gQ P n) 1) from lb) hj gq (v := P 3 (48 * j + gQ P n))
      rw [pSt_back] at R2
      refine vP_hv (fun hv => qs_sup202 (P := P) hT hO _ z _ p6 p7 hv lj hj (fun _ _ => ?_))
      refine nx _ K' _ _ _ ((if_pos c).trans ek) R2 (hK'.fr (fun b => zset_ne (fun e => absurd e.1 (by decide)))) (F.trans (spF.st lb hj gq))
    have go : vP D T N 321 64 h [some (2, 121), some (0, (j : Int)), some (0, (mn : Int)), some (0, z), some (0, ((gJ P (gQ P n) : Nat) : Int)), o5, o6, o7] [] Q := by
      refine vP_hv (fun hv => qs_sup64 (P := P) (q := gQ P n) hT hO _ z o5 o6 o7 hv hR.w hR.r hb gq lj hj (by rw [ej, ← e]; omega) ?_)
      refine rx_if hT hO hR hb hj gq (fun c => ?_) (fun c => ?_)
      · have R1 := hR.s3 lb hj gq (v := 1)
        rcases hmn with rfl | rfl
        · show vP D T N 321 80 h [some (2, 121), some (0, (j : Int)), some (0, 1), some (0, z), some (0, ((gJ P (gQ P n) : Nat) : Int)), o5, o6, o7] [(0, 1)] Q
          refine vP_hv (fun hv => qs_sup80y1 hT hO z o5 o6 o7 hv hR hb gq lj hj (fun _ _ => ?_))
          refine rx_ta hT hO (P := pSt P j (gQ P n) 1) _ _ R1 b1 (K := K) (hK.fr (fun b => zset_ne (fun e => absurd e.1 (by decide)))) (fun g t1 f1 => ?_)
          have Rg : rBk 0 (pSt P j (gQ P n) 1) g := R1.eq lb (fun b _ _ => f1 126 b (by omega))
          rw [e0] at t1
          show vP D T N 321 120 g [some (2, 121), some (0, (j : Int)), some (0, 1), some (0, z), some (0, ((gJ P (gQ P n) : Nat) : Int)), some (0, P 3 (48 * j + gQ P n)), o6, o7] [] Q
          refine vP_hv (fun hv => qs_sup120_1 (P := P) hT hO z _ o6 o7 hv lj ?_)
          rw [e1]
          have q := gb g _ (some (0, ((n + 1 : Nat) : Int))) o7 c (if_pos rfl) Rg t1 (F0.trans f1.sp)
          exact vP_hv (fun hv => qs_sup126e (P := pSt P j (gQ P n) 1) (a := gQ P n) hT hO z _ o7 hv Rg.w Rg.r b1 (fun _ => q) (fun _ => q))
        · show vP D T N 321 80 h [some (2, 121), some (0, (j : Int)), some (0, 2), some (0, z), some (0, ((gJ P (gQ P n) : Nat) : Int)), o5, o6, o7] [(0, 1)] Q
          refine vP_hv (fun hv => qs_sup80y2 hT hO z o5 o6 o7 hv hR hb gq lj hj (fun _ _ => ?_))
          rw [e1]
          refine rx_sbL hT hO (P := pSt P j (gQ P n) 1) (a := gQ P n) b1 hj r (n + 1) _ K o7 (show n + 1 + r = (P 0 0).toNat * (P 0 1).toNat by omega) R1 (hK.fr (fun b => zset_ne (fun e => absurd e.1 (by decide)))) (fun g n' o x1 x2 x3 => ?_)
          have ea : ((gJ (pSt P j (gQ P n) 1) (gQ P n) : Nat) : Int) = (n : Int) := e0
          rw [ea] at x1
          exact gb g _ _ _ c (if_neg (by decide)) x2 x1 (F0.trans x3)
      · show vP D T N 321 80 h [some (2, 121), some (0, (j : Int)), some (0, (mn : Int)), some (0, z), some (0, ((gJ P (gQ P n) : Nat) : Int)), o5, o6, o7] [(0, 0)] Q
        exact vP_hv (fun hv => qs_sup80n (P := P) hT hO _ z o5 o6 o7 hv lj (nx h K _ _ _ (if_neg c) hR hK spF.rfl))
    rw [ej] at go
    exact go
