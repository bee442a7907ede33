def rSF (h g : zH) : Prop := ∀ a b, ¬ (a = 130 ∨ a = 133 ∨ (a = 121 ∧ (b ≤ 1 ∨ b = 34 ∨ b = 35)) ∨ (a = 126 ∧ 101 ≤ b ∧ b < 245)) → g a b = h a b
def kSel (K : TT4) (z : Int) : Int := if z = 0 then K.1 else if z = 1 then K.2.1 else if z = 2 then K.2.2.1 else K.2.2.2
abbrev okU (P : PT) (x y z : Int) : Prop := 0 ≤ x ∧ x < P 0 2 ∧ 1 ≤ y ∧ y ≤ 2 ∧ 0 ≤ z ∧ z ≤ 3
def supV (K : TT4) (y z : Int) : Int := if K.1 < 0 then -1 else if y = 1 ∧ z = 3 then -1 else kSel K z
theorem rx_supper {D : zD} {T : zT} (hT : hTab T) (hO : vOK T) {N : Nat} {h : zH} {P : PT} (hR : rBk 0 P h) (hb : fB P) (x y z : Int) : vP D T N 321 0 h [some (2, 121), some (0, x), some (0, y), some (0, z), none, none, none, none] [] (fun r => rBk 0 P r.1 ∧ rSF h r.1 ∧ ((¬ okU P x y z ∧ r.2 = some (0, -1)) ∨ (okU P x y z ∧ ∃ u1 u2 u3 : Int, r.2 = some (0, supV (saT P x.toNat y.toNat ((P 0 0).toNat * (P 0 1).toNat) 0 (-1, u1, u2, u3)) y z)))) := by
  refine vP_hv (fun hv => ?_)
  have lb := hb.1
  have l3 := lb.2.2.1.2
  have F2 : rSF h (zset (zset h 121 1 (0, 0)) 121 0 (0, 0)) := fun a b hn => (zset_ne (fun e => hn (by omega))).trans (zset_ne (fun e => hn (by omega)))
  have hR2 : rBk 0 P (zset (zset h 121 1 (0, 0)) 121 0 (0, 0)) := (hR.z1 lb).z1 lb
  have no : ∀ v : Int, ¬ okU P x y z → rBk 0 P (zset (zset (zset h 121 1 (0, 0)) 121 0 (0, 0)) 121 0 (0, v)) ∧ rSF h (zset (zset (zset h 121 1 (0, 0)) 121 0 (0, 0)) 121 0 (0, v)) ∧ ((¬ okU P x y z ∧ (some ((0, -1) : zV)) = some (0, -1)) ∨ (okU P x y z ∧ ∃ u1 u2 u3 : Int, (some ((0, -1) : zV)) = some (0, supV (saT P x.toNat y.toNat ((P 0 0).toNat * (P 0 1).toNat) 0 (-1, u1, u2, u3)) y z))) := fun v c => ⟨hR2.z1 lb, fun a b hn => (zset_ne (fun e => hn (by omega))).trans (F2 a b hn), Or.inl ⟨c, rfl⟩⟩
  refine qs_sup0 (P := P) hT hO x y z hv hR.w hR.r hR.c hR.m lb ?k0 ?k1 ?k2 ?k3 ?k4 ?k5 ?k6
  case k6 =>
    intro c1 c2 c3 c4 c5 c6
    have ok : okU P x y z := ⟨c1, by omega, c3, c4, c5, c6⟩
    obtain ⟨j, rfl⟩ : ∃ j : Nat, x = (j : Int) := ⟨x.toNat, by omega⟩
    obtain ⟨mn, rfl⟩ : ∃ mn : Nat, y = (mn : Int) := ⟨y.toNat, by omega⟩
    have hmn : mn = 1 ∨ mn = 2 := by omega
    refine vP_hv (fun hv1 => qs_sup54 hT hO (mn : Int) z hv1 ?_)
    have u1 : h 133 1 = (0, (h 133 1).2) := hv.eta (by decide +kernel)
    have u2 : h 133 2 = (0, (h 133 2).2) := hv.eta (by decide +kernel)
    have u3 : h 133 3 = (0, (h 133 3).2) := hv.eta (by decide +kernel)
    have K0 : tdH (-1, (h 133 1).2, (h 133 2).2, (h 133 3).2) (zset (zset (zset h 121 1 (0, 0)) 121 0 (0, 0)) 133 0 (0, -1)) := ⟨zset_same, (zset_ne (by decide)).trans ((zset_ne (by decide)).trans ((zset_ne (by decide)).trans u1)), (zset_ne (by decide)).trans ((zset_ne (by decide)).trans ((zset_ne (by decide)).trans u2)), (zset_ne (by decide)).trans ((zset_ne (by decide)).trans ((zset_ne (by decide)).trans u3))⟩
    have R3 : rBk 0 P (zset (zset (zset h 121 1 (0, 0)) 121 0 (0, 0)) 133 0 (0, -1)) := hR2.eq lb (fun b _ _ => zset_ne (by omega))
    refine rx_saL hT hO hb (show j < 3 by omega) hmn ((P 0 0).toNat * (P 0 1).toNat) 0 _ _ none none none (Nat.zero_add _) R3 K0 (fun g n' p5 p6 p7 x1 x2 x3 => ?_)
    have F3 : rSF h g := fun a b hn => (x3 a b (fun e => hn (by omega))).trans ((zset_ne (fun e => hn (by omega))).trans (F2 a b hn))
    generalize eK : saT P j mn ((P 0 0).toNat * (P 0 1).toNat) 0 (-1, (h 133 1).2, (h 133 2).2, (h 133 3).2) = K at x1
    have fin : ∀ (g' : zH) (v : Int), rBk 0 P g' → rSF h g' → v = supV K (mn : Int) z → rBk 0 P g' ∧ rSF h g' ∧ ((¬ okU P (j : Int) (mn : Int) z ∧ (some ((0, v) : zV)) = some (0, -1)) ∨ (okU P (j : Int) (mn : Int) z ∧ ∃ u1 u2 u3 : Int, (some ((0, v) : zV)) = some (0, supV (saT P ((j : Int)).toNat ((mn : Int)).toNat ((P 0 0).toNat * (P 0 1).toNat) 0 (-1, u1, u2, u3)) (mn : Int) z))) := fun g' v y1 y2 y3 => ⟨y1, y2, Or.inr ⟨ok, (h 133 1).2, (h 133 2).2, (h 133 3).2, by rw [y3, ← eK]; rfl⟩⟩
    have sel : 0 ≤ K.1 → ¬ ((mn : Int) = 1 ∧ z = 3) → (g 133 z.toNat).2 = supV K (mn : Int) z := fun q1 q2 => by
      unfold supV kSel
      rw [if_neg (by omega), if_neg q2]
      have : z = 0 ∨ z = 1 ∨ z = 2 ∨ z = 3 := by omega
      rcases this with rfl | rfl | rfl | rfl
      · exact congrArg Prod.snd x1.1
      · exact congrArg Prod.snd x1.2.1
      · exact congrArg Prod.snd x1.2.2.1
      · exact congrArg Prod.snd x1.2.2.2
    have neg : K.1 < 0 → (-1 : Int) = supV K (mn : Int) z := fun q => (if_pos q).symm
    have F4 : ∀ v : zV, rSF h (zset g 121 0 v) := fun v a b hn => (zset_ne (fun e => hn (by omega))).trans (F3 a b hn)
    rcases hmn with rfl | rfl
    · refine vP_hv (fun hv2 => qs_sup221_1 hT hO z K.1 p5 p6 p7 hv2 x1.1 ⟨c5, c6⟩ (fun q => fin _ _ (x2.z1 lb) (F4 _) (neg q)) (fun q1 q2 => fin _ _ (x2.z1 lb) (F4 _) ?_) (fun q1 q2 _ _ => fin g _ x2 F3 (sel q1 (fun d => q2 d.2))))
      unfold supV
      rw [if_neg (by omega), if_pos ⟨rfl, q2⟩]
    · exact vP_hv (fun hv2 => qs_sup221_2 hT hO z K.1 p5 p6 p7 hv2 x1.1 ⟨c5, c6⟩ (fun q => fin _ _ (x2.z1 lb) (F4 _) (neg q)) (fun q1 q2 _ _ => fin g _ x2 F3 (sel q1 (fun d => absurd d.1 (by decide)))) (fun q1 q2 _ _ => fin g _ x2 F3 (sel q1 (fun d => q2 d.2))))
  all_goals
    intros
    exact no _ (by rintro ⟨o1, o2, o3, o4, o5, o6⟩; omega)
/-- a call that gives back all that it takes of the reference's block -/
theorem fX_ref {h h1 h2 : zH} (hX : fX h) (f1 : ∀ a k, aIn fpS a k → h1 a k = h a k) (f2 : rSF h1 h2) (b : ∀ P, rBk 0 P h1 → fB P → rBk 0 P h2) : fX h2 := by
  obtain ⟨hM, r, c, s1, s2, s3, P, p1, p2, p3, p4, o⟩ := fX_S f1 hX
  exact fX_up hM s1 s2 s3 o pSh.rfl (fun a b hf => f2 a b (by unfold fOut at hf; omega)) (p1.eq (fun a b h1 h2 => f2 a b (by have := s1.c2; omega))) (b P p2 p3) p3 p4
theorem fRw_supper {D : zD} (_ : ∀ i, -2147483648 ≤ D.2 i ∧ D.2 i ≤ 2147483647) {h h1 h2 : zH} {x y z v1 v2 : Int} (hZ : lZ D h) (hZ1 : lZ D h1) (hR : fR h) (z1 : zRun D TLw 614 184 0 (h, zargs 0 [(2, 0), (0, x), (0, y), (0, z)], []) (h1, some (0, v1))) (f1 : aFr lM_184 h h1) (z2 : zRun D TLw 614 321 0 (h1, zargs 0 [(2, 121), (0, x), (0, y), (0, z)], []) (h2, some (0, v2))) (f2 : aFr lM_321 h1 h2) : fR h2 ∧ True := by
  have k1 : ∀ a k, aIn fpS a k → h1 a k = h a k := fun a k hi => f1.keep (by decide +kernel) hi
  refine ⟨⟨lR_S h h2 (fun a k hi => (f2.keep (by decide +kernel) hi).trans (k1 a k (aIn_l hi))) hR.1, ?_⟩, trivial⟩
  obtain ⟨hM, r, c, s1, s2, s3, P, p1, p2, p3, p4, o⟩ := fX_S k1 hR.2
  obtain ⟨q1, q2, _⟩ := hZ1.run 8 z2 (Q := fun r => rBk 0 P r.1 ∧ rSF h1 r.1 ∧ ((¬ okU P x y z ∧ r.2 = some (0, -1)) ∨ (okU P x y z ∧ ∃ u1 u2 u3 : Int, r.2 = some (0, supV (saT P x.toNat y.toNat ((P 0 0).toNat * (P 0 1).toNat) 0 (-1, u1, u2, u3)) y z)))) (fun N => rx_supper TLw_T vOK_T p2 p3 x y z)
  exact fX_up hM s1 s2 s3 o pSh.rfl (fun a b hf => q2 a b (by unfold fOut at hf; omega)) (p1.eq (fun a b h1 h2 => q2 a b (by have := s1.c2; omega))) q1 p3 p4
