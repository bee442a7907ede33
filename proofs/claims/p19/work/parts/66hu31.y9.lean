theorem fRk_run {D : zD} (_ : ∀ i, -2147483648 ≤ D.2 i ∧ D.2 i ≤ 2147483647) {h h1 h2 : zH} {x v1 v2 : Int} (hZ : lZ D h) (hZ1 : lZ D h1) (hR : fR h) (z1 : zRun D TLw 614 178 0 (h, zargs 0 [(2, 0), (0, x)], []) (h1, some (0, v1))) (f1 : aFr lM_178 h h1) (z2 : zRun D TLw 614 307 0 (h1, zargs 0 [(2, 121), (0, x)], []) (h2, some (0, v2))) (f2 : aFr lM_307 h1 h2) : fR h2 ∧ v1 = v2 := by
  obtain ⟨hL, hM, r, c, s1, s2, s3, P, p1, p2, p3, p4, o⟩ := hR
  have p4' : 1 ≤ P 0 0 ∧ 1 ≤ P 0 1 := ⟨by omega, p4.2⟩
  have hL2 : lR h2 := lR_S h h2 (fun a k hi => (f2.keep (by decide +kernel) hi).trans (f1.keep (by decide +kernel) hi)) hL
  have k126 : ∀ j, j < 547 → h1 126 j = h 126 j := fun j hj => f1.keep (S := [(126, 0, 546)]) (by decide +kernel) ⟨(126, 0, 546), List.mem_cons_self, rfl, Nat.zero_le _, show j ≤ 546 by omega⟩
  have hR1 : rBk 0 P h1 := p2.eq p3.1 (fun b _ hb => k126 b (by omega))
  have c2 := s1.c2
  have none : ∀ s0 w : Int, h (c + 10) 0 = (0, s0) → h 126 275 = (0, w) → (¬ (0 ≤ x ∧ x ≤ 9999) ∨ (s0 = -1 ∧ w = 0)) → fR h2 ∧ v1 = v2 := fun s0 w es ew hn => by
    have a1 : (∃ w : Int, h1 = zset h 0 0 (0, w)) ∧ v1 = -1 := by
      rcases s1 with ⟨rfl, rfl⟩ | ⟨rfl, rfl⟩
      · obtain ⟨q1, q2⟩ := hZ.run 3 z1 (Q := fun r => (∃ w : Int, r.1 = zset h 0 0 (0, w)) ∧ r.2 = some (0, -1)) (fun N => cx_runN_39 TLw_T vOK_T x s0 s2 es (hn.imp id And.left))
        exact ⟨q1, by cases (q2 : some ((0, v1) : zV) = some (0, -1)); rfl⟩
      · obtain ⟨q1, q2⟩ := hZ.run 3 z1 (Q := fun r => (∃ w : Int, r.1 = zset h 0 0 (0, w)) ∧ r.2 = some (0, -1)) (fun N => cx_runN_24 TLw_T vOK_T x s0 s2 es (hn.imp id And.left))
        exact ⟨q1, by cases (q2 : some ((0, v1) : zV) = some (0, -1)); rfl⟩
    obtain ⟨⟨w1, e1⟩, e2⟩ := a1
    obtain ⟨q1, q2⟩ := hZ1.run 2 z2 (Q := fun r => (∀ a b, ¬ (a = 121 ∧ b ≤ 1) → r.1 a b = h1 a b) ∧ r.2 = some (0, -1)) (fun N => rx_runN TLw_T vOK_T x w ((k126 275 (by decide)).trans ew) (hn.imp id And.right))
    have e3 : v2 = -1 := by cases (q2 : some ((0, v2) : zV) = some (0, -1)); rfl
    have F : ∀ a b, ¬ (a = 121 ∧ b ≤ 1) → ¬ (a = 0 ∧ b = 0) → h2 a b = h a b := fun a b n1 n2 => (q1 a b n1).trans (by rw [e1]; exact zset_ne n2)
    refine ⟨⟨hL2, fX_up hM s1 s2 s3 o pSh.rfl (fun a b hf => F a b (by unfold fOut at hf; omega) (by unfold fOut at hf; omega)) (p1.eq (fun a b h1 h2 => F a b (by omega) (by omega))) (p2.eq p3.1 (fun b _ _ => F 126 b (by omega) (by omega))) p3 p4⟩, by omega⟩
  rcases o with ⟨o1, o2⟩ | ⟨t, g1, g2, g3, g4, g5, g6, g7, g8, g9⟩
  · exact none (-1) 0 o1 o2 (Or.inr ⟨rfl, rfl⟩)
  · by_cases hx : 0 ≤ x ∧ x ≤ 9999
    · obtain ⟨seed, rfl⟩ : ∃ seed : Nat, x = (seed : Int) := ⟨x.toNat, by omega⟩
      have a1 : cP c (ev t (runS P seed)).P h1 ∧ cUF c h h1 ∧ v1 = ((ev t (runS P seed)).dn : Int) := by
        rcases s1 with ⟨rfl, rfl⟩ | ⟨rfl, rfl⟩
        · obtain ⟨q1, q2, q3, _⟩ := hZ.run 3 z1 (Q := fun r => cP 39 (ev t (runS P seed)).P r.1 ∧ cUF 39 h r.1 ∧ r.2 = some (0, ((ev t (runS P seed)).dn : Int)) ∧ r.1 120 0 = (0, ((ev t (runS P seed)).ms : Int)) ∧ r.1 120 1 = (0, ((ev t (runS P seed)).bt : Int)) ∧ r.1 120 2 = (0, ((ev t (runS P seed)).sk : Int)) ∧ r.1 120 3 = (0, if (ev t (runS P seed)).ov = 2 then 1 else 0)) (fun N => cx_runY_39 TLw_T vOK_T seed (by omega) s2 p1 p3 p4' g1 g6 g3 g4)
          exact ⟨q1, q2, by cases (q3 : some ((0, v1) : zV) = some (0, ((ev t (runS P seed)).dn : Int))); rfl⟩
        · obtain ⟨q1, q2, q3, _⟩ := hZ.run 3 z1 (Q := fun r => cP 24 (ev t (runS P seed)).P r.1 ∧ cUF 24 h r.1 ∧ r.2 = some (0, ((ev t (runS P seed)).dn : Int)) ∧ r.1 120 0 = (0, ((ev t (runS P seed)).ms : Int)) ∧ r.1 120 1 = (0, ((ev t (runS P seed)).bt : Int)) ∧ r.1 120 2 = (0, ((ev t (runS P seed)).sk : Int)) ∧ r.1 120 3 = (0, if (ev t (runS P seed)).ov = 2 then 1 else 0)) (fun N => cx_runY_24 TLw_T vOK_T seed (by omega) s2 p1 p3 p4' g1 g6 g3 g4)
          exact ⟨q1, q2, by cases (q3 : some ((0, v1) : zV) = some (0, ((ev t (runS P seed)).dn : Int))); rfl⟩
      obtain ⟨q1, q2, q3⟩ := a1
      have l9 : rLay 0 (P 0 0).toNat h1 t 0 := g9.tr (fun j _ hj => k126 _ (by omega)) (by omega)
      obtain ⟨r1, r2, r3, _⟩ := hZ1.run 2 z2 (Q := fun r => rBk 0 (ev t (runS P seed)).P r.1 ∧ rUF h1 r.1 ∧ r.2 = some (0, ((ev t (runS P seed)).dn : Int)) ∧ r.1 136 0 = (0, ((ev t (runS P seed)).ms : Int)) ∧ r.1 136 1 = (0, ((ev t (runS P seed)).bt : Int)) ∧ r.1 136 2 = (0, ((ev t (runS P seed)).sk : Int)) ∧ r.1 136 3 = (0, if (ev t (runS P seed)).ov = 2 then 1 else 0) ∧ r.1 121 40 = (0, 1)) (fun N => rx_runY TLw_T vOK_T seed (by omega) hR1 p3 p4' g1 l9 g2 ((k126 275 (by decide)).trans g7) ((k126 276 (by decide)).trans g8))
      have r3 : v2 = ((ev t (runS P seed)).dn : Int) := by cases (r3 : some ((0, v2) : zV) = some (0, ((ev t (runS P seed)).dn : Int))); rfl
      obtain ⟨v1', v2', _⟩ := ev_ok t (runS P seed) g1 (runS_B p3 p4' (by omega)) pSh.rfl
      refine ⟨⟨hL2, fX_up hM s1 s2 s3 (Or.inr ⟨t, g1, g2, g3, g4, g5, g6, g7, g8, g9⟩) v2' (fun a b hf => ?_) (q1.eq (fun a b h1 h2 => r2 a b (by omega))) r1 v1'.1 (by rw [v2'.1, v2'.2.1]; exact p4)⟩, q3.trans r3.symm⟩
      unfold fOut at hf
      exact (r2 a b (by omega)).trans (q2 a b (by omega))
    · exact none _ _ g4 g7 (Or.inl hx)
/-! mark and back, all contents -/
theorem cOb.cf {c : Nat} (hc : cOb c) : (∀ k, k < 5 → vCode c k = some 0) ∧ vCode (c + 10) 0 = some 0 ∧ vCode (c + 10) 1 = some 0 := by
  rcases hc with rfl | rfl | rfl | rfl | rfl <;> decide +kernel
theorem cpLand_F {h : zH} (hv : zHv h) {s d : Nat} (hs : cOb s) (hd : s + 15 ≤ d ∨ d + 15 ≤ s) : cKf s d h (cpLand h s d) := by
  obtain ⟨e1, e2, e3⟩ := hs.cf
  rintro j k (⟨rfl, hk⟩ | ⟨rfl | rfl, hk⟩ | ⟨rfl, hk⟩ | ⟨⟨h1, h2⟩, hk⟩ | ⟨rfl, hk⟩ | ⟨⟨h1, h2⟩, hk⟩)
  · have : k = 0 ∨ k = 1 ∨ k = 2 ∨ k = 3 ∨ k = 4 := by omega
    rcases this with rfl | rfl | rfl | rfl | rfl
    · exact (cpLand_0 hd).trans (hv.eta' (e1 0 (by decide)))
    · exact (cpLand_1 hd).trans (hv.eta' (e1 1 (by decide)))
    · exact (cpLand_2 hd).trans (hv.eta' (e1 2 (by decide)))
    · exact (cpLand_3 hd).trans (hv.eta' (e1 3 (by decide)))
    · exact (cpLand_4 hd).trans (hv.eta' (e1 4 (by decide)))
  · exact cpLand_c1 hd k hk
  · exact cpLand_c2 hd k hk
  · exact cpLand_c3 hd k hk
  · have : j = 4 ∨ j = 5 ∨ j = 6 ∨ j = 7 ∨ j = 8 ∨ j = 9 := by omega
    rcases this with rfl | rfl | rfl | rfl | rfl | rfl
    · exact cpLand_c4 hd k hk
    · exact cpLand_c5 hd k hk
    · exact cpLand_c6 hd k hk
    · exact cpLand_c7 hd k hk
    · exact cpLand_c8 hd k hk
    · exact cpLand_c9 hd k hk
  · have : k = 0 ∨ k = 1 := by omega
    rcases this with rfl | rfl
    · exact (cpLand_y0 hd).trans (hv.eta' e2)
    · exact (cpLand_y1 hd).trans (hv.eta' e3)
  · have : j = 11 ∨ j = 12 ∨ j = 13 ∨ j = 14 := by omega
    rcases this with rfl | rfl | rfl | rfl
    · exact cpLand_c11 hd k hk
    · exact cpLand_c12 hd k hk
    · exact cpLand_c13 hd k hk
    · exact cpLand_c14 hd k hk
theorem CpF.F {f t : Nat} {h g0 g : zH} (hf : f < 4) (ht : t < 4) (hv : zHv h) (hg : zHv g) (e1 : ∀ k, g 126 k = g0 126 k) (c : CpF f t h g0) : bKf (550 * f) (550 * t) h g := fun j hj => by
  rw [hv126 hg (by omega), e1, c.1 j (by omega)]
  exact (hv126 hv (by omega)).symm
theorem fRk_mark {D : zD} (hD : ∀ i, -2147483648 ≤ D.2 i ∧ D.2 i ≤ 2147483647) {h h1 h2 : zH} {v1 v2 : Int} (hZ : lZ D h) (hZ1 : lI aG1 D Fl0 lQk h1) (hR : fR h) (z1 : zRun D TLw 614 165 0 (h, zargs 0 [(2, 0)], []) (h1, some (0, v1))) (f1 : aFr lM_165 h h1) (z2 : zRun D TLw 614 276 0 (h1, zargs 0 [(2, 121)], []) (h2, some (0, v2))) (f2 : aFr lM_276 h1 h2) : fR h2 ∧ True := by
  have hR' := hR
  obtain ⟨hL0, hM, r, c, s1, s2, s3, hL⟩ := hR'
  refine ⟨⟨(lRk_mark hD hZ hZ1 hL0 z1 f1 z2 f2).1, ?_⟩, trivial⟩
  obtain ⟨t10, b0, b3⟩ := hZ.b010
  have c2 := s1.c2
  have k23 : h1 121 23 = h 121 23 := f1.keep (S := [(121, 23, 23)]) (by decide +kernel) ⟨(121, 23, 23), by decide, rfl, by decide, by decide⟩
  obtain ⟨m, hm⟩ : ∃ m : Nat, (h 0 10).2 = (m : Int) := ⟨(h 0 10).2.toNat, by omega⟩
  have r23 : h1 121 23 = (0, (m : Int)) := by rw [hZ1.hv.e23, k23, ← hL0.2.2.1.1, hm]
  rw [hm] at t10
  by_cases h3 : m = 3
  · subst h3
    have a1 := hZ.run 1 z1 (Q := fun x => x = (zset h 0 0 (0, 7), some (0, -1))) (fun N => vP_hv (fun hv => qc_mark3 TLw_T vOK_T hv t10 rfl))
    have a2 := hZ1.run 1 z2 (Q := fun x => x = (zset (zset (zset h1 121 1 (0, 0)) 121 0 (0, 0)) 121 0 (0, 7), some (0, -1))) (fun N => vP_hv (fun hv => qr_mark3 TLw_T vOK_T hv r23 rfl))
    have a1' : h1 = zset h 0 0 (0, 7) := congrArg Prod.fst a1
    have a2' : h2 = zset (zset (zset h1 121 1 (0, 0)) 121 0 (0, 0)) 121 0 (0, 7) := congrArg Prod.fst a2
    refine (hR.off (M := [(0, 0, 0), (121, 0, 1)]) (by decide +kernel) (fun a b hn => ?_)).2
    have n1 : ¬ (a = 121 ∧ b ≤ 1) := fun e => hn ⟨(121, 0, 1), by decide, e.1.symm, Nat.zero_le _, e.2⟩
    rw [a2', zset_ne (fun c => n1 (by omega)), zset_ne (fun c => n1 (by omega)), zset_ne (fun c => n1 (by omega)), a1']
    exact zset_ne (fun e => hn ⟨(0, 0, 0), by decide, e.1.symm, Nat.zero_le _, Nat.le_of_eq e.2⟩)
  · have hm3 : m < 3 := by omega
    have a1 : h1 = zset (zset (cpLand h c (55 + 15 * m)) 0 10 (0, (m : Int) + 1)) 0 0 (0, 0) := congrArg Prod.fst (hZ.run 1 z1 (Q := fun x => x = (zset (zset (cpLand h c (55 + 15 * m)) 0 10 (0, (m : Int) + 1)) 0 0 (0, 0), some (0, (m : Int) + 1))) (fun N => cx_mark TLw_T vOK_T c2 hm3 s2 t10))
    obtain ⟨hv2, a2⟩ := hZ1.run 1 z2 (Q := fun x => zHv x.1 ∧ CpF 0 (m + 1) (zset (zset (zset h1 121 1 (0, 0)) 121 0 (0, 0)) 121 23 (0, (m : Int) + 1)) x.1) (fun N => rx_mark TLw_T vOK_T hm3 r23)
    have hv2 : zHv h2 := hv2
    have a2 : CpF 0 (m + 1) (zset (zset (zset h1 121 1 (0, 0)) 121 0 (0, 0)) 121 23 (0, (m : Int) + 1)) h2 := a2
    have hd : c + 15 ≤ 55 + 15 * m ∨ (55 + 15 * m) + 15 ≤ c := by omega
    have q1 : ∀ a k, ¬ (a = 0 ∧ (k = 0 ∨ k = 10)) → h1 a k = cpLand h c (55 + 15 * m) a k := fun a k hn => by
      rw [a1, zset_ne (fun c => hn (by omega)), zset_ne (fun c => hn (by omega))]
    have q2 : ∀ a k, ¬ (a = 121 ∧ (k ≤ 1 ∨ k = 23)) → ¬ (a = 126 ∧ 550 * (m + 1) ≤ k ∧ k < 550 * (m + 1) + 550) → ¬ (a = 128 ∧ 6 * (m + 1) ≤ k ∧ k < 6 * (m + 1) + 6) → h2 a k = h1 a k := fun a k n1 n2 n3 => by
      rw [a2.2.2 a k (fun c => by rcases c with c | c; exact n2 c; exact n3 c), zset_ne (fun c => n1 (by omega)), zset_ne (fun c => n1 (by omega)), zset_ne (fun c => n1 (by omega))]
    have q3 : ∀ a k, ¬ (a = 0 ∧ (k = 0 ∨ k = 10)) → ¬ (55 + 15 * m ≤ a ∧ a ≤ 55 + 15 * m + 14) → ¬ (a = 121 ∧ (k ≤ 1 ∨ k = 23)) → ¬ (a = 126 ∧ 550 * (m + 1) ≤ k ∧ k < 550 * (m + 1) + 550) → ¬ (a = 128 ∧ 6 * (m + 1) ≤ k ∧ k < 6 * (m + 1) + 6) → h2 a k = h a k := fun a k n1 n2 n3 n4 n5 => ((q2 a k n3 n4 n5).trans (q1 a k n1)).trans (cpLand_ne hd a k n2)
    have j14 : ∀ {j k : Nat}, cJ j k → j ≤ 14 := fun hj => by
      unfold cJ at hj
      omega
    have kk : ∀ x, x + 14 < 55 + 15 * m ∨ 55 + 15 * m + 14 < x → 1 ≤ x → x + 14 < 121 → cKf x x h h2 := fun x hx x1 x2 j k hj => by
      have := j14 hj
      exact q3 _ _ (by omega) (by omega) (by omega) (by omega) (by omega)
    have bb : ∀ b, b < 4 → b ≠ m + 1 → bKf (550 * b) (550 * b) h h2 := fun b hb hne j hj => q3 _ _ (by omega) (by omega) (by omega) (by omega) (by omega)
    have e1 : h2 0 10 = (0, (m : Int) + 1) := by
      rw [q2 0 10 (by omega) (by omega) (by omega), a1, zset_ne (by omega), zset_same]
    refine ⟨fun m' hm' hq => ?_, r, c, s1, (q3 _ _ (by omega) (by omega) (by omega) (by omega) (by omega)).trans s2, (q3 _ _ (by omega) (by omega) (by omega) (by omega) (by omega)).trans s3, hL.tr (kk c (by omega) (by omega) (by omega)) (bb 0 (by decide) (by omega))⟩
    rw [e1] at hq
    have hq : (m' : Int) < (m : Int) + 1 := hq
    by_cases em : m' = m
    · subst em
      refine hL.tr (c' := 55 + 15 * m') (o' := 550 * (m' + 1)) ?_ ?_
      · refine (cpLand_F hZ.hv s1.ob hd).trans (fun j k hj => ?_)
        have := j14 hj
        exact (q2 _ _ (by omega) (by omega) (by omega)).trans (q1 _ _ (by omega))
      · have hb1 : bKf 0 0 h (zset (zset (zset h1 121 1 (0, 0)) 121 0 (0, 0)) 121 23 (0, (m' : Int) + 1)) := fun j hj => by
          rw [zset_ne (by omega), zset_ne (by omega), zset_ne (by omega), q1 _ _ (by omega)]
          exact cpLand_ne hd _ _ (by omega)
        exact hb1.trans (CpF.F (by decide) (by omega) (zHv.m23 hZ1.hv) hv2 (fun _ => rfl) a2)
    · exact (hM m' hm' (by omega)).tr (kk _ (by omega) (by omega) (by omega)) (bb _ (by omega) (by omega))
theorem fRk_back {D : zD} (hD : ∀ i, -2147483648 ≤ D.2 i ∧ D.2 i ≤ 2147483647) {h h1 h2 : zH} {v1 v2 : Int} (hZ : lZ D h) (hZ1 : lI aG1 D Fl0 lQb h1) (hR : fR h) (z1 : zRun D TLw 614 144 0 (h, zargs 0 [(2, 0)], []) (h1, some (0, v1))) (f1 : aFr lM_144 h h1) (z2 : zRun D TLw 614 199 0 (h1, zargs 0 [(2, 121)], []) (h2, some (0, v2))) (f2 : aFr lM_199 h1 h2) : fR h2 ∧ True := by
  have hR' := hR
  obtain ⟨hL0, hM, r, c, s1, s2, s3, hL⟩ := hR'
  refine ⟨⟨(lRk_back hD hZ hZ1 hL0 z1 f1 z2 f2).1, ?_⟩, trivial⟩
  obtain ⟨t10, b0, b3⟩ := hZ.b010
  have c2 := s1.c2
  have k23 : h1 121 23 = h 121 23 := f1.keep (S := [(121, 23, 23)]) (by decide +kernel) ⟨(121, 23, 23), by decide, rfl, by decide, by decide⟩
  by_cases h0 : (h 0 10).2 = 0
  · rw [h0] at t10
    have r23 : h1 121 23 = (0, 0) := by rw [hZ1.hv.e23, k23, ← hL0.2.2.1.1, h0]
    have a1 := hZ.run 1 z1 (Q := fun x => x = (zset h 0 0 (0, 8), some (0, -1))) (fun N => vP_hv (fun hv => qc_back0 TLw_T vOK_T hv t10 rfl))
    have a2 := hZ1.run 1 z2 (Q := fun x => x = (zset (zset (zset h1 121 1 (0, 0)) 121 0 (0, 0)) 121 0 (0, 8), some (0, -1))) (fun N => vP_hv (fun hv => qr_back0 TLw_T vOK_T hv r23 rfl))
    have a1' : h1 = zset h 0 0 (0, 8) := congrArg Prod.fst a1
    have a2' : h2 = zset (zset (zset h1 121 1 (0, 0)) 121 0 (0, 0)) 121 0 (0, 8) := congrArg Prod.fst a2
    refine (hR.off (M := [(0, 0, 0), (121, 0, 1)]) (by decide +kernel) (fun a b hn => ?_)).2
    have n1 : ¬ (a = 121 ∧ b ≤ 1) := fun e => hn ⟨(121, 0, 1), by decide, e.1.symm, Nat.zero_le _, e.2⟩
    rw [a2', zset_ne (fun c => n1 (by omega)), zset_ne (fun c => n1 (by omega)), zset_ne (fun c => n1 (by omega)), a1']
    exact zset_ne (fun e => hn ⟨(0, 0, 0), by decide, e.1.symm, Nat.zero_le _, Nat.le_of_eq e.2⟩)
  · obtain ⟨m, hm⟩ : ∃ m : Nat, (h 0 10).2 = (m : Int) + 1 := ⟨((h 0 10).2 - 1).toNat, by omega⟩
    have r23 : h1 121 23 = (0, (m : Int) + 1) := by rw [hZ1.hv.e23, k23, ← hL0.2.2.1.1, hm]
    rw [hm] at t10
    have hm3 : m < 3 := by omega
    have a1 : h1 = zset (cpLand (zset h 0 10 (0, (m : Int))) (55 + 15 * m) c) 0 0 (0, 0) := congrArg Prod.fst (hZ.run 1 z1 (Q := fun x => x = (zset (cpLand (zset h 0 10 (0, (m : Int))) (55 + 15 * m) c) 0 0 (0, 0), some (0, (m : Int)))) (fun N => cx_back TLw_T vOK_T c2 hm3 s2 t10))
    obtain ⟨hv2, g, a2, a3⟩ := hZ1.run 1 z2 (Q := fun x => zHv x.1 ∧ ∃ g, CpF (m + 1) 0 (zset (zset h1 121 1 (0, 0)) 121 0 (0, 0)) g ∧ x.1 = zset g 121 23 (0, (m : Int))) (fun N => rx_back TLw_T vOK_T hm3 r23)
    have hv2 : zHv h2 := hv2
    have a3 : h2 = zset g 121 23 (0, (m : Int)) := a3
    have hd : 55 + 15 * m + 15 ≤ c ∨ c + 15 ≤ 55 + 15 * m := by omega
    have q0 : ∀ a k, ¬ (a = 0 ∧ (k = 0 ∨ k = 10)) → zset h 0 10 (0, (m : Int)) a k = h a k := fun a k hn => zset_ne (fun c => hn (by omega))
    have q1 : ∀ a k, ¬ (a = 0 ∧ (k = 0 ∨ k = 10)) → h1 a k = cpLand (zset h 0 10 (0, (m : Int))) (55 + 15 * m) c a k := fun a k hn => by
      rw [a1, zset_ne (fun c => hn (by omega))]
    have qg : ∀ a k, ¬ (a = 121 ∧ k = 23) → h2 a k = g a k := fun a k hn => by rw [a3, zset_ne hn]
    have q2 : ∀ a k, ¬ (a = 121 ∧ (k ≤ 1 ∨ k = 23)) → ¬ (a = 126 ∧ k < 550) → ¬ (a = 128 ∧ k < 6) → h2 a k = h1 a k := fun a k n1 n2 n3 => by
      rw [qg a k (fun c => n1 (by omega)), a2.2.2 a k (fun c => by omega), zset_ne (fun c => n1 (by omega)), zset_ne (fun c => n1 (by omega))]
    have q3 : ∀ a k, ¬ (a = 0 ∧ (k = 0 ∨ k = 10)) → ¬ (c ≤ a ∧ a ≤ c + 14) → ¬ (a = 121 ∧ (k ≤ 1 ∨ k = 23)) → ¬ (a = 126 ∧ k < 550) → ¬ (a = 128 ∧ k < 6) → h2 a k = h a k := fun a k n1 n2 n3 n4 n5 => (((q2 a k n3 n4 n5).trans (q1 a k n1)).trans (cpLand_ne hd a k n2)).trans (q0 a k n1)
    have j14 : ∀ {j k : Nat}, cJ j k → j ≤ 14 := fun hj => by
      unfold cJ at hj
      omega
    have e1 : h2 0 10 = (0, (m : Int)) := by
      rw [q2 0 10 (by omega) (by omega) (by omega), a1, zset_ne (by omega), cpLand_ne hd 0 10 (by omega), zset_same]
    have hL' := hM m hm3 (by omega)
    refine ⟨fun m' hm' hq => ?_, r, c, s1, (q3 _ _ (by omega) (by omega) (by omega) (by omega) (by omega)).trans s2, (q3 _ _ (by omega) (by omega) (by omega) (by omega) (by omega)).trans s3, ?_⟩
    · rw [e1] at hq
      have hq : (m' : Int) < (m : Int) := hq
      refine (hM m' hm' (by omega)).tr (fun j k hj => ?_) (fun j hj => q3 _ _ (by omega) (by omega) (by omega) (by omega) (by omega))
      have := j14 hj
      exact q3 _ _ (by omega) (by omega) (by omega) (by omega) (by omega)
    · refine hL'.tr (c' := c) (o' := 0) ?_ ?_
      · have k0 : cKf (55 + 15 * m) (55 + 15 * m) h (zset h 0 10 (0, (m : Int))) := fun j k hj => q0 _ _ (by omega)
        refine (k0.trans (cpLand_F (h := zset h 0 10 (0, (m : Int))) (zHv.m10 hZ.hv) (mOb hm3) hd)).trans (fun j k hj => ?_)
        have := j14 hj
        exact (q2 _ _ (by omega) (by omega) (by omega)).trans (q1 _ _ (by omega))
      · have hb1 : bKf (550 * (m + 1)) (550 * (m + 1)) h (zset (zset h1 121 1 (0, 0)) 121 0 (0, 0)) := fun j hj => by
          rw [zset_ne (by omega), zset_ne (by omega), q1 _ _ (by omega), cpLand_ne hd _ _ (by omega)]
          exact q0 _ _ (by omega)
        exact hb1.trans (CpF.F (t := 0) (by omega) (by decide) (zHv.m01 hZ1.hv) hv2 (fun _ => qg _ _ (by omega)) a2)
