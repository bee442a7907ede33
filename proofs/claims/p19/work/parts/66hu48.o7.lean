/-! orders(n) on both sides, with what they say -/
theorem orders_both7 {D : zD} {h h1 h2 : zH} {n v1 v2 : Int} {c : Nat} {P : PT} (hc : c = 24 ∨ c = 39) (e7 : h 0 7 = (2, (c : Int))) (hP : cP c P h) (hr : rP 0 P h) (hb : lB P) (hZ : lZ D h) (hZ1 : lZ D h1) (hR : lT h) (z1 : zRun D TLw 614 170 0 (h, zargs 0 [(2, 0), (0, n)], []) (h1, some (0, v1))) (f1 : aFr lM_170 h h1) (z2 : zRun D TLw 614 289 0 (h1, zargs 0 [(2, 121), (0, n)], []) (h2, some (0, v2))) (hn0 : 0 ≤ n) (hl : n ≤ (h 10 1).2) (h3 : n ≤ 300) (hv : v1 = v2) : rOG h1 h2 ∧ ((v1 = -1 ∧ (∀ a j, c + 10 ≤ a → a ≤ c + 14 → h1 a j = h a j) ∧ ∀ j, j < 550 → h2 126 j = h1 126 j) ∨ ∃ t : OT, oOk P t ∧ tS t ≤ 30 ∧ tN t ≤ 60 ∧ h1 (c + 10) 0 = (0, ((tN t : Nat) : Int)) ∧ h1 (c + 10) 1 = (0, ((tS t : Nat) : Int)) ∧ cLay c h1 t 0 ∧ h2 126 275 = (0, 1) ∧ h2 126 276 = (0, ((tS t : Nat) : Int)) ∧ rLay 0 (P 0 0).toNat h2 t 0) := by
  have b10 := hZ.b10
  have k1 : h1 121 8 = h 121 8 := f1.keep (S := tpR) (by decide +kernel) tpR_in
  have kr : tK (tR h1) (tR h) := tK_r f1 (by decide +kernel)
  have hR1 : (h 10 1).2 = (h 121 8).2 := hR.1
  obtain ⟨m', rfl⟩ : ∃ m' : Nat, n = (m' : Int) := ⟨n.toNat, by omega⟩
  have hn9 : m' ≤ 900 := by omega
  have bk : bK 0 0 h h1 := bK_fr f1 (by decide +kernel) (by decide)
  have hr1 := hr.tr hb bk
  have a1 : cOd7 c (lB2 h) m' P h (h1, some (0, v1)) := by
    rcases hc with rfl | rfl
    · exact hZ.run 3 z1 (Q := cOd7 24 (lB2 h) m' P h) (fun N => co7_ord_24 TLw_T vOK_T (hZ.tx hn9) hP hb e7 (by omega) (by omega))
    · exact hZ.run 3 z1 (Q := cOd7 39 (lB2 h) m' P h) (fun N => co7_ord_39 TLw_T vOK_T (hZ.tx hn9) hP hb e7 (by omega) (by omega))
  obtain ⟨m, τ, hK, hh⟩ := a1
  have a2 := hZ1.run 3 z2 (Q := rOd7 τ P h1) (fun N => rx_orders7 TLw_T vOK_T hb hr1.1.1 hr1.1.2.1 hr1.1.2.2.1 hr1.1.2.2.2 (fun k hk => by
    have w := (hr1.2.2 k hk).1
    rw [show 6 * 0 + k = k by omega] at w
    exact w) hK (hZ.tx hn9).1 (fun q hq => by
      rw [hZ1.bt q (by omega)]
      refine congrArg (Prod.mk (0 : Nat)) ?_
      have w := kr.2 q (by omega)
      exact w.trans (hR.2 q (by omega) (by show (q : Int) < (h 10 1).2; omega)).symm) (by rw [k1, ← hR1]; omega) (by omega))
  obtain ⟨fg, a2⟩ := a2
  refine ⟨fg, ?_⟩
  rcases hh with ⟨q1, q2⟩ | ⟨t, i, q1, q2, q3, q4, q5, q6, q7, q8⟩
  · have q1 : v1 = -1 := by cases (q1 : some ((0, v1) : zV) = some (0, -1)); rfl
    rcases a2 with ⟨p1, p2⟩ | ⟨t', i', p1, p2, p3, _⟩
    · exact Or.inl ⟨q1, q2, p2⟩
    · have p3 : v2 = ((tS t' : Nat) : Int) := by cases (p3 : some ((0, v2) : zV) = some (0, ((tS t' : Nat) : Int))); rfl
      omega
  · have q3 : v1 = ((tS t : Nat) : Int) := by cases (q3 : some ((0, v1) : zV) = some (0, ((tS t : Nat) : Int))); rfl
    rcases a2 with ⟨p1, _⟩ | ⟨t', i', p1, p2, p3, p4, p5, p6⟩
    · have p1 : v2 = -1 := by cases (p1 : some ((0, v2) : zV) = some (0, -1)); rfl
      omega
    · obtain ⟨rfl, _⟩ := oSp_u t t' q1 p1 (Or.inl q2) (Or.inl p2)
      exact Or.inr ⟨t, oSp_ok hb t q1, q4, q5, q6, q7, q8, p4, p5, p6⟩
theorem orders_out {D : zD} {h h1 h2 : zH} {n v1 v2 : Int} (hZ : lZ D h) (hZ1 : lZ D h1) (hR : lT h) (z1 : zRun D TLw 614 170 0 (h, zargs 0 [(2, 0), (0, n)], []) (h1, some (0, v1))) (f1 : aFr lM_170 h h1) (z2 : zRun D TLw 614 289 0 (h1, zargs 0 [(2, 121), (0, n)], []) (h2, some (0, v2))) (ho : ¬ (0 ≤ n ∧ n ≤ (h 10 1).2 ∧ n ≤ 300)) : h1 = zset h 0 0 (0, 5) ∧ (∀ a b, ¬ (a = 121 ∧ b ≤ 1) → h2 a b = h1 a b) := by
  have k1 : h1 121 8 = h 121 8 := f1.keep (S := tpR) (by decide +kernel) tpR_in
  have hR1 : (h 10 1).2 = (h 121 8).2 := hR.1
  have key : h1 = zset h 0 0 (0, 5) → (h2, some ((0, v2) : zV)) = (zset (zset (zset h1 121 1 (0, 0)) 121 0 (0, 0)) 121 0 (0, 5), some (0, -1)) → (h1 = zset h 0 0 (0, 5) ∧ (∀ a b, ¬ (a = 121 ∧ b ≤ 1) → h2 a b = h1 a b)) := fun q1 a2 => by
    have a2' : h2 = zset (zset (zset h1 121 1 (0, 0)) 121 0 (0, 0)) 121 0 (0, 5) := congrArg Prod.fst a2
    refine ⟨q1, fun a b hab => ?_⟩
    rw [a2', zset_ne (fun c => hab (by omega)), zset_ne (fun c => hab (by omega)), zset_ne (fun c => hab (by omega))]
  have kc : (h1, some ((0, v1) : zV)) = (zset h 0 0 (0, 5), some (0, -1)) → h1 = zset h 0 0 (0, 5) := fun a1 => congrArg Prod.fst a1
  by_cases hn : n < 0
  · exact key (kc (hZ.run 3 z1 (Q := fun x => x = (zset h 0 0 (0, 5), some (0, -1))) (fun N => vP_hv (fun hv => qc_ordx TLw_T vOK_T n hv hn rfl)))) (hZ1.run 3 z2 (Q := fun x => x = (zset (zset (zset h1 121 1 (0, 0)) 121 0 (0, 0)) 121 0 (0, 5), some (0, -1))) (fun N => vP_hv (fun hv => qr_ordx TLw_T vOK_T n hv hn rfl)))
  by_cases hl : (h 10 1).2 < n
  · exact key (kc (hZ.run 3 z1 (Q := fun x => x = (zset h 0 0 (0, 5), some (0, -1))) (fun N => vP_hv (fun hv => qc_ordy TLw_T vOK_T n hv (by omega) hl rfl)))) (hZ1.run 3 z2 (Q := fun x => x = (zset (zset (zset h1 121 1 (0, 0)) 121 0 (0, 0)) 121 0 (0, 5), some (0, -1))) (fun N => vP_hv (fun hv => qr_ordy TLw_T vOK_T n hv (by omega) (by rw [k1, ← hR1]; exact hl) rfl)))
  · exact key (kc (hZ.run 3 z1 (Q := fun x => x = (zset h 0 0 (0, 5), some (0, -1))) (fun N => vP_hv (fun hv => qc_ordz TLw_T vOK_T n hv (by omega) (by omega) (by omega) rfl)))) (hZ1.run 3 z2 (Q := fun x => x = (zset (zset (zset h1 121 1 (0, 0)) 121 0 (0, 0)) 121 0 (0, 5), some (0, -1))) (fun N => vP_hv (fun hv => qr_ordz TLw_T vOK_T n hv (by omega) (by rw [k1, ← hR1]; omega) (by omega) rfl)))
theorem rBk.tr5 {P : PT} {h h' : zH} (g : rBk 0 P h) (lb : lB P) (f : ∀ j, j < 275 → h' 126 j = h 126 j) : rBk 0 P h' := by
  obtain ⟨⟨a0, a1, a2, a3, a4⟩, b1, b2, b3⟩ := g
  refine ⟨⟨(f 0 (by decide)).trans a0, (f 1 (by decide)).trans a1, (f 2 (by decide)).trans a2, (f 3 (by decide)).trans a3, (f 4 (by decide)).trans a4⟩, fun q i => ?_, fun k q hk i => ?_, fun k hk => ?_⟩
  · have := gJ_lt lb i
    exact ⟨(f _ (by omega)).trans (b1 q i).1, (f _ (by omega)).trans (b1 q i).2⟩
  · have := gJ_lt lb i
    exact (f _ (by omega)).trans (b2 k _ hk i)
  · have := lb.2.2.2.2
    obtain ⟨c1, c2, c3, c4, c5⟩ := b3 k hk
    exact ⟨(f _ (by omega)).trans c1, (f _ (by omega)).trans c2, (f _ (by omega)).trans c3, (f _ (by omega)).trans c4, (f _ (by omega)).trans c5⟩
theorem cP.sh {c : Nat} {P P' : PT} {h : zH} (g : cP c P h) (g' : cP c P' h) : pSh P' P := by
  obtain ⟨⟨a0, a1, a2, a3, _⟩, _⟩ := g
  obtain ⟨⟨b0, b1, b2, b3, _⟩, _⟩ := g'
  exact ⟨congrArg Prod.snd (a0.symm.trans b0), congrArg Prod.snd (a1.symm.trans b1), congrArg Prod.snd (a2.symm.trans b2), congrArg Prod.snd (a3.symm.trans b3)⟩
theorem fRk_orders {D : zD} (hD : ∀ i, -2147483648 ≤ D.2 i ∧ D.2 i ≤ 2147483647) {h h1 h2 : zH} {n v1 v2 : Int} (hZ : lZ D h) (hZ1 : lZ D h1) (hR : fR h) (z1 : zRun D TLw 614 170 0 (h, zargs 0 [(2, 0), (0, n)], []) (h1, some (0, v1))) (f1 : aFr lM_170 h h1) (z2 : zRun D TLw 614 289 0 (h1, zargs 0 [(2, 121), (0, n)], []) (h2, some (0, v2))) (f2 : aFr lM_289 h1 h2) : fR h2 ∧ v1 = v2 := by
  have hR' := hR
  obtain ⟨hL0, hM, r, c, s1, s2, s3, hL⟩ := hR'
  have R0 := lRk_orders hD hZ hZ1 hL0 z1 f1 z2 f2
  refine ⟨⟨R0.1, ?_⟩, R0.2⟩
  have c2 := s1.c2
  have off : h1 = zset h 0 0 (0, 5) → (∀ a b, ¬ (a = 121 ∧ b ≤ 1) → h2 a b = h1 a b) → fX h2 := fun a3 a4 => by
    refine (hR.off (M := [(0, 0, 0), (121, 0, 1)]) (by decide +kernel) (fun a b hn => ?_)).2
    rw [a4 a b (fun e => hn ⟨(121, 0, 1), by decide, e.1.symm, Nat.zero_le _, e.2⟩), a3]
    exact zset_ne (fun e => hn ⟨(0, 0, 0), by decide, e.1.symm, Nat.zero_le _, Nat.le_of_eq e.2⟩)
  by_cases hn : 0 ≤ n ∧ n ≤ (h 10 1).2 ∧ n ≤ 300
  rotate_left
  · obtain ⟨a3, a4⟩ := orders_out hZ hZ1 hL0.1 z1 f1 z2 hn
    exact off a3 a4
  obtain ⟨n0, n1, n3⟩ := hn
  have hS : sLd c 0 h := by
    obtain ⟨_, _, _, rr', cc', t1, t2, t3, u⟩ := hL0
    have ec : cc' = c := by
      rw [s2] at t2
      have := congrArg Prod.snd t2
      have : (c : Int) = (cc' : Int) := this
      omega
    rw [← ec]
    exact u
  obtain ⟨P', u1, u2, u3, _⟩ := hS.full hZ.hv s1.ob
  have hc : ∀ c, cOb c → cKf c c h1 h2 := fun c hc => cKf_S (fun a k hi => f2.keep (by decide +kernel) hi) hc
  have hb : ∀ b, b < 4 → bKf (550 * b) (550 * b) h h1 := fun b hb => bKf_S (fun a k hi => f1.keep (by decide +kernel) hi) hb
  have k1 : ∀ a k, aIn [(0, 7, 8), (0, 10, 10)] a k → h1 a k = h a k := fun a k hi => f1.keep (S := [(0, 7, 8), (0, 10, 10)]) (by decide +kernel) hi
  have k2 : ∀ a k, aIn [(0, 7, 8), (0, 10, 10)] a k → h2 a k = h1 a k := fun a k hi => f2.keep (S := [(0, 7, 8), (0, 10, 10)]) (by decide +kernel) hi
  have e7 : h2 0 7 = h 0 7 := (k2 0 7 ⟨(0, 7, 8), by decide, rfl, by decide, by decide⟩).trans (k1 0 7 ⟨(0, 7, 8), by decide, rfl, by decide, by decide⟩)
  have e8 : h2 0 8 = h 0 8 := (k2 0 8 ⟨(0, 7, 8), by decide, rfl, by decide, by decide⟩).trans (k1 0 8 ⟨(0, 7, 8), by decide, rfl, by decide, by decide⟩)
  have e10 : h2 0 10 = h 0 10 := (k2 0 10 ⟨(0, 10, 10), by decide, rfl, by decide, by decide⟩).trans (k1 0 10 ⟨(0, 10, 10), by decide, rfl, by decide, by decide⟩)
  have j14 : ∀ {j k : Nat}, cJ j k → j ≤ 14 := fun hj => by
    unfold cJ at hj
    omega
  rcases orders_both c2 s2 u1 u2 u3 hZ hZ1 hL0.1 z1 f1 z2 with ⟨a1, a2, a3, a4⟩ | ⟨lf, _, _⟩
  · exact off a3 a4
  · obtain ⟨lg, hh7⟩ := orders_both7 c2 s2 u1 u2 u3 hZ hZ1 hL0.1 z1 f1 z2 n0 n1 n3 R0.2
    have lm : ∀ m, m < 3 → cKf (55 + 15 * m) (55 + 15 * m) h h2 := fun m hm => by
      refine cKf.trans (fun j k hj => lf _ _ ?_) (hc _ (mOb hm))
      have := j14 hj
      rcases c2 with rfl | rfl <;> omega
    have bm : ∀ m, m < 3 → bKf (550 * (m + 1)) (550 * (m + 1)) h h2 := fun m hm => (hb _ (by omega)).trans (fun j hj => lg _ _ (fun c => by omega))
    have mk : fMk h2 := fun m hm hq => by
      rw [e10] at hq
      exact (hM m hm hq).tr (lm m hm) (bm m hm)
    have ho := hc c s1.ob
    have lo : ∀ a b, c ≤ a → a ≤ c + 9 → h1 a b = h a b := fun a b h1 h2 => lf _ _ (by rcases c2 with rfl | rfl <;> omega)
    rcases hh7 with ⟨b1, b2, b3⟩ | ⟨t, b1, b2, b3, b4, b5, b6, b7, b8, b9⟩
    · refine ⟨mk, r, c, s1, e7.trans s2, e8.trans s3, hL.tr (cKf.trans (fun j k hj => ?_) ho) ((hb 0 (by decide)).trans (fun j hj => ?_))⟩
      · by_cases q : 10 ≤ j
        · exact b2 _ _ (by omega) (by have := j14 hj; omega)
        · exact lo _ _ (by omega) (by omega)
      · rw [show 550 * 0 + j = j from by omega]
        exact b3 j (by omega)
    · obtain ⟨P, g1, g2, g3, g4, g5⟩ := hL
      have sh := cP.sh g1 u1
      refine ⟨mk, r, c, s1, e7.trans s2, e8.trans s3, P, (g1.eq lo).tr g3.1.2.2.2.2 ho, ?_, g3, g4, Or.inr ⟨t, sh.ok b1, b2, b3, (ho 10 0 (by unfold cJ; omega)).trans b4, (ho 10 1 (by unfold cJ; omega)).trans b5, b6.tr (fun j k h1 h2 h3 => ho j k (by unfold cJ; omega)) (by omega), b7, b8, ?_⟩⟩
      · refine g2.tr5 g3.1 (fun j hj => (lg 126 j (fun c => by omega)).trans ?_)
        have := hb 0 (by decide) j (by omega)
        rw [show 550 * 0 + j = j from by omega] at this
        exact this
      · rw [sh.1]
        exact b9
/-! feed: the tape alone -/
abbrev fxS : aM := fz0 ++ (cAf ++ bAf)
theorem fX_K {h h' : zH} (he : ∀ a k, aIn fxS a k → h' a k = h a k) (g : fX h) : fX h' := by
  obtain ⟨hM, r, c, s1, s2, s3, hL⟩ := g
  have hc : ∀ a k, aIn cAf a k → h' a k = h a k := fun a k hi => he a k (aIn_r (aIn_l hi))
  have hb : ∀ a k, aIn bAf a k → h' a k = h a k := fun a k hi => he a k (aIn_r (aIn_r hi))
  have h0 : ∀ a k, aIn fz0 a k → h' a k = h a k := fun a k hi => he a k (aIn_l hi)
  refine ⟨fun m hm hq => ?_, r, c, s1, (h0 _ _ ⟨(0, 7, 8), by decide, rfl, by decide, by decide⟩).trans s2, (h0 _ _ ⟨(0, 7, 8), by decide, rfl, by decide, by decide⟩).trans s3, hL.tr (cKf_S hc s1.ob) (bKf_S hb (b := 0) (by decide))⟩
  rw [h0 0 10 ⟨(0, 10, 10), by decide, rfl, by decide, by decide⟩] at hq
  exact (hM m hm hq).tr (cKf_S hc (mOb hm)) (bKf_S hb (by omega))
theorem fRk_feed {D : zD} (hD : ∀ i, -2147483648 ≤ D.2 i ∧ D.2 i ≤ 2147483647) {h h1 h2 : zH} {a b c d e v1 v2 : Int} (hZ : lZ D h) (hZ1 : lZ D h1) (hR : fR h) (z1 : zRun D TLw 614 155 0 (h, zargs 0 [(2, 0), (0, a), (0, b), (0, c), (0, d), (0, e)], []) (h1, some (0, v1))) (f1 : aFr lM_155 h h1) (z2 : zRun D TLw 614 227 0 (h1, zargs 0 [(2, 121), (0, a), (0, b), (0, c), (0, d), (0, e)], []) (h2, some (0, v2))) (f2 : aFr lM_227 h1 h2) : fR h2 ∧ v1 = v2 := by
  have R0 := lRk_feed hD hZ hZ1 hR.1 z1 f1 z2 f2
  exact ⟨⟨R0.1, fX_K (fun a k hi => (f2.keep (by decide +kernel) hi).trans (f1.keep (by decide +kernel) hi)) hR.2⟩, R0.2⟩
