/-- what land(n) comes to on both sides (h: ahead of it, h1: between, h2: behind) -/
theorem land_both7 {D : zD} {h h1 h2 : zH} {n v1 v2 : Int} {r c : Nat} (hrc : lSw r c) (e7 : h 0 7 = (2, (c : Int))) (e8 : h 0 8 = (2, (r : Int))) (hZ : lZ D h) (hZ1 : lZ D h1) (hR : lT h) (z1 : zRun D TLw 614 162 0 (h, zargs 0 [(2, 0), (0, n)], []) (h1, some (0, v1))) (f1 : aFr lM_162 h h1) (z2 : zRun D TLw 614 268 0 (h1, zargs 0 [(2, 121), (0, n)], []) (h2, some (0, v2))) (f2 : aFr lM_268 h1 h2) : (v1 = -1 ∧ v2 = -1 ∧ h1 = zset h 0 0 (0, 5) ∧ (∀ a b, ¬ (a = 121 ∧ b ≤ 1) → h2 a b = h1 a b)) ∨ (cLf r h h1 ∧ h1 0 10 = h 0 10 ∧ ((∃ e : Er, v1 = -1 ∧ v2 = -1 ∧ h1 10 9 = (0, e.1) ∧ h1 10 10 = (0, e.2) ∧ h1 0 7 = (2, (c : Int)) ∧ h1 0 8 = (2, (r : Int)) ∧ h2 121 10 = (0, e.1) ∧ h2 121 11 = (0, e.2) ∧ rG 0 h1 h2) ∨ (∃ P, pV P ∧ v1 = P 0 3 ∧ v2 = P 0 3 ∧ h1 10 9 = (0, 0) ∧ h1 10 10 = (0, -1) ∧ h1 0 7 = (2, (r : Int)) ∧ h1 0 8 = (2, (c : Int)) ∧ cP r P h1 ∧ lB P ∧ h1 (r + 10) 0 = (0, -1) ∧ h1 (r + 10) 1 = (0, 0) ∧ h2 121 10 = (0, 0) ∧ h2 121 11 = (0, -1) ∧ rP 0 P h2 ∧ rD 0 P h2 ∧ rG 1 h1 h2))) := by
  have b10 := hZ.b10
  have k1 : h1 121 8 = h 121 8 := f1.keep (S := tpR) (by decide +kernel) tpR_in
  have kr : tK (tR h1) (tR h) := tK_r f1 (by decide +kernel)
  have hR1 : (h 10 1).2 = (h 121 8).2 := hR.1
  by_cases hn : n < 0
  · have a1 := hZ.run 4 z1 (Q := fun x => x = (zset h 0 0 (0, 5), some (0, -1))) (fun N => vP_hv (fun hv => qc_landn TLw_T vOK_T n hv hn rfl))
    have a2 := hZ1.run 3 z2 (Q := fun x => x = (zset (zset (zset h1 121 1 (0, 0)) 121 0 (0, 0)) 121 0 (0, 5), some (0, -1))) (fun N => vP_hv (fun hv => qr_landn TLw_T vOK_T n hv hn rfl))
    refine Or.inl ⟨?_, ?_, congrArg Prod.fst a1, fun a b hab => ?_⟩
    · cases (congrArg Prod.snd a1 : some ((0, v1) : zV) = some (0, -1)); rfl
    · cases (congrArg Prod.snd a2 : some ((0, v2) : zV) = some (0, -1)); rfl
    · have a2' : h2 = zset (zset (zset h1 121 1 (0, 0)) 121 0 (0, 0)) 121 0 (0, 5) := congrArg Prod.fst a2
      rw [a2', zset_ne (fun c => hab (by omega)), zset_ne (fun c => hab (by omega)), zset_ne (fun c => hab (by omega))]
  · obtain ⟨m', rfl⟩ : ∃ m' : Nat, n = (m' : Int) := ⟨n.toNat, by omega⟩
    by_cases hl : (h 10 1).2 < (m' : Int)
    · have q0 : vP D TLw 1 0 0 h [] [] (fun _ => True) := fun _ _ _ _ _ => trivial
      have a1 : (h1, some ((0, v1) : zV)) = (zset h 0 0 (0, 5), some (0, -1)) := by
        rcases hrc with ⟨rfl, rfl⟩ | ⟨rfl, rfl⟩
        · exact hZ.run 4 z1 (Q := fun x => x = (zset h 0 0 (0, 5), some (0, -1))) (fun N => vP_hv (fun hv => qc_landH TLw_T vOK_T m' hv hl rfl))
        · exact hZ.run 4 z1 (Q := fun x => x = (zset h 0 0 (0, 5), some (0, -1))) (fun N => vP_hv (fun hv => qc_landH TLw_T vOK_T m' hv hl rfl))
      have a2 := hZ1.run 3 z2 (Q := fun x => x = (zset (zset (zset h1 121 1 (0, 0)) 121 0 (0, 0)) 121 0 (0, 5), some (0, -1))) (fun N => vP_hv (fun hv => qr_landH TLw_T vOK_T m' hv (by rw [k1, ← hR1]; exact hl) rfl))
      refine Or.inl ⟨?_, ?_, congrArg Prod.fst a1, fun a b hab => ?_⟩
      · cases (congrArg Prod.snd a1 : some ((0, v1) : zV) = some (0, -1)); rfl
      · cases (congrArg Prod.snd a2 : some ((0, v2) : zV) = some (0, -1)); rfl
      · have a2' : h2 = zset (zset (zset h1 121 1 (0, 0)) 121 0 (0, 0)) 121 0 (0, 5) := congrArg Prod.fst a2
        rw [a2', zset_ne (fun c => hab (by omega)), zset_ne (fun c => hab (by omega)), zset_ne (fun c => hab (by omega))]
    · have hn9 : m' ≤ 900 := by omega
      have a1 : cLd r c (lB2 h) m' h (h1, some (0, v1)) := by
        rcases hrc with ⟨rfl, rfl⟩ | ⟨rfl, rfl⟩
        · exact hZ.run 4 z1 (Q := cLd 24 39 (lB2 h) m' h) (fun N => cx_land_24 TLw_T vOK_T (hZ.tx hn9) e7 e8)
        · exact hZ.run 4 z1 (Q := cLd 39 24 (lB2 h) m' h) (fun N => cx_land_39 TLw_T vOK_T (hZ.tx hn9) e7 e8)
      rcases a1 with ⟨d, _⟩ | ⟨_, lf, e10, m, τ, hK, hh⟩
      · exact absurd d hl
      · have a2 := hZ1.run 3 z2 (Q := rLr τ h1) (fun N => rx_land TLw_T vOK_T hK (hZ.tx hn9).1 (fun q hq => by
          rw [hZ1.bt q (by omega)]
          refine congrArg (Prod.mk (0 : Nat)) ?_
          have w := kr.2 q (by omega)
          exact w.trans (hR.2 q (by omega) (by show (q : Int) < (h 10 1).2; omega)).symm) (by rw [k1, ← hR1]; omega))
        refine Or.inr ⟨lf, e10, ?_⟩
        rcases hh with ⟨e, q1, q2, q3, q4, q5, q6⟩ | ⟨P, q1, q2, q3, q4, q5, q6, q7, q8, q9, q10⟩
        · rcases a2 with ⟨e', p1, p2, p3, p4, p5⟩ | ⟨P', p1, _⟩
          · rw [q1] at p1
            cases p1
            refine Or.inl ⟨e, ?_, ?_, q3, q4, q5, q6, p3, p4, p5⟩
            · cases (q2 : some ((0, v1) : zV) = some (0, -1)); rfl
            · cases (p2 : some ((0, v2) : zV) = some (0, -1)); rfl
          · rw [q1] at p1; cases p1
        · rcases a2 with ⟨e', p1, _⟩ | ⟨P', p1, p2, p3, p4, p5, p6, p7, p8⟩
          · rw [q1] at p1; cases p1
          · rw [q1] at p1
            cases p1
            refine Or.inr ⟨P, pLand_V q1, ?_, ?_, q3, q4, q5, q6, q7, q8, q9, q10, p3, p4, p5, p6, p8⟩
            · cases (q2 : some ((0, v1) : zV) = some (0, P 0 3)); rfl
            · cases (p2 : some ((0, v2) : zV) = some (0, P 0 3)); rfl
theorem rBk_land {P : PT} {h : zH} (v : pV P) (lb : lB P) (g : rP 0 P h) (d : rD 0 P h) : rBk 0 P h := by
  obtain ⟨a1, a2, a3, a4, a5, a6, a7, a8⟩ := v
  obtain ⟨⟨g0, g1, g2, g3⟩, g4, g5⟩ := g
  obtain ⟨d1, d2⟩ := d
  have w0 := lb.1.1
  have ec : ∀ x : Int, 0 ≤ x → cc (P 0 0) x = ((gJ P x.toNat : Nat) : Int) := fun x hx => by
    unfold cc
    rw [gJ_i w0, show ((x.toNat / 8 : Nat) : Int) = x / 8 from by omega, show ((x.toNat % 8 : Nat) : Int) = x % 8 from by omega]
  refine ⟨⟨g0, g1, g2, g3, by rw [a6]; exact d2 4 (Or.inl rfl)⟩, fun q gq => ?_, fun k q hk gq => ?_, fun k hk => ?_⟩
  · have j := gJ_i w0 q
    have l := gJ_lt lb gq
    obtain ⟨q0, q1, q2⟩ := gq
    have r6 := lb.2.1.2
    obtain ⟨x1, x2⟩ := g4 ((q % 8 : Nat) : Int) ((q / 8 : Nat) : Int) (by omega) q1 (by omega) (by omega)
    rw [← j] at x1 x2
    have ep : pCl ((q % 8 : Nat) : Int) ((q / 8 : Nat) : Int) = q := by unfold pCl; omega
    rw [ep] at x1 x2
    rw [show 0 + 5 + gJ P q = 550 * 0 + (5 + ((gJ P q : Nat) : Int)).toNat from by omega, show 0 + 53 + gJ P q = 550 * 0 + (53 + ((gJ P q : Nat) : Int)).toNat from by omega]
    exact ⟨x1, x2⟩
  · have l := gJ_lt lb gq
    have x := d2 (101 + 48 * k + gJ P q) (Or.inr (Or.inl (by omega)))
    rw [a7, show 0 + 101 + 48 * k + gJ P q = 550 * 0 + (101 + 48 * k + gJ P q) from by omega]
    exact x
  · have k6 : k < 6 := by have := lb.2.2.2.2; omega
    obtain ⟨⟨b5, _⟩, ⟨b6, _⟩, ⟨b7, _⟩, _, b9⟩ := a8 k hk
    obtain ⟨x1, x2, x3⟩ := g5 k hk
    obtain ⟨y1, y2⟩ := d1 k hk
    have z := d2 (269 + k) (Or.inr (Or.inr (by omega)))
    rw [ec _ b5] at x2
    rw [ec _ b7] at x3
    rw [ec _ b6] at y1
    rw [show 0 + 245 + k = 550 * 0 + (245 + k) from by omega, show 0 + 251 + k = 550 * 0 + (251 + k) from by omega, show 0 + 257 + k = 550 * 0 + (257 + k) from by omega, show 0 + 263 + k = 550 * 0 + (263 + k) from by omega, show 0 + 269 + k = 550 * 0 + (269 + k) from by omega]
    exact ⟨y1, x3, x2, y2, by rw [b9]; exact z⟩
theorem fB_land {D : zD} {h : zH} (hZ : lZ D h) {r : Nat} (hr : r = 24 ∨ r = 39) {P : PT} (v : pV P) (lb : lB P) (g : cP r P h) : fB P := by
  obtain ⟨a1, a2, a3, a4, a5, a6, a7, a8⟩ := v
  refine ⟨lb, fun q hq => ?_, fun i _ => by rw [a7]; decide, fun k hk => ?_⟩
  · have e1 := g.2.1 q hq
    have e2 := g.2.2.1 q hq
    rcases hr with rfl | rfl
    · have b1 := (hZ.bd (r := 25) (lo := 0) (hi := 47) (k := 0) (a := 0) (b := 4) ty_25 rfl (by decide +kernel) q (Nat.zero_le _) (by omega)).2
      have b2 := (hZ.bd (r := 26) (lo := 0) (hi := 47) (k := 0) (a := 0) (b := 9) ty_26 rfl (by decide +kernel) q (Nat.zero_le _) (by omega)).2
      rw [show h 25 q = _ from e1] at b1
      rw [show h 26 q = _ from e2] at b2
      exact ⟨b1, b2⟩
    · have b1 := (hZ.bd (r := 40) (lo := 0) (hi := 47) (k := 0) (a := 0) (b := 4) ty_40 rfl (by decide +kernel) q (Nat.zero_le _) (by omega)).2
      have b2 := (hZ.bd (r := 41) (lo := 0) (hi := 47) (k := 0) (a := 0) (b := 9) ty_41 rfl (by decide +kernel) q (Nat.zero_le _) (by omega)).2
      rw [show h 40 q = _ from e1] at b1
      rw [show h 41 q = _ from e2] at b2
      exact ⟨b1, b2⟩
  · obtain ⟨b1, b2, b3, b4, _⟩ := a8 k hk
    exact ⟨b1, b2, b3, b4⟩
theorem fRk_land {D : zD} (hD : ∀ i, -2147483648 ≤ D.2 i ∧ D.2 i ≤ 2147483647) {h h1 h2 : zH} {n v1 v2 : Int} (hZ : lZ D h) (hZ1 : lZ D h1) (hR : fR h) (z1 : zRun D TLw 614 162 0 (h, zargs 0 [(2, 0), (0, n)], []) (h1, some (0, v1))) (f1 : aFr lM_162 h h1) (z2 : zRun D TLw 614 268 0 (h1, zargs 0 [(2, 121), (0, n)], []) (h2, some (0, v2))) (f2 : aFr lM_268 h1 h2) : fR h2 ∧ v1 = v2 := by
  have hR' := hR
  obtain ⟨hL0, hM, r, c, s1, s2, s3, hL⟩ := hR'
  have R0 := lRk_land hD hZ hZ1 hL0 z1 f1 z2 f2
  refine ⟨⟨R0.1, ?_⟩, R0.2⟩
  have hc : ∀ c, cOb c → cKf c c h1 h2 := fun c hc => cKf_S (fun a k hi => f2.keep (by decide +kernel) hi) hc
  have hb : ∀ b, b < 4 → bKf (550 * b) (550 * b) h h1 := fun b hb => bKf_S (fun a k hi => f1.keep (by decide +kernel) hi) hb
  have k2 : ∀ a k, aIn [(0, 7, 8), (0, 10, 10)] a k → h2 a k = h1 a k := fun a k hi => f2.keep (S := [(0, 7, 8), (0, 10, 10)]) (by decide +kernel) hi
  have e7 := k2 0 7 ⟨(0, 7, 8), by decide, rfl, by decide, by decide⟩
  have e8 := k2 0 8 ⟨(0, 7, 8), by decide, rfl, by decide, by decide⟩
  have e10 := k2 0 10 ⟨(0, 10, 10), by decide, rfl, by decide, by decide⟩
  have j14 : ∀ {j k : Nat}, cJ j k → j ≤ 14 := fun hj => by
    unfold cJ at hj
    omega
  rcases land_both7 s1 s2 s3 hZ hZ1 hL0.1 z1 f1 z2 f2 with ⟨a1, a2, a3, a4⟩ | ⟨lf, q10, hh⟩
  · refine (hR.off (M := [(0, 0, 0), (121, 0, 1)]) (by decide +kernel) (fun a b hn => ?_)).2
    rw [a4 a b (fun e => hn ⟨(121, 0, 1), by decide, e.1.symm, Nat.zero_le _, e.2⟩), a3]
    exact zset_ne (fun e => hn ⟨(0, 0, 0), by decide, e.1.symm, Nat.zero_le _, Nat.le_of_eq e.2⟩)
  · have lm : ∀ m, m < 3 → cKf (55 + 15 * m) (55 + 15 * m) h h2 := fun m hm => by
      refine cKf.trans (fun j k hj => lf _ _ ?_) (hc _ (mOb hm))
      have := j14 hj
      rcases s1 with ⟨rfl, rfl⟩ | ⟨rfl, rfl⟩ <;> omega
    rcases hh with ⟨e, a1, a2, a3, a4, a5, a6, a7, a8, a9⟩ | ⟨P, pv, a1, a2, a3, a4, a5, a6, a7, a8, a9, a10, a11, a12, a13, a14, a15⟩
    · have gb : ∀ b, b < 4 → bKf (550 * b) (550 * b) h h2 := fun b hb4 => (hb b hb4).trans (fun j hj => a9 _ _ (fun c => by omega))
      refine ⟨fun m hm hq => ?_, r, c, s1, e7.trans a5, e8.trans a6, hL.tr ?_ (gb 0 (by decide))⟩
      · rw [e10, q10] at hq
        exact (hM m hm hq).tr (lm m hm) (gb _ (by omega))
      · refine cKf.trans (fun j k hj => lf _ _ ?_) (hc _ s1.ob)
        have := j14 hj
        rcases s1 with ⟨rfl, rfl⟩ | ⟨rfl, rfl⟩ <;> omega
    · have gb : ∀ b, b < 4 → 1 ≤ b → bKf (550 * b) (550 * b) h h2 := fun b hb4 h1b => (hb b hb4).trans (fun j hj => a15 _ _ (fun c => by omega))
      have ho := hc r s1.symm.ob
      have c2 : r = 24 ∨ r = 39 := s1.symm.c2
      refine ⟨fun m hm hq => ?_, c, r, s1.symm, e7.trans a5, e8.trans a6, P, a7.tr a8.2.2.2.2 ho, rBk_land pv a8 a13 a14, fB_land hZ1 c2 pv a8 a7, ⟨by have := pv.1.1; omega, pv.2.1.1⟩, Or.inl ⟨(ho 10 0 (by unfold cJ; omega)).trans a9, a14.2 275 (Or.inr (Or.inr (by omega)))⟩⟩
      rw [e10, q10] at hq
      exact (hM m hm hq).tr (lm m hm) (gb _ (by omega) (by omega))
