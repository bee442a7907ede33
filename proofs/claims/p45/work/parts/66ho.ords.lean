/-! orders(n) on both sides -/
theorem cOb.c0 {c : Nat} (hc : cOb c) : (∀ k, k < 5 → vCode c k = some 0) ∧ (∀ k, k < 144 → vCode (c + 3) k = some 0) ∧ (∀ k, k < 6 → vCode (c + 6) k = some 0 ∧ vCode (c + 8) k = some 0 ∧ vCode (c + 9) k = some 0) ∧ vCode (c + 10) 0 = some 0 := by
  rcases hc with rfl | rfl | rfl | rfl | rfl <;> decide +kernel
theorem sLd.full {c b : Nat} {h : zH} (hv : zHv h) (hc : cOb c) (g : sLd c b h) : ∃ P, cP c P h ∧ rP b P h ∧ lB P ∧ oFl c b h := by
  obtain ⟨P, ⟨⟨a0, a1, a2, a3⟩, a4, a5, a6⟩, hr, lb, o⟩ := g
  obtain ⟨d0, d1, d2, _⟩ := hc.c0
  refine ⟨fun a k => if a = 0 ∧ k = 4 then (h c 4).2 else if a = 3 then (h (c + 3) k).2 else if a = 6 then (h (c + 6) k).2 else if a = 8 then (h (c + 8) k).2 else if a = 9 then (h (c + 9) k).2 else P a k, ⟨⟨a0, a1, a2, a3, hv.eta (d0 4 (by decide))⟩, a4, a5, fun k hk => hv.eta (d1 k hk), fun k hk => ?_⟩, hr, lb, o⟩
  have hk : (k : Int) < P 0 3 := hk
  have h6 : k < 6 := by have := lb.2.2.2.2; omega
  obtain ⟨x1, x2, x3⟩ := a6 k hk
  obtain ⟨y1, y2, y3⟩ := d2 k h6
  exact ⟨x1, x2, hv.eta y1, x3, hv.eta y2, hv.eta y3⟩
def cOF (c : Nat) (h h1 : zH) : Prop := ∀ a b, ¬ ((a = 0 ∧ b = 0) ∨ a = 10 ∨ (12 ≤ a ∧ a ≤ 15) ∨ (17 ≤ a ∧ a ≤ 23) ∨ (c + 10 ≤ a ∧ a ≤ c + 14)) → h1 a b = h a b
theorem orders_both {D : zD} {h h1 h2 : zH} {n v1 v2 : Int} {c : Nat} {P : PT} (hc : c = 24 ∨ c = 39) (e7 : h 0 7 = (2, (c : Int))) (hP : cP c P h) (hr : rP 0 P h) (hb : lB P) (hZ : lZ D h) (hZ1 : lZ D h1) (hR : lT h) (z1 : zRun D TLw 614 170 0 (h, zargs 0 [(2, 0), (0, n)], []) (h1, some (0, v1))) (f1 : aFr lM_170 h h1) (z2 : zRun D TLw 614 289 0 (h1, zargs 0 [(2, 121), (0, n)], []) (h2, some (0, v2))) : (v1 = -1 ∧ v2 = -1 ∧ h1 = zset h 0 0 (0, 5) ∧ (∀ a b, ¬ (a = 121 ∧ b ≤ 1) → h2 a b = h1 a b)) ∨ (cOF c h h1 ∧ rOG h1 h2 ∧ ((∃ e : Er, v1 = -1 ∧ v2 = -1 ∧ h1 10 9 = (0, e.1) ∧ h1 10 10 = (0, e.2) ∧ (∀ j, h1 (c + 10) j = h (c + 10) j) ∧ h2 121 10 = (0, e.1) ∧ h2 121 11 = (0, e.2) ∧ ∀ j, j < 550 → h2 126 j = h1 126 j) ∨ (∃ s : Nat, v1 = (s : Int) ∧ v2 = (s : Int) ∧ h1 10 9 = (0, 0) ∧ h1 10 10 = (0, -1) ∧ (∃ z : Int, 0 ≤ z ∧ h1 (c + 10) 0 = (0, z)) ∧ h2 121 10 = (0, 0) ∧ h2 121 11 = (0, -1) ∧ h2 126 275 = (0, 1)))) := by
  have b10 := hZ.b10
  have k1 : h1 121 8 = h 121 8 := f1.keep (S := tpR) (by decide +kernel) tpR_in
  have kr : tK (tR h1) (tR h) := tK_r f1 (by decide +kernel)
  have hR1 : (h 10 1).2 = (h 121 8).2 := hR.1
  have key : h1 = zset h 0 0 (0, 5) → v1 = -1 → (h2, some ((0, v2) : zV)) = (zset (zset (zset h1 121 1 (0, 0)) 121 0 (0, 0)) 121 0 (0, 5), some (0, -1)) → (v1 = -1 ∧ v2 = -1 ∧ h1 = zset h 0 0 (0, 5) ∧ (∀ a b, ¬ (a = 121 ∧ b ≤ 1) → h2 a b = h1 a b)) := fun q1 q2 a2 => by
    have a2' : h2 = zset (zset (zset h1 121 1 (0, 0)) 121 0 (0, 0)) 121 0 (0, 5) := congrArg Prod.fst a2
    refine ⟨q2, ?_, q1, fun a b hab => ?_⟩
    · cases (congrArg Prod.snd a2 : some ((0, v2) : zV) = some (0, -1)); rfl
    · rw [a2', zset_ne (fun c => hab (by omega)), zset_ne (fun c => hab (by omega)), zset_ne (fun c => hab (by omega))]
  have kc : (h1, some ((0, v1) : zV)) = (zset h 0 0 (0, 5), some (0, -1)) → h1 = zset h 0 0 (0, 5) ∧ v1 = -1 := fun a1 => ⟨congrArg Prod.fst a1, by cases (congrArg Prod.snd a1 : some ((0, v1) : zV) = some (0, -1)); rfl⟩
  by_cases hn : n < 0
  · obtain ⟨q1, q2⟩ := kc (hZ.run 3 z1 (Q := fun x => x = (zset h 0 0 (0, 5), some (0, -1))) (fun N => vP_hv (fun hv => qc_ordx TLw_T vOK_T n hv hn rfl)))
    exact Or.inl (key q1 q2 (hZ1.run 3 z2 (Q := fun x => x = (zset (zset (zset h1 121 1 (0, 0)) 121 0 (0, 0)) 121 0 (0, 5), some (0, -1))) (fun N => vP_hv (fun hv => qr_ordx TLw_T vOK_T n hv hn rfl))))
  by_cases hl : (h 10 1).2 < n
  · obtain ⟨q1, q2⟩ := kc (hZ.run 3 z1 (Q := fun x => x = (zset h 0 0 (0, 5), some (0, -1))) (fun N => vP_hv (fun hv => qc_ordy TLw_T vOK_T n hv (by omega) hl rfl)))
    exact Or.inl (key q1 q2 (hZ1.run 3 z2 (Q := fun x => x = (zset (zset (zset h1 121 1 (0, 0)) 121 0 (0, 0)) 121 0 (0, 5), some (0, -1))) (fun N => vP_hv (fun hv => qr_ordy TLw_T vOK_T n hv (by omega) (by rw [k1, ← hR1]; exact hl) rfl))))
  by_cases h3 : 300 < n
  · obtain ⟨q1, q2⟩ := kc (hZ.run 3 z1 (Q := fun x => x = (zset h 0 0 (0, 5), some (0, -1))) (fun N => vP_hv (fun hv => qc_ordz TLw_T vOK_T n hv (by omega) (by omega) h3 rfl)))
    exact Or.inl (key q1 q2 (hZ1.run 3 z2 (Q := fun x => x = (zset (zset (zset h1 121 1 (0, 0)) 121 0 (0, 0)) 121 0 (0, 5), some (0, -1))) (fun N => vP_hv (fun hv => qr_ordz TLw_T vOK_T n hv (by omega) (by rw [k1, ← hR1]; omega) h3 rfl))))
  obtain ⟨m', rfl⟩ : ∃ m' : Nat, n = (m' : Int) := ⟨n.toNat, by omega⟩
  have hn9 : m' ≤ 900 := by omega
  have bk : bK 0 0 h h1 := bK_fr f1 (by decide +kernel) (by decide)
  have hr1 := hr.tr hb bk
  have a1 : cOd c (lB2 h) m' P h (h1, some (0, v1)) := by
    rcases hc with rfl | rfl
    · exact hZ.run 3 z1 (Q := cOd 24 (lB2 h) m' P h) (fun N => co_ord_24 TLw_T vOK_T (hZ.tx hn9) hP hb e7 (by omega) (by omega))
    · exact hZ.run 3 z1 (Q := cOd 39 (lB2 h) m' P h) (fun N => co_ord_39 TLw_T vOK_T (hZ.tx hn9) hP hb e7 (by omega) (by omega))
  obtain ⟨fr, m, τ, hK, hh⟩ := a1
  have a2 := hZ1.run 3 z2 (Q := rOd τ P h1) (fun N => rx_orders TLw_T vOK_T hb hr1.1.1 hr1.1.2.1 hr1.1.2.2.1 hr1.1.2.2.2 (fun k hk => by
    have w := (hr1.2.2 k hk).1
    rw [show 6 * 0 + k = k by omega] at w
    exact w) hK (hZ.tx hn9).1 (fun q hq => by
      rw [hZ1.bt q (by omega)]
      refine congrArg (Prod.mk (0 : Nat)) ?_
      have w := kr.2 q (by omega)
      exact w.trans (hR.2 q (by omega) (by show (q : Int) < (h 10 1).2; omega)).symm) (by rw [k1, ← hR1]; omega) (by omega))
  obtain ⟨fg, a2⟩ := a2
  refine Or.inr ⟨fr, fg, ?_⟩
  rcases hh with ⟨e, q1, q2, q3, q4, q5⟩ | ⟨s, q1, q2, q3, q4, q5, q6⟩
  · rcases a2 with ⟨e', p1, p2, p3, p4, p5⟩ | ⟨s', p1, _⟩
    · rw [q1] at p1
      cases p1
      refine Or.inl ⟨e, ?_, ?_, q3, q4, q5, p3, p4, p5⟩
      · cases (q2 : some ((0, v1) : zV) = some (0, -1)); rfl
      · cases (p2 : some ((0, v2) : zV) = some (0, -1)); rfl
    · rw [q1] at p1; cases p1
  · rcases a2 with ⟨e', p1, _⟩ | ⟨s', p1, p2, p3, p4, p5, p6⟩
    · rw [q1] at p1; cases p1
    · rw [q1] at p1
      cases p1
      refine Or.inr ⟨s, ?_, ?_, q3, q4, q6, p3, p4, p5⟩
      · cases (q2 : some ((0, v1) : zV) = some (0, (s : Int))); rfl
      · cases (p2 : some ((0, v2) : zV) = some (0, (s : Int))); rfl
theorem bK_rOG {b : Nat} {h g : zH} (h1 : 1 ≤ b) (hb : b < 4) (f : rOG h g) : bK b b h g := by
  refine ⟨fun j hj => f _ _ (fun c => ?_), fun k hk => f _ _ (fun c => by omega)⟩
  have : j < 276 := by
    rcases hj with e | e | e | e <;> omega
  omega
theorem lRk_orders {D : zD} (_ : ∀ i, -2147483648 ≤ D.2 i ∧ D.2 i ≤ 2147483647) {h h1 h2 : zH} {n v1 v2 : Int} (hZ : lZ D h) (hZ1 : lZ D h1) (hR : lR h) (z1 : zRun D TLw 614 170 0 (h, zargs 0 [(2, 0), (0, n)], []) (h1, some (0, v1))) (f1 : aFr lM_170 h h1) (z2 : zRun D TLw 614 289 0 (h1, zargs 0 [(2, 121), (0, n)], []) (h2, some (0, v2))) (f2 : aFr lM_289 h1 h2) : lR h2 ∧ v1 = v2 := by
  have hR' := hR
  obtain ⟨hT, hF, hM, r, c, s1, s2, s3, hL⟩ := hR'
  have t := lT_orders hZ hZ1 hT z1 f1 z2 f2
  obtain ⟨P, g1, g2, g3, g4⟩ := hL.full hZ.hv s1.ob
  have c2 : c = 24 ∨ c = 39 := by
    rcases s1 with ⟨_, e⟩ | ⟨_, e⟩
    · exact Or.inr e
    · exact Or.inl e
  have hb : ∀ b, b < 4 → bK b b h h1 := fun b hb => bK_fr f1 (by decide +kernel) hb
  have hc : ∀ c, cOb c → cK c c h1 h2 := fun c hc => cK_fr f2 (by decide +kernel) hc
  have k1 : ∀ a k, aIn [(0, 7, 8), (0, 10, 10), (121, 23, 23)] a k → h1 a k = h a k := fun a k hi => f1.keep (S := [(0, 7, 8), (0, 10, 10), (121, 23, 23)]) (by decide +kernel) hi
  have k2 : ∀ a k, aIn [(0, 7, 8), (0, 10, 10), (10, 9, 10), (121, 23, 23)] a k → h2 a k = h1 a k := fun a k hi => f2.keep (S := [(0, 7, 8), (0, 10, 10), (10, 9, 10), (121, 23, 23)]) (by decide +kernel) hi
  have e7 : h2 0 7 = h 0 7 := (k2 0 7 ⟨(0, 7, 8), by decide, rfl, by decide, by decide⟩).trans (k1 0 7 ⟨(0, 7, 8), by decide, rfl, by decide, by decide⟩)
  have e8 : h2 0 8 = h 0 8 := (k2 0 8 ⟨(0, 7, 8), by decide, rfl, by decide, by decide⟩).trans (k1 0 8 ⟨(0, 7, 8), by decide, rfl, by decide, by decide⟩)
  have e10 : h2 0 10 = h 0 10 := (k2 0 10 ⟨(0, 10, 10), by decide, rfl, by decide, by decide⟩).trans (k1 0 10 ⟨(0, 10, 10), by decide, rfl, by decide, by decide⟩)
  have e23 : h2 121 23 = h 121 23 := (k2 121 23 ⟨(121, 23, 23), by decide, rfl, by decide, by decide⟩).trans (k1 121 23 ⟨(121, 23, 23), by decide, rfl, by decide, by decide⟩)
  have e9 := k2 10 9 ⟨(10, 9, 10), by decide, rfl, by decide, by decide⟩
  have e9' := k2 10 10 ⟨(10, 9, 10), by decide, rfl, by decide, by decide⟩
  rcases orders_both c2 s2 g1 g2 g3 hZ hZ1 hT z1 f1 z2 with ⟨a1, a2, a3, a4⟩ | ⟨lf, lg, hh⟩
  · refine ⟨hR.off (M := [(0, 0, 0), (121, 0, 1)]) (by decide +kernel) (fun a b hn => ?_), by omega⟩
    rw [a4 a b (fun e => hn ⟨(121, 0, 1), by decide, e.1.symm, Nat.zero_le _, e.2⟩), a3]
    exact zset_ne (fun e => hn ⟨(0, 0, 0), by decide, e.1.symm, Nat.zero_le _, Nat.le_of_eq e.2⟩)
  · have lm : ∀ m, m < 3 → cK (55 + 15 * m) (55 + 15 * m) h h2 := fun m hm => by
      refine cK.trans ⟨fun k _ => lf _ _ ?_, fun k _ => lf _ _ ?_, fun k _ => lf _ _ ?_, fun k _ => ⟨lf _ _ ?_, lf _ _ ?_, lf _ _ ?_⟩, lf _ _ ?_⟩ (hc _ (mOb hm)) <;> · rcases c2 with rfl | rfl <;> omega
    have bm : ∀ m, m < 3 → bK (m + 1) (m + 1) h h2 := fun m hm => (hb _ (by omega)).trans (bK_rOG (by omega) (by omega) lg)
    rcases hh with ⟨e, a1, a2, a3, a4, a5, a6, a7, a8⟩ | ⟨s, a1, a2, a3, a4, ⟨z, z0, a5⟩, a6, a7, a8⟩
    · refine ⟨⟨t, ⟨?_, ?_⟩, hM.of e10 e23 lm bm, r, c, s1, e7.trans s2, e8.trans s3, ?_⟩, by omega⟩
      · rw [e9, a3, a6]
      · rw [e9', a4, a7]
      · have kk : cK c c h h1 := by
          refine ⟨fun k _ => lf _ _ ?_, fun k _ => lf _ _ ?_, fun k _ => lf _ _ ?_, fun k _ => ⟨lf _ _ ?_, lf _ _ ?_, lf _ _ ?_⟩, a5 0⟩ <;> · rcases c2 with rfl | rfl <;> omega
        have bb : bK 0 0 h1 h2 := by
          refine ⟨fun j hj => ?_, fun k hk => lg _ _ (fun c => by omega)⟩
          have : j < 276 := by
            rcases hj with e | e | e | e <;> omega
          rw [show 550 * 0 + j = j by omega]
          exact a8 j (by omega)
        exact hL.tr (kk.trans (hc _ s1.ob)) ((hb _ (by decide)).trans bb)
    · have ho := hc c s1.ob
      have cs : sCl c P h1 := by
        have g := g1.s
        have f : ∀ a k, ¬ ((a = 0 ∧ k = 0) ∨ a = 10 ∨ (12 ≤ a ∧ a ≤ 15) ∨ (17 ≤ a ∧ a ≤ 23) ∨ (c + 10 ≤ a ∧ a ≤ c + 14)) → h1 a k = h a k := lf
        refine ⟨⟨(f _ _ ?_).trans g.1.1, (f _ _ ?_).trans g.1.2.1, (f _ _ ?_).trans g.1.2.2.1, (f _ _ ?_).trans g.1.2.2.2⟩, fun k hk => (f _ _ ?_).trans (g.2.1 k hk), fun k hk => (f _ _ ?_).trans (g.2.2.1 k hk), fun k hk => ⟨(f _ _ ?_).trans (g.2.2.2 k hk).1, (f _ _ ?_).trans (g.2.2.2 k hk).2.1, (f _ _ ?_).trans (g.2.2.2 k hk).2.2⟩⟩ <;> · rcases c2 with rfl | rfl <;> omega
      have rp1 := g2.tr g3 (hb 0 (by decide))
      have ix := fun x y (x1 : 0 ≤ x) (x2 : x < P 0 0) (y1 : 0 ≤ y) (y2 : y < 6) => pIxy g3.1.2 x1 x2 y1 y2
      have rp2 : rP 0 P h2 := by
        refine ⟨⟨(lg _ _ (fun c => by omega)).trans rp1.1.1, (lg _ _ (fun c => by omega)).trans rp1.1.2.1, (lg _ _ (fun c => by omega)).trans rp1.1.2.2.1, (lg _ _ (fun c => by omega)).trans rp1.1.2.2.2⟩, fun x y x1 x2 y1 y2 => ?_, fun k hk => ?_⟩
        · have i := ix x y x1 x2 y1 y2
          exact ⟨(lg _ _ (fun c => by omega)).trans (rp1.2.1 x y x1 x2 y1 y2).1, (lg _ _ (fun c => by omega)).trans (rp1.2.1 x y x1 x2 y1 y2).2⟩
        · have := g3.2.2.2.2
          exact ⟨(lg _ _ (fun c => by omega)).trans (rp1.2.2 k hk).1, (lg _ _ (fun c => by omega)).trans (rp1.2.2 k hk).2.1, (lg _ _ (fun c => by omega)).trans (rp1.2.2 k hk).2.2⟩
      refine ⟨⟨t, ⟨?_, ?_⟩, hM.of e10 e23 lm bm, r, c, s1, e7.trans s2, e8.trans s3, P, cs.tr g3.2.2.2.2 ho, rp2, g3, Or.inr ⟨?_, ?_⟩⟩, by omega⟩
      · rw [e9, a3, a6]
      · rw [e9', a4, a7]
      · rw [ho.2.2.2.2, a5]; exact z0
      · exact congrArg Prod.snd a8
