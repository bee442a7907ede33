def lR (h : zH) : Prop := lT h ∧ lS h
abbrev tpS : aM := [(10, 1, 1), (11, 0, 899), (121, 8, 8), (125, 0, 899), (0, 7, 8)]
theorem tpS_1 : aIn tpS 10 1 := ⟨(10, 1, 1), by decide, rfl, by decide, by decide⟩
theorem tpS_2 {q : Nat} (h : q ≤ 899) : aIn tpS 11 q := ⟨(11, 0, 899), by decide, rfl, Nat.zero_le _, h⟩
theorem tpS_3 : aIn tpS 121 8 := ⟨(121, 8, 8), by decide, rfl, by decide, by decide⟩
theorem tpS_4 {q : Nat} (h : q ≤ 899) : aIn tpS 125 q := ⟨(125, 0, 899), by decide, rfl, Nat.zero_le _, h⟩
theorem tpS_5 {q : Nat} (h : 7 ≤ q) (h' : q ≤ 8) : aIn tpS 0 q := ⟨(0, 7, 8), by decide, rfl, h, h'⟩
theorem lT.of {h h' : zH} (hT : lT h) (e1 : h' 10 1 = h 10 1) (e2 : ∀ q, q ≤ 899 → h' 11 q = h 11 q) (e3 : h' 121 8 = h 121 8) (e4 : ∀ q, q ≤ 899 → h' 125 q = h 125 q) : lT h' := tEq.k hT ⟨congrArg Prod.snd e1, fun q hq => congrArg Prod.snd (e2 q hq)⟩ ⟨congrArg Prod.snd e3, fun q hq => congrArg Prod.snd (e4 q hq)⟩
theorem lR_S : lRs tpS lR := fun h h' he hR => by
  obtain ⟨hT, r, c, s1, s2, s3⟩ := hR
  exact ⟨hT.of (he _ _ tpS_1) (fun q hq => he _ _ (tpS_2 hq)) (he _ _ tpS_3) (fun q hq => he _ _ (tpS_4 hq)), r, c, s1, (he _ _ (tpS_5 (by decide) (by decide))).trans s2, (he _ _ (tpS_5 (by decide) (by decide))).trans s3⟩
theorem lR_ini : lR hIni := by
  refine ⟨⟨(by decide +kernel : (hIni 10 1).2 = (hIni 121 8).2), fun q _ hq => ?_⟩, 39, 24, Or.inr ⟨rfl, rfl⟩, (by decide +kernel : hIni 0 7 = (2, 24)), (by decide +kernel : hIni 0 8 = (2, 39))⟩
  have e : (hIni 10 1).2 = 0 := by decide +kernel
  have hq : (q : Int) < (hIni 10 1).2 := hq
  omega
theorem lRk_feed {D : zD} (_ : ∀ i, -2147483648 ≤ D.2 i ∧ D.2 i ≤ 2147483647) {h h1 h2 : zH} {a b c d e v1 v2 : Int} (hZ : lZ D h) (hZ1 : lZ D h1) (hR : lR h) (z1 : zRun D TLw 614 155 0 (h, zargs 0 [(2, 0), (0, a), (0, b), (0, c), (0, d), (0, e)], []) (h1, some (0, v1))) (f1 : aFr lM_155 h h1) (z2 : zRun D TLw 614 227 0 (h1, zargs 0 [(2, 121), (0, a), (0, b), (0, c), (0, d), (0, e)], []) (h2, some (0, v2))) (f2 : aFr lM_227 h1 h2) : lR h2 ∧ v1 = v2 := by
  obtain ⟨t, e⟩ := lT_feed hZ hZ1 hR.1 z1 f1 z2 f2
  exact ⟨⟨t, (hR.2.fr f1 (by decide +kernel)).fr f2 (by decide +kernel)⟩, e⟩
theorem lRk_land {D : zD} (_ : ∀ i, -2147483648 ≤ D.2 i ∧ D.2 i ≤ 2147483647) {h h1 h2 : zH} {n v1 v2 : Int} (hZ : lZ D h) (hZ1 : lZ D h1) (hR : lR h) (z1 : zRun D TLw 614 162 0 (h, zargs 0 [(2, 0), (0, n)], []) (h1, some (0, v1))) (f1 : aFr lM_162 h h1) (z2 : zRun D TLw 614 268 0 (h1, zargs 0 [(2, 121), (0, n)], []) (h2, some (0, v2))) (f2 : aFr lM_268 h1 h2) : lR h2 ∧ v1 = v2 := by
  have t := lT_land hZ hZ1 hR.1 z1 f1 z2 f2
  obtain ⟨r, c, s1, s2, s3⟩ := hR.2
  have key : ∀ r' c', lSw r' c' → h1 0 7 = (2, (c' : Int)) → h1 0 8 = (2, (r' : Int)) → lS h2 := fun r' c' w1 w2 w3 => lS.fr ⟨r', c', w1, w2, w3⟩ f2 (by decide +kernel)
  rcases land_both s1 s2 s3 hZ hZ1 hR.1 z1 f1 z2 f2 with ⟨a1, a2, a3, a4⟩ | ⟨_, _, ⟨e, a1, a2, a3, a4, a5, a6, _⟩ | ⟨P, a1, a2, a3, a4, a5, a6, _⟩⟩
  · refine ⟨⟨t, key r c s1 ?_ ?_⟩, by omega⟩
    · rw [a3, zset_ne (by decide)]; exact s2
    · rw [a3, zset_ne (by decide)]; exact s3
  · exact ⟨⟨t, key r c s1 a5 a6⟩, by omega⟩
  · exact ⟨⟨t, key c r s1.symm a5 a6⟩, by omega⟩
theorem lRk_orders {D : zD} (_ : ∀ i, -2147483648 ≤ D.2 i ∧ D.2 i ≤ 2147483647) {h h1 h2 : zH} {n v1 v2 : Int} (hZ : lZ D h) (hZ1 : lZ D h1) (hR : lR h) (z1 : zRun D TLw 614 170 0 (h, zargs 0 [(2, 0), (0, n)], []) (h1, some (0, v1))) (f1 : aFr lM_170 h h1) (z2 : zRun D TLw 614 289 0 (h1, zargs 0 [(2, 121), (0, n)], []) (h2, some (0, v2))) (f2 : aFr lM_289 h1 h2) : lR h2 ∧ True := ⟨⟨lT_orders hZ hZ1 hR.1 z1 f1 z2 f2, (hR.2.fr f1 (by decide +kernel)).fr f2 (by decide +kernel)⟩, trivial⟩
