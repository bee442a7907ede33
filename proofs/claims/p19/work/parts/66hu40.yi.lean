theorem fRw_worth {D : zD} (_ : ∀ i, -2147483648 ≤ D.2 i ∧ D.2 i ≤ 2147483647) {h h1 h2 : zH} {x y z v1 v2 : Int} (hZ : lZ D h) (hZ1 : lZ D h1) (hR : fR h) (z1 : zRun D TLw 614 194 0 (h, zargs 0 [(2, 0), (0, x), (0, y), (0, z)], []) (h1, some (0, v1))) (f1 : aFr lM_194 h h1) (z2 : zRun D TLw 614 337 0 (h1, zargs 0 [(2, 121), (0, x), (0, y), (0, z)], []) (h2, some (0, v2))) (f2 : aFr lM_337 h1 h2) : fR h2 ∧ True := by
  have k1 : ∀ a k, aIn fpS a k → h1 a k = h a k := fun a k hi => f1.keep (by decide +kernel) hi
  refine ⟨⟨lR_S h h2 (fun a k hi => (f2.keep (by decide +kernel) hi).trans (k1 a k (aIn_l hi))) hR.1, ?_⟩, trivial⟩
  obtain ⟨hM, r, c, s1, s2, s3, P, p1, p2, p3, p4, o⟩ := fX_S k1 hR.2
  obtain ⟨q1, q2, _⟩ := hZ1.run 4 z2 (Q := fun r => rBk 0 P r.1 ∧ rSF h1 r.1 ∧ r.2 = some (0, woV P x y z)) (fun N => rx_worth TLw_T vOK_T p2 p3 x y z)
  exact fX_up hM s1 s2 s3 o pSh.rfl (fun a b hf => q2 a b (by unfold fOut at hf; omega)) (p1.eq (fun a b h1 h2 => q2 a b (by have := s1.c2; omega))) q1 p3 p4
theorem fRw_mostWorth {D : zD} (_ : ∀ i, -2147483648 ≤ D.2 i ∧ D.2 i ≤ 2147483647) {h h1 h2 : zH} {x y v1 v2 : Int} (hZ : lZ D h) (hZ1 : lZ D h1) (hR : fR h) (z1 : zRun D TLw 614 167 0 (h, zargs 0 [(2, 0), (0, x), (0, y)], []) (h1, some (0, v1))) (f1 : aFr lM_167 h h1) (z2 : zRun D TLw 614 278 0 (h1, zargs 0 [(2, 121), (0, x), (0, y)], []) (h2, some (0, v2))) (f2 : aFr lM_278 h1 h2) : fR h2 ∧ True := by
  have k1 : ∀ a k, aIn fpS a k → h1 a k = h a k := fun a k hi => f1.keep (by decide +kernel) hi
  refine ⟨⟨lR_S h h2 (fun a k hi => (f2.keep (by decide +kernel) hi).trans (k1 a k (aIn_l hi))) hR.1, ?_⟩, trivial⟩
  obtain ⟨hM, r, c, s1, s2, s3, P, p1, p2, p3, p4, o⟩ := fX_S k1 hR.2
  obtain ⟨q1, q2, _⟩ := hZ1.run 6 z2 (Q := fun r => rBk 0 P r.1 ∧ rSF h1 r.1 ∧ r.2 = some (0, mwV P x y)) (fun N => rx_mostWorth TLw_T vOK_T p2 p3 x y)
  exact fX_up hM s1 s2 s3 o pSh.rfl (fun a b hf => q2 a b (by unfold fOut at hf; omega)) (p1.eq (fun a b h1 h2 => q2 a b (by have := s1.c2; omega))) q1 p3 p4
