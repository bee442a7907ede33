section PK
variable {P : PT}
theorem btP_ok (hb : fB P) (x y z : Int) : fB (btP P x y z) ∧ pSh P (btP P x y z) := by
  unfold btP
  split
  · exact ⟨(hb.s3 (by decide)).s04, rfl, rfl, rfl, rfl⟩
  · exact ⟨hb, pSh.rfl⟩
theorem moP_ok (hb : fB P) (x y z : Int) : fB (moP P x y z) ∧ pSh P (moP P x y z) := by
  unfold moP
  split
  · exact ⟨hb.s3 (by decide), rfl, rfl, rfl, rfl⟩
  · exact ⟨hb, pSh.rfl⟩
theorem hoP_ok (hb : fB P) (x y z : Int) : fB (hoP P x y z) ∧ pSh P (hoP P x y z) := by
  unfold hoP
  split
  · exact ⟨hb.s3 (by decide), rfl, rfl, rfl, rfl⟩
  · exact ⟨hb, pSh.rfl⟩
theorem clP_ok (hb : fB P) (x y z : Int) : fB (clP P x y z) ∧ pSh P (clP P x y z) := by
  unfold clP
  split
  · exact ⟨hb.s3 (by decide), rfl, rfl, rfl, rfl⟩
  · exact ⟨hb, pSh.rfl⟩
theorem ssP_ok (hb : fB P) (x y : Int) : fB (ssP P x y) ∧ pSh P (ssP P x y) := by
  unfold ssP
  by_cases c : okS P x y ∧ x ≠ y
  · rw [if_pos c]
    have l3 := hb.1.2.2.1.2
    have c1 := c.1.1
    have c2 := c.1.2.1
    exact ⟨hb.steam (by omega), rfl, rfl, rfl, rfl⟩
  · rw [if_neg c]
    exact ⟨hb, pSh.rfl⟩
theorem maP_ok (hb : fB P) (x : Int) : fB (maP P x) ∧ pSh P (maP P x) := by
  unfold maP
  by_cases c : okM P x ∧ mC P x.toNat ≠ -1
  · rw [if_pos c]
    have c1 := c.1.1
    have c2 := c.1.2
    have hm : ((x.toNat : Nat) : Int) < P 0 3 := by omega
    exact ⟨fB_march hb hm (mC_n hb hm c.2), pGo_sh⟩
  · rw [if_neg c]
    exact ⟨hb, pSh.rfl⟩
theorem haP_ok (hb : fB P) (x y : Int) : fB (haP P x y) ∧ pSh P (haP P x y) := by
  unfold haP
  by_cases c : okH P x y
  · rw [if_pos c]
    exact ⟨hb.s8 ⟨c.2.2.1, c.2.2.2⟩, rfl, rfl, rfl, rfl⟩
  · rw [if_neg c]
    exact ⟨hb, pSh.rfl⟩
end PK
theorem fRk_bite {D : zD} (_ : ∀ i, -2147483648 ≤ D.2 i ∧ D.2 i ≤ 2147483647) {h h1 h2 : zH} {x y z v1 v2 : Int} (hZ : lZ D h) (hZ1 : lZ D h1) (hR : fR h) (z1 : zRun D TLw 614 146 0 (h, zargs 0 [(2, 0), (0, x), (0, y), (0, z)], []) (h1, some (0, v1))) (f1 : aFr lM_146 h h1) (z2 : zRun D TLw 614 202 0 (h1, zargs 0 [(2, 121), (0, x), (0, y), (0, z)], []) (h2, some (0, v2))) (f2 : aFr lM_202 h1 h2) : fR h2 ∧ v1 = v2 := by
  obtain ⟨hL, hM, r, c, s1, s2, s3, P, p1, p2, p3, p4, o⟩ := hR
  have a1 : cP c (btP P x y z) h1 ∧ cTF c h h1 ∧ v1 = btV P x y z := by
    rcases s1 with ⟨rfl, rfl⟩ | ⟨rfl, rfl⟩
    · obtain ⟨q1, q2, q3⟩ := hZ.run 5 z1 (Q := fun r => cP 39 (btP P x y z) r.1 ∧ cTF 39 h r.1 ∧ r.2 = some (0, btV P x y z)) (fun N => cx_bite_39 TLw_T vOK_T p1 p3 s2 x y z)
      exact ⟨q1, q2, by cases (q3 : some ((0, v1) : zV) = some (0, btV P x y z)); rfl⟩
    · obtain ⟨q1, q2, q3⟩ := hZ.run 5 z1 (Q := fun r => cP 24 (btP P x y z) r.1 ∧ cTF 24 h r.1 ∧ r.2 = some (0, btV P x y z)) (fun N => cx_bite_24 TLw_T vOK_T p1 p3 s2 x y z)
      exact ⟨q1, q2, by cases (q3 : some ((0, v1) : zV) = some (0, btV P x y z)); rfl⟩
  obtain ⟨q1, q2, q3⟩ := a1
  have hR1 : rBk 0 P h1 := p2.eq p3.1 (fun b _ hb => f1.keep (S := [(126, 0, 274)]) (by decide +kernel) ⟨(126, 0, 274), List.mem_cons_self, rfl, Nat.zero_le _, show b ≤ 274 by omega⟩)
  obtain ⟨r1, r2, r3⟩ := hZ1.run 5 z2 (Q := fun r => rBk 0 (btP P x y z) r.1 ∧ rTF h1 r.1 ∧ r.2 = some (0, btV P x y z)) (fun N => rx_bite TLw_T vOK_T hR1 p3 x y z)
  have r3 : v2 = btV P x y z := by cases (r3 : some ((0, v2) : zV) = some (0, btV P x y z)); rfl
  have c2 := s1.c2
  obtain ⟨k1, k2⟩ := btP_ok p3 x y z
  refine ⟨⟨lR_S h h2 (fun a k hi => (f2.keep (by decide +kernel) hi).trans (f1.keep (by decide +kernel) hi)) hL, fX_up hM s1 s2 s3 o k2 (fun a b hf => ?_) (q1.eq (fun a b h1 h2 => r2 a b (by omega))) r1 k1 (by rw [k2.1, k2.2.1]; exact p4)⟩, q3.trans r3.symm⟩
  unfold fOut at hf
  exact (r2 a b (by omega)).trans (q2 a b (by omega))
theorem fRk_mould {D : zD} (_ : ∀ i, -2147483648 ≤ D.2 i ∧ D.2 i ≤ 2147483647) {h h1 h2 : zH} {x y z v1 v2 : Int} (hZ : lZ D h) (hZ1 : lZ D h1) (hR : fR h) (z1 : zRun D TLw 614 168 0 (h, zargs 0 [(2, 0), (0, x), (0, y), (0, z)], []) (h1, some (0, v1))) (f1 : aFr lM_168 h h1) (z2 : zRun D TLw 614 279 0 (h1, zargs 0 [(2, 121), (0, x), (0, y), (0, z)], []) (h2, some (0, v2))) (f2 : aFr lM_279 h1 h2) : fR h2 ∧ v1 = v2 := by
  obtain ⟨hL, hM, r, c, s1, s2, s3, P, p1, p2, p3, p4, o⟩ := hR
  have a1 : cP c (moP P x y z) h1 ∧ cTF c h h1 ∧ v1 = moV P x y z := by
    rcases s1 with ⟨rfl, rfl⟩ | ⟨rfl, rfl⟩
    · obtain ⟨q1, q2, q3⟩ := hZ.run 4 z1 (Q := fun r => cP 39 (moP P x y z) r.1 ∧ cTF 39 h r.1 ∧ r.2 = some (0, moV P x y z)) (fun N => cx_mould_39 TLw_T vOK_T p1 p3 s2 x y z)
      exact ⟨q1, q2, by cases (q3 : some ((0, v1) : zV) = some (0, moV P x y z)); rfl⟩
    · obtain ⟨q1, q2, q3⟩ := hZ.run 4 z1 (Q := fun r => cP 24 (moP P x y z) r.1 ∧ cTF 24 h r.1 ∧ r.2 = some (0, moV P x y z)) (fun N => cx_mould_24 TLw_T vOK_T p1 p3 s2 x y z)
      exact ⟨q1, q2, by cases (q3 : some ((0, v1) : zV) = some (0, moV P x y z)); rfl⟩
  obtain ⟨q1, q2, q3⟩ := a1
  have hR1 : rBk 0 P h1 := p2.eq p3.1 (fun b _ hb => f1.keep (S := [(126, 0, 274)]) (by decide +kernel) ⟨(126, 0, 274), List.mem_cons_self, rfl, Nat.zero_le _, show b ≤ 274 by omega⟩)
  obtain ⟨r1, r2, r3⟩ := hZ1.run 4 z2 (Q := fun r => rBk 0 (moP P x y z) r.1 ∧ rTF h1 r.1 ∧ r.2 = some (0, moV P x y z)) (fun N => rx_mould TLw_T vOK_T hR1 p3 x y z)
  have r3 : v2 = moV P x y z := by cases (r3 : some ((0, v2) : zV) = some (0, moV P x y z)); rfl
  have c2 := s1.c2
  obtain ⟨k1, k2⟩ := moP_ok p3 x y z
  refine ⟨⟨lR_S h h2 (fun a k hi => (f2.keep (by decide +kernel) hi).trans (f1.keep (by decide +kernel) hi)) hL, fX_up hM s1 s2 s3 o k2 (fun a b hf => ?_) (q1.eq (fun a b h1 h2 => r2 a b (by omega))) r1 k1 (by rw [k2.1, k2.2.1]; exact p4)⟩, q3.trans r3.symm⟩
  unfold fOut at hf
  exact (r2 a b (by omega)).trans (q2 a b (by omega))
theorem fRk_honey {D : zD} (_ : ∀ i, -2147483648 ≤ D.2 i ∧ D.2 i ≤ 2147483647) {h h1 h2 : zH} {x y z v1 v2 : Int} (hZ : lZ D h) (hZ1 : lZ D h1) (hR : fR h) (z1 : zRun D TLw 614 160 0 (h, zargs 0 [(2, 0), (0, x), (0, y), (0, z)], []) (h1, some (0, v1))) (f1 : aFr lM_160 h h1) (z2 : zRun D TLw 614 239 0 (h1, zargs 0 [(2, 121), (0, x), (0, y), (0, z)], []) (h2, some (0, v2))) (f2 : aFr lM_239 h1 h2) : fR h2 ∧ v1 = v2 := by
  obtain ⟨hL, hM, r, c, s1, s2, s3, P, p1, p2, p3, p4, o⟩ := hR
  have a1 : cP c (hoP P x y z) h1 ∧ cTF c h h1 ∧ v1 = hoV P x y z := by
    rcases s1 with ⟨rfl, rfl⟩ | ⟨rfl, rfl⟩
    · obtain ⟨q1, q2, q3⟩ := hZ.run 4 z1 (Q := fun r => cP 39 (hoP P x y z) r.1 ∧ cTF 39 h r.1 ∧ r.2 = some (0, hoV P x y z)) (fun N => cx_honey_39 TLw_T vOK_T p1 p3 s2 x y z)
      exact ⟨q1, q2, by cases (q3 : some ((0, v1) : zV) = some (0, hoV P x y z)); rfl⟩
    · obtain ⟨q1, q2, q3⟩ := hZ.run 4 z1 (Q := fun r => cP 24 (hoP P x y z) r.1 ∧ cTF 24 h r.1 ∧ r.2 = some (0, hoV P x y z)) (fun N => cx_honey_24 TLw_T vOK_T p1 p3 s2 x y z)
      exact ⟨q1, q2, by cases (q3 : some ((0, v1) : zV) = some (0, hoV P x y z)); rfl⟩
  obtain ⟨q1, q2, q3⟩ := a1
  have hR1 : rBk 0 P h1 := p2.eq p3.1 (fun b _ hb => f1.keep (S := [(126, 0, 274)]) (by decide +kernel) ⟨(126, 0, 274), List.mem_cons_self, rfl, Nat.zero_le _, show b ≤ 274 by omega⟩)
  obtain ⟨r1, r2, r3⟩ := hZ1.run 4 z2 (Q := fun r => rBk 0 (hoP P x y z) r.1 ∧ rTF h1 r.1 ∧ r.2 = some (0, hoV P x y z)) (fun N => rx_honey TLw_T vOK_T hR1 p3 x y z)
  have r3 : v2 = hoV P x y z := by cases (r3 : some ((0, v2) : zV) = some (0, hoV P x y z)); rfl
  have c2 := s1.c2
  obtain ⟨k1, k2⟩ := hoP_ok p3 x y z
  refine ⟨⟨lR_S h h2 (fun a k hi => (f2.keep (by decide +kernel) hi).trans (f1.keep (by decide +kernel) hi)) hL, fX_up hM s1 s2 s3 o k2 (fun a b hf => ?_) (q1.eq (fun a b h1 h2 => r2 a b (by omega))) r1 k1 (by rw [k2.1, k2.2.1]; exact p4)⟩, q3.trans r3.symm⟩
  unfold fOut at hf
  exact (r2 a b (by omega)).trans (q2 a b (by omega))
theorem fRk_clean {D : zD} (_ : ∀ i, -2147483648 ≤ D.2 i ∧ D.2 i ≤ 2147483647) {h h1 h2 : zH} {x y z v1 v2 : Int} (hZ : lZ D h) (hZ1 : lZ D h1) (hR : fR h) (z1 : zRun D TLw 614 149 0 (h, zargs 0 [(2, 0), (0, x), (0, y), (0, z)], []) (h1, some (0, v1))) (f1 : aFr lM_149 h h1) (z2 : zRun D TLw 614 208 0 (h1, zargs 0 [(2, 121), (0, x), (0, y), (0, z)], []) (h2, some (0, v2))) (f2 : aFr lM_208 h1 h2) : fR h2 ∧ v1 = v2 := by
  obtain ⟨hL, hM, r, c, s1, s2, s3, P, p1, p2, p3, p4, o⟩ := hR
  have a1 : cP c (clP P x y z) h1 ∧ cTF c h h1 ∧ v1 = clV P x y z := by
    rcases s1 with ⟨rfl, rfl⟩ | ⟨rfl, rfl⟩
    · obtain ⟨q1, q2, q3⟩ := hZ.run 4 z1 (Q := fun r => cP 39 (clP P x y z) r.1 ∧ cTF 39 h r.1 ∧ r.2 = some (0, clV P x y z)) (fun N => cx_clean_39 TLw_T vOK_T p1 p3 s2 x y z)
      exact ⟨q1, q2, by cases (q3 : some ((0, v1) : zV) = some (0, clV P x y z)); rfl⟩
    · obtain ⟨q1, q2, q3⟩ := hZ.run 4 z1 (Q := fun r => cP 24 (clP P x y z) r.1 ∧ cTF 24 h r.1 ∧ r.2 = some (0, clV P x y z)) (fun N => cx_clean_24 TLw_T vOK_T p1 p3 s2 x y z)
      exact ⟨q1, q2, by cases (q3 : some ((0, v1) : zV) = some (0, clV P x y z)); rfl⟩
  obtain ⟨q1, q2, q3⟩ := a1
  have hR1 : rBk 0 P h1 := p2.eq p3.1 (fun b _ hb => f1.keep (S := [(126, 0, 274)]) (by decide +kernel) ⟨(126, 0, 274), List.mem_cons_self, rfl, Nat.zero_le _, show b ≤ 274 by omega⟩)
  obtain ⟨r1, r2, r3⟩ := hZ1.run 4 z2 (Q := fun r => rBk 0 (clP P x y z) r.1 ∧ rTF h1 r.1 ∧ r.2 = some (0, clV P x y z)) (fun N => rx_clean TLw_T vOK_T hR1 p3 x y z)
  have r3 : v2 = clV P x y z := by cases (r3 : some ((0, v2) : zV) = some (0, clV P x y z)); rfl
  have c2 := s1.c2
  obtain ⟨k1, k2⟩ := clP_ok p3 x y z
  refine ⟨⟨lR_S h h2 (fun a k hi => (f2.keep (by decide +kernel) hi).trans (f1.keep (by decide +kernel) hi)) hL, fX_up hM s1 s2 s3 o k2 (fun a b hf => ?_) (q1.eq (fun a b h1 h2 => r2 a b (by omega))) r1 k1 (by rw [k2.1, k2.2.1]; exact p4)⟩, q3.trans r3.symm⟩
  unfold fOut at hf
  exact (r2 a b (by omega)).trans (q2 a b (by omega))
theorem fRk_steam {D : zD} (_ : ∀ i, -2147483648 ≤ D.2 i ∧ D.2 i ≤ 2147483647) {h h1 h2 : zH} {x y v1 v2 : Int} (hZ : lZ D h) (hZ1 : lZ D h1) (hR : fR h) (z1 : zRun D TLw 614 182 0 (h, zargs 0 [(2, 0), (0, x), (0, y)], []) (h1, some (0, v1))) (f1 : aFr lM_182 h h1) (z2 : zRun D TLw 614 316 0 (h1, zargs 0 [(2, 121), (0, x), (0, y)], []) (h2, some (0, v2))) (f2 : aFr lM_316 h1 h2) : fR h2 ∧ v1 = v2 := by
  obtain ⟨hL, hM, r, c, s1, s2, s3, P, p1, p2, p3, p4, o⟩ := hR
  have a1 : cP c (ssP P x y) h1 ∧ cTF c h h1 ∧ v1 = ssV P x y := by
    rcases s1 with ⟨rfl, rfl⟩ | ⟨rfl, rfl⟩
    · obtain ⟨q1, q2, q3⟩ := hZ.run 4 z1 (Q := fun r => cP 39 (ssP P x y) r.1 ∧ cTF 39 h r.1 ∧ r.2 = some (0, ssV P x y)) (fun N => cx_steam_39 TLw_T vOK_T p1 p3 s2 x y)
      exact ⟨q1, q2, by cases (q3 : some ((0, v1) : zV) = some (0, ssV P x y)); rfl⟩
    · obtain ⟨q1, q2, q3⟩ := hZ.run 4 z1 (Q := fun r => cP 24 (ssP P x y) r.1 ∧ cTF 24 h r.1 ∧ r.2 = some (0, ssV P x y)) (fun N => cx_steam_24 TLw_T vOK_T p1 p3 s2 x y)
      exact ⟨q1, q2, by cases (q3 : some ((0, v1) : zV) = some (0, ssV P x y)); rfl⟩
  obtain ⟨q1, q2, q3⟩ := a1
  have hR1 : rBk 0 P h1 := p2.eq p3.1 (fun b _ hb => f1.keep (S := [(126, 0, 274)]) (by decide +kernel) ⟨(126, 0, 274), List.mem_cons_self, rfl, Nat.zero_le _, show b ≤ 274 by omega⟩)
  obtain ⟨r1, r2, r3⟩ := hZ1.run 3 z2 (Q := fun r => rBk 0 (ssP P x y) r.1 ∧ rTF h1 r.1 ∧ r.2 = some (0, ssV P x y)) (fun N => rx_steam TLw_T vOK_T hR1 p3 x y)
  have r3 : v2 = ssV P x y := by cases (r3 : some ((0, v2) : zV) = some (0, ssV P x y)); rfl
  have c2 := s1.c2
  obtain ⟨k1, k2⟩ := ssP_ok p3 x y
  refine ⟨⟨lR_S h h2 (fun a k hi => (f2.keep (by decide +kernel) hi).trans (f1.keep (by decide +kernel) hi)) hL, fX_up hM s1 s2 s3 o k2 (fun a b hf => ?_) (q1.eq (fun a b h1 h2 => r2 a b (by omega))) r1 k1 (by rw [k2.1, k2.2.1]; exact p4)⟩, q3.trans r3.symm⟩
  unfold fOut at hf
  exact (r2 a b (by omega)).trans (q2 a b (by omega))
theorem fRk_march {D : zD} (_ : ∀ i, -2147483648 ≤ D.2 i ∧ D.2 i ≤ 2147483647) {h h1 h2 : zH} {x v1 v2 : Int} (hZ : lZ D h) (hZ1 : lZ D h1) (hR : fR h) (z1 : zRun D TLw 614 164 0 (h, zargs 0 [(2, 0), (0, x)], []) (h1, some (0, v1))) (f1 : aFr lM_164 h h1) (z2 : zRun D TLw 614 274 0 (h1, zargs 0 [(2, 121), (0, x)], []) (h2, some (0, v2))) (f2 : aFr lM_274 h1 h2) : fR h2 ∧ v1 = v2 := by
  obtain ⟨hL, hM, r, c, s1, s2, s3, P, p1, p2, p3, p4, o⟩ := hR
  have a1 : cP c (maP P x) h1 ∧ cTF c h h1 ∧ v1 = maV P x := by
    rcases s1 with ⟨rfl, rfl⟩ | ⟨rfl, rfl⟩
    · obtain ⟨q1, q2, q3⟩ := hZ.run 3 z1 (Q := fun r => cP 39 (maP P x) r.1 ∧ cTF 39 h r.1 ∧ r.2 = some (0, maV P x)) (fun N => cx_march_39 TLw_T vOK_T p1 p3 s2 x)
      exact ⟨q1, q2, by cases (q3 : some ((0, v1) : zV) = some (0, maV P x)); rfl⟩
    · obtain ⟨q1, q2, q3⟩ := hZ.run 3 z1 (Q := fun r => cP 24 (maP P x) r.1 ∧ cTF 24 h r.1 ∧ r.2 = some (0, maV P x)) (fun N => cx_march_24 TLw_T vOK_T p1 p3 s2 x)
      exact ⟨q1, q2, by cases (q3 : some ((0, v1) : zV) = some (0, maV P x)); rfl⟩
  obtain ⟨q1, q2, q3⟩ := a1
  have hR1 : rBk 0 P h1 := p2.eq p3.1 (fun b _ hb => f1.keep (S := [(126, 0, 274)]) (by decide +kernel) ⟨(126, 0, 274), List.mem_cons_self, rfl, Nat.zero_le _, show b ≤ 274 by omega⟩)
  obtain ⟨r1, r2, r3⟩ := hZ1.run 3 z2 (Q := fun r => rBk 0 (maP P x) r.1 ∧ rTF h1 r.1 ∧ r.2 = some (0, maV P x)) (fun N => rx_march TLw_T vOK_T hR1 p3 x)
  have r3 : v2 = maV P x := by cases (r3 : some ((0, v2) : zV) = some (0, maV P x)); rfl
  have c2 := s1.c2
  obtain ⟨k1, k2⟩ := maP_ok p3 x
  refine ⟨⟨lR_S h h2 (fun a k hi => (f2.keep (by decide +kernel) hi).trans (f1.keep (by decide +kernel) hi)) hL, fX_up hM s1 s2 s3 o k2 (fun a b hf => ?_) (q1.eq (fun a b h1 h2 => r2 a b (by omega))) r1 k1 (by rw [k2.1, k2.2.1]; exact p4)⟩, q3.trans r3.symm⟩
  unfold fOut at hf
  exact (r2 a b (by omega)).trans (q2 a b (by omega))
theorem fRk_hand {D : zD} (_ : ∀ i, -2147483648 ≤ D.2 i ∧ D.2 i ≤ 2147483647) {h h1 h2 : zH} {x y v1 v2 : Int} (hZ : lZ D h) (hZ1 : lZ D h1) (hR : fR h) (z1 : zRun D TLw 614 158 0 (h, zargs 0 [(2, 0), (0, x), (0, y)], []) (h1, some (0, v1))) (f1 : aFr lM_158 h h1) (z2 : zRun D TLw 614 236 0 (h1, zargs 0 [(2, 121), (0, x), (0, y)], []) (h2, some (0, v2))) (f2 : aFr lM_236 h1 h2) : fR h2 ∧ v1 = v2 := by
  obtain ⟨hL, hM, r, c, s1, s2, s3, P, p1, p2, p3, p4, o⟩ := hR
  have a1 : cP c (haP P x y) h1 ∧ cTF c h h1 ∧ v1 = haV P x y := by
    rcases s1 with ⟨rfl, rfl⟩ | ⟨rfl, rfl⟩
    · obtain ⟨q1, q2, q3⟩ := hZ.run 3 z1 (Q := fun r => cP 39 (haP P x y) r.1 ∧ cTF 39 h r.1 ∧ r.2 = some (0, haV P x y)) (fun N => cx_hand_39 TLw_T vOK_T p1 p3 s2 x y)
      exact ⟨q1, q2, by cases (q3 : some ((0, v1) : zV) = some (0, haV P x y)); rfl⟩
    · obtain ⟨q1, q2, q3⟩ := hZ.run 3 z1 (Q := fun r => cP 24 (haP P x y) r.1 ∧ cTF 24 h r.1 ∧ r.2 = some (0, haV P x y)) (fun N => cx_hand_24 TLw_T vOK_T p1 p3 s2 x y)
      exact ⟨q1, q2, by cases (q3 : some ((0, v1) : zV) = some (0, haV P x y)); rfl⟩
  obtain ⟨q1, q2, q3⟩ := a1
  have hR1 : rBk 0 P h1 := p2.eq p3.1 (fun b _ hb => f1.keep (S := [(126, 0, 274)]) (by decide +kernel) ⟨(126, 0, 274), List.mem_cons_self, rfl, Nat.zero_le _, show b ≤ 274 by omega⟩)
  obtain ⟨r1, r2, r3⟩ := hZ1.run 3 z2 (Q := fun r => rBk 0 (haP P x y) r.1 ∧ rTF h1 r.1 ∧ r.2 = some (0, haV P x y)) (fun N => rx_hand TLw_T vOK_T hR1 p3 x y)
  have r3 : v2 = haV P x y := by cases (r3 : some ((0, v2) : zV) = some (0, haV P x y)); rfl
  have c2 := s1.c2
  obtain ⟨k1, k2⟩ := haP_ok p3 x y
  refine ⟨⟨lR_S h h2 (fun a k hi => (f2.keep (by decide +kernel) hi).trans (f1.keep (by decide +kernel) hi)) hL, fX_up hM s1 s2 s3 o k2 (fun a b hf => ?_) (q1.eq (fun a b h1 h2 => r2 a b (by omega))) r1 k1 (by rw [k2.1, k2.2.1]; exact p4)⟩, q3.trans r3.symm⟩
  unfold fOut at hf
  exact (r2 a b (by omega)).trans (q2 a b (by omega))
