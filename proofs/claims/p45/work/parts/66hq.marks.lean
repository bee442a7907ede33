/-! mark(), back() on both sides -/
theorem lI.ty {D : zD} {qs : List aQ} {h : zH} (hZ : lI aG1 D Fl0 qs h) : aTyped aTy1 h := by
  obtain ⟨q, -, ρ, g⟩ := hZ
  exact g.2.1
theorem lI.hv {D : zD} {qs : List aQ} {h : zH} (hZ : lI aG1 D Fl0 qs h) : zHv h := zHv_of hZ.ty
theorem lI.run {D : zD} {qs : List aQ} {h : zH} (hZ : lI aG1 D Fl0 qs h) {d mi : Nat} {as : List zV} {r : zR} {Q : zR → Prop} (w : Nat) (hr : zRun D TLw d mi 0 (h, zargs 0 as, []) r) (k : ∀ N, vP D TLw N mi 0 h (vargs w as) [] Q) : Q r := by
  rw [zargs_vL w] at hr
  exact vP_run hr hZ.hv k
theorem hv126 {h : zH} (hv : zHv h) {x : Nat} (hx : x < 2750) : h 126 x = (0, (h 126 x).2) := hv.eta (by
  unfold vCode
  show (if x < 2750 then some 0 else none) = some 0
  rw [if_pos hx])
theorem hv128 {h : zH} (hv : zHv h) {x : Nat} (hx : x < 30) : h 128 x = (1, (h 128 x).2) := Prod.ext (hv.1 128 x 1 (by
  unfold vCode
  show (if x < 30 then some 1 else none) = some 1
  rw [if_pos hx]) (by decide)) rfl
theorem zHv.seti {h : zH} (hv : zHv h) {r k : Nat} {z : Int} (hc : vCode r k = some 0) (hr : (vRefs.all fun x => !(x.1 == r && x.2.1 == k)) = true) : zHv (zset h r k (0, z)) := hv.set hc (fun _ => rfl) (fun x hx e => by
  have := List.all_eq_true.mp hr x hx
  rw [e.1, e.2, beq_self_eq_true, beq_self_eq_true] at this
  exact absurd this (by decide))
theorem zHv.m01 {h : zH} (hv : zHv h) : zHv (zset (zset h 121 1 (0, 0)) 121 0 (0, 0)) := (hv.seti (by decide +kernel) (by decide +kernel)).seti (by decide +kernel) (by decide +kernel)
theorem zHv.m23 {h : zH} {z : Int} (hv : zHv h) : zHv (zset (zset (zset h 121 1 (0, 0)) 121 0 (0, 0)) 121 23 (0, z)) := hv.m01.seti (by decide +kernel) (by decide +kernel)
theorem zHv.m10 {h : zH} {z : Int} (hv : zHv h) : zHv (zset h 0 10 (0, z)) := hv.seti (by decide +kernel) (by decide +kernel)
theorem CpF.K {f t : Nat} {h g0 g : zH} (hf : f < 4) (ht : t < 4) (hv : zHv h) (hg : zHv g) (e1 : ∀ k, g 126 k = g0 126 k) (e2 : ∀ k, g 128 k = g0 128 k) (c : CpF f t h g0) : bK f t h g := by
  obtain ⟨c1, c2, _⟩ := c
  refine ⟨fun j hj => ?_, fun k hk => ?_⟩
  · have : j < 276 := by
      rcases hj with e | e | e | e <;> omega
    rw [hv126 hg (by omega), e1, c1 j (by omega)]
    exact (hv126 hv (by omega)).symm
  · rw [hv128 hg (by omega), e2, c2 k hk]
    exact (hv128 hv (by omega)).symm
theorem cx_mark {D : zD} {T : zT} (hT : hTab T) (hO : vOK T) {N : Nat} {h : zH} {c m : Nat} (hc : c = 24 ∨ c = 39) (hm : m < 3) (e7 : h 0 7 = (2, (c : Int))) (em : h 0 10 = (0, (m : Int))) : vP D T N 165 0 h [some (2, 0)] [] (fun x => x = (zset (zset (cpLand h c (55 + 15 * m)) 0 10 (0, (m : Int) + 1)) 0 0 (0, 0), some (0, (m : Int) + 1))) := by
  have : m = 0 ∨ m = 1 ∨ m = 2 := by omega
  rcases hc with rfl | rfl <;> rcases this with rfl | rfl | rfl
  · exact vP_hv (fun hv => qc_mark_24_0 hT hO hv e7 em rfl)
  · exact vP_hv (fun hv => qc_mark_24_1 hT hO hv e7 em rfl)
  · exact vP_hv (fun hv => qc_mark_24_2 hT hO hv e7 em rfl)
  · exact vP_hv (fun hv => qc_mark_39_0 hT hO hv e7 em rfl)
  · exact vP_hv (fun hv => qc_mark_39_1 hT hO hv e7 em rfl)
  · exact vP_hv (fun hv => qc_mark_39_2 hT hO hv e7 em rfl)
theorem cx_back {D : zD} {T : zT} (hT : hTab T) (hO : vOK T) {N : Nat} {h : zH} {c m : Nat} (hc : c = 24 ∨ c = 39) (hm : m < 3) (e7 : h 0 7 = (2, (c : Int))) (em : h 0 10 = (0, (m : Int) + 1)) : vP D T N 144 0 h [some (2, 0)] [] (fun x => x = (zset (cpLand (zset h 0 10 (0, (m : Int))) (55 + 15 * m) c) 0 0 (0, 0), some (0, (m : Int)))) := by
  have : m = 0 ∨ m = 1 ∨ m = 2 := by omega
  rcases hc with rfl | rfl <;> rcases this with rfl | rfl | rfl
  · exact vP_hv (fun hv => qc_back_24_0 hT hO hv e7 em rfl)
  · exact vP_hv (fun hv => qc_back_24_1 hT hO hv e7 em rfl)
  · exact vP_hv (fun hv => qc_back_24_2 hT hO hv e7 em rfl)
  · exact vP_hv (fun hv => qc_back_39_0 hT hO hv e7 em rfl)
  · exact vP_hv (fun hv => qc_back_39_1 hT hO hv e7 em rfl)
  · exact vP_hv (fun hv => qc_back_39_2 hT hO hv e7 em rfl)
theorem rx_mark {D : zD} {T : zT} (hT : hTab T) (hO : vOK T) {N : Nat} {h : zH} {m : Nat} (hm : m < 3) (em : h 121 23 = (0, (m : Int))) : vP D T N 276 0 h [some (2, 121)] [] (fun x => zHv x.1 ∧ CpF 0 (m + 1) (zset (zset (zset h 121 1 (0, 0)) 121 0 (0, 0)) 121 23 (0, (m : Int) + 1)) x.1) := by
  have : m = 0 ∨ m = 1 ∨ m = 2 := by omega
  refine vP_mono hO (fun r hv q => ⟨hv, q⟩) ?_
  rcases this with rfl | rfl | rfl
  · exact vP_hv (fun hv => qr_mark_0 hT hO hv em (fun g f => f))
  · exact vP_hv (fun hv => qr_mark_1 hT hO hv em (fun g f => f))
  · exact vP_hv (fun hv => qr_mark_2 hT hO hv em (fun g f => f))
theorem rx_back {D : zD} {T : zT} (hT : hTab T) (hO : vOK T) {N : Nat} {h : zH} {m : Nat} (hm : m < 3) (em : h 121 23 = (0, (m : Int) + 1)) : vP D T N 199 0 h [some (2, 121)] [] (fun x => zHv x.1 ∧ ∃ g, CpF (m + 1) 0 (zset (zset h 121 1 (0, 0)) 121 0 (0, 0)) g ∧ x.1 = zset g 121 23 (0, (m : Int))) := by
  have : m = 0 ∨ m = 1 ∨ m = 2 := by omega
  refine vP_mono hO (fun r hv q => ⟨hv, q⟩) ?_
  rcases this with rfl | rfl | rfl
  · exact vP_hv (fun hv => qr_back_0 hT hO hv em (fun g f => ⟨g, f, rfl⟩))
  · exact vP_hv (fun hv => qr_back_1 hT hO hv em (fun g f => ⟨g, f, rfl⟩))
  · exact vP_hv (fun hv => qr_back_2 hT hO hv em (fun g f => ⟨g, f, rfl⟩))
theorem lZ.b010 {D : zD} {h : zH} (hZ : lZ D h) : h 0 10 = (0, (h 0 10).2) ∧ 0 ≤ (h 0 10).2 ∧ (h 0 10).2 ≤ 3 := by
  have b := hZ.bd (r := 0) (lo := 10) (hi := 10) (k := 0) (a := 0) (b := 3) ty_0 rfl (by decide +kernel) 10 (Nat.le_refl _) (Nat.le_refl _)
  exact ⟨Prod.ext b.1 rfl, b.2⟩
theorem zHv.e23 {h : zH} (hv : zHv h) : h 121 23 = (0, (h 121 23).2) := hv.eta (by decide +kernel)
theorem lRk_mark {D : zD} (_ : ∀ i, -2147483648 ≤ D.2 i ∧ D.2 i ≤ 2147483647) {h h1 h2 : zH} {v1 v2 : Int} (hZ : lZ D h) (hZ1 : lI aG1 D Fl0 lQk h1) (hR : lR h) (z1 : zRun D TLw 614 165 0 (h, zargs 0 [(2, 0)], []) (h1, some (0, v1))) (f1 : aFr lM_165 h h1) (z2 : zRun D TLw 614 276 0 (h1, zargs 0 [(2, 121)], []) (h2, some (0, v2))) (f2 : aFr lM_276 h1 h2) : lR h2 ∧ True := by
  refine ⟨?_, trivial⟩
  have hR' := hR
  obtain ⟨hT, hF, hM, r, c, s1, s2, s3, hL⟩ := hR'
  obtain ⟨t10, b0, b3⟩ := hZ.b010
  have c2 : c = 24 ∨ c = 39 := by
    rcases s1 with ⟨_, e⟩ | ⟨_, e⟩
    · exact Or.inr e
    · exact Or.inl e
  have k23 : h1 121 23 = h 121 23 := f1.keep (S := [(121, 23, 23)]) (by decide +kernel) ⟨(121, 23, 23), by decide, rfl, by decide, by decide⟩
  obtain ⟨m, hm⟩ : ∃ m : Nat, (h 0 10).2 = (m : Int) := ⟨(h 0 10).2.toNat, by omega⟩
  have r23 : h1 121 23 = (0, (m : Int)) := by rw [hZ1.hv.e23, k23, ← hM.1, hm]
  rw [hm] at t10
  by_cases h3 : m = 3
  · subst h3
    have a1 := hZ.run 1 z1 (Q := fun x => x = (zset h 0 0 (0, 7), some (0, -1))) (fun N => vP_hv (fun hv => qc_mark3 TLw_T vOK_T hv t10 rfl))
    have a2 := hZ1.run 1 z2 (Q := fun x => x = (zset (zset (zset h1 121 1 (0, 0)) 121 0 (0, 0)) 121 0 (0, 7), some (0, -1))) (fun N => vP_hv (fun hv => qr_mark3 TLw_T vOK_T hv r23 rfl))
    have a1' : h1 = zset h 0 0 (0, 7) := congrArg Prod.fst a1
    have a2' : h2 = zset (zset (zset h1 121 1 (0, 0)) 121 0 (0, 0)) 121 0 (0, 7) := congrArg Prod.fst a2
    refine hR.off (M := [(0, 0, 0), (121, 0, 1)]) (by decide +kernel) (fun a b hn => ?_)
    have n1 : ¬ (a = 121 ∧ b ≤ 1) := fun e => hn ⟨(121, 0, 1), by decide, e.1.symm, Nat.zero_le _, e.2⟩
    rw [a2', zset_ne (fun c => n1 (by omega)), zset_ne (fun c => n1 (by omega)), zset_ne (fun c => n1 (by omega)), a1']
    exact zset_ne (fun e => hn ⟨(0, 0, 0), by decide, e.1.symm, Nat.zero_le _, Nat.le_of_eq e.2⟩)
  · have hm3 : m < 3 := by omega
    have a1 := congrArg Prod.fst (hZ.run 1 z1 (Q := fun x => x = (zset (zset (cpLand h c (55 + 15 * m)) 0 10 (0, (m : Int) + 1)) 0 0 (0, 0), some (0, (m : Int) + 1))) (fun N => cx_mark TLw_T vOK_T c2 hm3 s2 t10))
    have a1 : h1 = zset (zset (cpLand h c (55 + 15 * m)) 0 10 (0, (m : Int) + 1)) 0 0 (0, 0) := a1
    obtain ⟨hv2, a2⟩ := hZ1.run 1 z2 (Q := fun x => zHv x.1 ∧ CpF 0 (m + 1) (zset (zset (zset h1 121 1 (0, 0)) 121 0 (0, 0)) 121 23 (0, (m : Int) + 1)) x.1) (fun N => rx_mark TLw_T vOK_T hm3 r23)
    have hv2 : zHv h2 := hv2
    have a2 : CpF 0 (m + 1) (zset (zset (zset h1 121 1 (0, 0)) 121 0 (0, 0)) 121 23 (0, (m : Int) + 1)) h2 := a2
    have hd : c + 15 ≤ 55 + 15 * m ∨ (55 + 15 * m) + 15 ≤ c := by omega
    have q1 : ∀ a k, ¬ (a = 0 ∧ (k = 0 ∨ k = 10)) → h1 a k = cpLand h c (55 + 15 * m) a k := fun a k hn => by
      rw [a1, zset_ne (fun c => hn (by omega)), zset_ne (fun c => hn (by omega))]
    have q2 : ∀ a k, ¬ (a = 121 ∧ (k ≤ 1 ∨ k = 23)) → ¬ (a = 126 ∧ 550 * (m + 1) ≤ k ∧ k < 550 * (m + 1) + 550) → ¬ (a = 128 ∧ 6 * (m + 1) ≤ k ∧ k < 6 * (m + 1) + 6) → h2 a k = h1 a k := fun a k n1 n2 n3 => by
      rw [a2.2.2 a k (fun c => by rcases c with c | c; exact n2 c; exact n3 c), zset_ne (fun c => n1 (by omega)), zset_ne (fun c => n1 (by omega)), zset_ne (fun c => n1 (by omega))]
    have q3 : ∀ a k, ¬ (a = 0 ∧ (k = 0 ∨ k = 10)) → ¬ (55 + 15 * m ≤ a ∧ a ≤ 55 + 15 * m + 14) → ¬ (a = 121 ∧ (k ≤ 1 ∨ k = 23)) → ¬ (a = 126 ∧ 550 * (m + 1) ≤ k ∧ k < 550 * (m + 1) + 550) → ¬ (a = 128 ∧ 6 * (m + 1) ≤ k ∧ k < 6 * (m + 1) + 6) → h2 a k = h a k := fun a k n1 n2 n3 n4 n5 => ((q2 a k n3 n4 n5).trans (q1 a k n1)).trans (cpLand_ne hd a k n2)
    have kk : ∀ x, x + 14 < 55 + 15 * m ∨ 55 + 15 * m + 14 < x → 1 ≤ x → x + 10 < 121 → cK x x h h2 := fun x hx x1 x2 => by
      refine ⟨fun k _ => q3 _ _ ?_ ?_ ?_ ?_ ?_, fun k _ => q3 _ _ ?_ ?_ ?_ ?_ ?_, fun k _ => q3 _ _ ?_ ?_ ?_ ?_ ?_, fun k _ => ⟨q3 _ _ ?_ ?_ ?_ ?_ ?_, q3 _ _ ?_ ?_ ?_ ?_ ?_, q3 _ _ ?_ ?_ ?_ ?_ ?_⟩, q3 _ _ ?_ ?_ ?_ ?_ ?_⟩ <;> omega
    have bb : ∀ b, b < 4 → b ≠ m + 1 → bK b b h h2 := fun b hb hne => by
      refine ⟨fun j hj => q3 _ _ ?_ ?_ ?_ ?_ ?_, fun k _ => q3 _ _ ?_ ?_ ?_ ?_ ?_⟩
      all_goals first | omega | (have : j < 276 := (by rcases hj with e | e | e | e <;> omega); omega)
    refine ⟨hT.of (q3 _ _ (by omega) (by omega) (by omega) (by omega) (by omega)) (fun q _ => q3 _ _ (by omega) (by omega) (by omega) (by omega) (by omega)) (q3 _ _ (by omega) (by omega) (by omega) (by omega) (by omega)) (fun q _ => q3 _ _ (by omega) (by omega) (by omega) (by omega) (by omega)), ?_, ⟨?_, fun m' hm' hq => ?_⟩, r, c, s1, (q3 _ _ (by omega) (by omega) (by omega) (by omega) (by omega)).trans s2, (q3 _ _ (by omega) (by omega) (by omega) (by omega) (by omega)).trans s3, hL.tr (kk c (by omega) (by omega) (by omega)) (bb 0 (by decide) (by omega))⟩
    · unfold lFa at hF ⊢
      rw [q3 10 9 (by omega) (by omega) (by omega) (by omega) (by omega), q3 10 10 (by omega) (by omega) (by omega) (by omega) (by omega), q3 121 10 (by omega) (by omega) (by omega) (by omega) (by omega), q3 121 11 (by omega) (by omega) (by omega) (by omega) (by omega)]
      exact hF
    · have e1 : h2 0 10 = (0, (m : Int) + 1) := by
        rw [q2 0 10 (by omega) (by omega) (by omega), a1, zset_ne (by omega), zset_same]
      have e2 : h2 121 23 = (0, (m : Int) + 1) := by
        rw [a2.2.2 121 23 (fun c => by omega), zset_same]
      rw [e1, e2]
    · have e1 : h2 0 10 = (0, (m : Int) + 1) := by
        rw [q2 0 10 (by omega) (by omega) (by omega), a1, zset_ne (by omega), zset_same]
      rw [e1] at hq
      have hq : (m' : Int) < (m : Int) + 1 := hq
      by_cases em : m' = m
      · subst em
        refine hL.tr (c' := 55 + 15 * m') (b' := m' + 1) ?_ ?_
        · have k1 := cpLand_K hZ.hv s1.ob hd
          refine k1.trans ⟨fun k _ => ?_, fun k _ => ?_, fun k _ => ?_, fun k _ => ⟨?_, ?_, ?_⟩, ?_⟩ <;> exact (q2 _ _ (by omega) (by omega) (by omega)).trans (q1 _ _ (by omega))
        · have hb1 : bK 0 0 h (zset (zset (zset h1 121 1 (0, 0)) 121 0 (0, 0)) 121 23 (0, (m' : Int) + 1)) := by
            refine ⟨fun j hj => ?_, fun k _ => ?_⟩ <;> (rw [zset_ne (by omega), zset_ne (by omega), zset_ne (by omega), q1 _ _ (by omega)]; exact cpLand_ne hd _ _ (by omega))
          have hvm : zHv (zset (zset (zset h1 121 1 (0, 0)) 121 0 (0, 0)) 121 23 (0, (m' : Int) + 1)) := zHv.m23 hZ1.hv
          exact hb1.trans (CpF.K (by decide) (by omega) hvm hv2 (fun _ => rfl) (fun _ => rfl) a2)
      · exact (hM.2 m' hm' (by omega)).tr (kk _ (by omega) (by omega) (by omega)) (bb _ (by omega) (by omega))
theorem lRk_back {D : zD} (_ : ∀ i, -2147483648 ≤ D.2 i ∧ D.2 i ≤ 2147483647) {h h1 h2 : zH} {v1 v2 : Int} (hZ : lZ D h) (hZ1 : lI aG1 D Fl0 lQb h1) (hR : lR h) (z1 : zRun D TLw 614 144 0 (h, zargs 0 [(2, 0)], []) (h1, some (0, v1))) (f1 : aFr lM_144 h h1) (z2 : zRun D TLw 614 199 0 (h1, zargs 0 [(2, 121)], []) (h2, some (0, v2))) (f2 : aFr lM_199 h1 h2) : lR h2 ∧ True := by
  refine ⟨?_, trivial⟩
  have hR' := hR
  obtain ⟨hT, hF, hM, r, c, s1, s2, s3, hL⟩ := hR'
  obtain ⟨t10, b0, b3⟩ := hZ.b010
  have c2 : c = 24 ∨ c = 39 := by
    rcases s1 with ⟨_, e⟩ | ⟨_, e⟩
    · exact Or.inr e
    · exact Or.inl e
  have k23 : h1 121 23 = h 121 23 := f1.keep (S := [(121, 23, 23)]) (by decide +kernel) ⟨(121, 23, 23), by decide, rfl, by decide, by decide⟩
  by_cases h0 : (h 0 10).2 = 0
  · rw [h0] at t10
    have r23 : h1 121 23 = (0, 0) := by rw [hZ1.hv.e23, k23, ← hM.1, h0]
    have a1 := hZ.run 1 z1 (Q := fun x => x = (zset h 0 0 (0, 8), some (0, -1))) (fun N => vP_hv (fun hv => qc_back0 TLw_T vOK_T hv t10 rfl))
    have a2 := hZ1.run 1 z2 (Q := fun x => x = (zset (zset (zset h1 121 1 (0, 0)) 121 0 (0, 0)) 121 0 (0, 8), some (0, -1))) (fun N => vP_hv (fun hv => qr_back0 TLw_T vOK_T hv r23 rfl))
    have a1' : h1 = zset h 0 0 (0, 8) := congrArg Prod.fst a1
    have a2' : h2 = zset (zset (zset h1 121 1 (0, 0)) 121 0 (0, 0)) 121 0 (0, 8) := congrArg Prod.fst a2
    refine hR.off (M := [(0, 0, 0), (121, 0, 1)]) (by decide +kernel) (fun a b hn => ?_)
    have n1 : ¬ (a = 121 ∧ b ≤ 1) := fun e => hn ⟨(121, 0, 1), by decide, e.1.symm, Nat.zero_le _, e.2⟩
    rw [a2', zset_ne (fun c => n1 (by omega)), zset_ne (fun c => n1 (by omega)), zset_ne (fun c => n1 (by omega)), a1']
    exact zset_ne (fun e => hn ⟨(0, 0, 0), by decide, e.1.symm, Nat.zero_le _, Nat.le_of_eq e.2⟩)
  · obtain ⟨m, hm⟩ : ∃ m : Nat, (h 0 10).2 = (m : Int) + 1 := ⟨((h 0 10).2 - 1).toNat, by omega⟩
    have r23 : h1 121 23 = (0, (m : Int) + 1) := by rw [hZ1.hv.e23, k23, ← hM.1, hm]
    rw [hm] at t10
    have hm3 : m < 3 := by omega
    have a1 := congrArg Prod.fst (hZ.run 1 z1 (Q := fun x => x = (zset (cpLand (zset h 0 10 (0, (m : Int))) (55 + 15 * m) c) 0 0 (0, 0), some (0, (m : Int)))) (fun N => cx_back TLw_T vOK_T c2 hm3 s2 t10))
    have a1 : h1 = zset (cpLand (zset h 0 10 (0, (m : Int))) (55 + 15 * m) c) 0 0 (0, 0) := a1
    obtain ⟨hv2, g, a2, a3⟩ := hZ1.run 1 z2 (Q := fun x => zHv x.1 ∧ ∃ g, CpF (m + 1) 0 (zset (zset h1 121 1 (0, 0)) 121 0 (0, 0)) g ∧ x.1 = zset g 121 23 (0, (m : Int))) (fun N => rx_back TLw_T vOK_T hm3 r23)
    have hv2 : zHv h2 := hv2
    have a3 : h2 = zset g 121 23 (0, (m : Int)) := a3
    have hd : 55 + 15 * m + 15 ≤ c ∨ c + 15 ≤ 55 + 15 * m := by omega
    have q0 : ∀ a k, ¬ (a = 0 ∧ (k = 0 ∨ k = 10)) → zset h 0 10 (0, (m : Int)) a k = h a k := fun a k hn => zset_ne (fun c => hn (by omega))
    have q1 : ∀ a k, ¬ (a = 0 ∧ (k = 0 ∨ k = 10)) → h1 a k = cpLand (zset h 0 10 (0, (m : Int))) (55 + 15 * m) c a k := fun a k hn => by
      rw [a1, zset_ne (fun c => hn (by omega))]
    have qg : ∀ a k, ¬ (a = 121 ∧ k = 23) → h2 a k = g a k := fun a k hn => by rw [a3, zset_ne hn]
    have q2 : ∀ a k, ¬ (a = 121 ∧ (k ≤ 1 ∨ k = 23)) → ¬ (a = 126 ∧ k < 550) → ¬ (a = 128 ∧ k < 6) → h2 a k = h1 a k := fun a k n1 n2 n3 => by
      rw [qg a k (fun c => n1 (by omega)), a2.2.2 a k (fun c => by omega), zset_ne (fun c => n1 (by omega)), zset_ne (fun c => n1 (by omega))]
    have q3 : ∀ a k, ¬ (a = 0 ∧ (k = 0 ∨ k = 10)) → ¬ (c ≤ a ∧ a ≤ c + 14) → ¬ (a = 121 ∧ (k ≤ 1 ∨ k = 23)) → ¬ (a = 126 ∧ k < 550) → ¬ (a = 128 ∧ k < 6) → h2 a k = h a k := fun a k n1 n2 n3 n4 n5 => (((q2 a k n3 n4 n5).trans (q1 a k n1)).trans (cpLand_ne hd a k n2)).trans (q0 a k n1)
    have kk : ∀ x, 55 ≤ x → x + 10 < 121 → cK x x h h2 := fun x x1 x2 => by
      refine ⟨fun k _ => q3 _ _ ?_ ?_ ?_ ?_ ?_, fun k _ => q3 _ _ ?_ ?_ ?_ ?_ ?_, fun k _ => q3 _ _ ?_ ?_ ?_ ?_ ?_, fun k _ => ⟨q3 _ _ ?_ ?_ ?_ ?_ ?_, q3 _ _ ?_ ?_ ?_ ?_ ?_, q3 _ _ ?_ ?_ ?_ ?_ ?_⟩, q3 _ _ ?_ ?_ ?_ ?_ ?_⟩ <;> omega
    have bb : ∀ b, b < 4 → 1 ≤ b → bK b b h h2 := fun b hb hne => by
      refine ⟨fun j hj => q3 _ _ ?_ ?_ ?_ ?_ ?_, fun k _ => q3 _ _ ?_ ?_ ?_ ?_ ?_⟩ <;> omega
    have e1 : h2 0 10 = (0, (m : Int)) := by
      rw [q2 0 10 (by omega) (by omega) (by omega), a1, zset_ne (by omega), cpLand_ne hd 0 10 (by omega), zset_same]
    have e2 : h2 121 23 = (0, (m : Int)) := by rw [a3, zset_same]
    have hL' := hM.2 m hm3 (by omega)
    refine ⟨hT.of (q3 _ _ (by omega) (by omega) (by omega) (by omega) (by omega)) (fun q _ => q3 _ _ (by omega) (by omega) (by omega) (by omega) (by omega)) (q3 _ _ (by omega) (by omega) (by omega) (by omega) (by omega)) (fun q _ => q3 _ _ (by omega) (by omega) (by omega) (by omega) (by omega)), ?_, ⟨?_, fun m' hm' hq => ?_⟩, r, c, s1, (q3 _ _ (by omega) (by omega) (by omega) (by omega) (by omega)).trans s2, (q3 _ _ (by omega) (by omega) (by omega) (by omega) (by omega)).trans s3, ?_⟩
    · unfold lFa at hF ⊢
      rw [q3 10 9 (by omega) (by omega) (by omega) (by omega) (by omega), q3 10 10 (by omega) (by omega) (by omega) (by omega) (by omega), q3 121 10 (by omega) (by omega) (by omega) (by omega) (by omega), q3 121 11 (by omega) (by omega) (by omega) (by omega) (by omega)]
      exact hF
    · rw [e1, e2]
    · rw [e1] at hq
      have hq : (m' : Int) < (m : Int) := hq
      exact (hM.2 m' hm' (by omega)).tr (kk _ (by omega) (by omega)) (bb _ (by omega) (by omega))
    · refine hL'.tr ?_ ?_
      · have k0 : cK (55 + 15 * m) (55 + 15 * m) h (zset h 0 10 (0, (m : Int))) := by
          refine ⟨fun k _ => ?_, fun k _ => ?_, fun k _ => ?_, fun k _ => ⟨?_, ?_, ?_⟩, ?_⟩ <;> exact q0 _ _ (by omega)
        have k1 := cpLand_K (h := zset h 0 10 (0, (m : Int))) (zHv.m10 hZ.hv) (mOb hm3) hd
        refine (k0.trans k1).trans ⟨fun k _ => ?_, fun k _ => ?_, fun k _ => ?_, fun k _ => ⟨?_, ?_, ?_⟩, ?_⟩ <;> exact (q2 _ _ (by omega) (by omega) (by omega)).trans (q1 _ _ (by omega))
      · have hb1 : bK (m + 1) (m + 1) h (zset (zset h1 121 1 (0, 0)) 121 0 (0, 0)) := by
          refine ⟨fun j hj => ?_, fun k _ => ?_⟩ <;> (rw [zset_ne (by omega), zset_ne (by omega), q1 _ _ (by omega), cpLand_ne hd _ _ (by omega)]; exact q0 _ _ (by omega))
        have hvm : zHv (zset (zset h1 121 1 (0, 0)) 121 0 (0, 0)) := zHv.m01 hZ1.hv
        exact hb1.trans (CpF.K (by omega) (by decide) hvm hv2 (fun _ => qg _ _ (by omega)) (fun _ => qg _ _ (by omega)) a2)
