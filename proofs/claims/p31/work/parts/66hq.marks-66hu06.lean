section
/-! mark(), back() on both sides -/
theorem lI.ty {D : zD} {qs : List aQ} {h : zH} (hZ : lI aG1 D Fl0 qs h) : aTyped aTy1 h := by
  obtain ⟨q, -, ρ, g⟩ := hZ
  exact g.2.1
theorem lI.hv {D : zD} {qs : List aQ} {h : zH} (hZ : lI aG1 D Fl0 qs h) : zHv h := zHv_of hZ.ty
theorem lI.run {D : zD} {qs : List aQ} {h : zH} (hZ : lI aG1 D Fl0 qs h) {d mi : Nat} {as : List zV} {r : zR} {Q : zR → Prop} (w : Nat) (hr : zRun D TLw d mi 0 (h, zargs 0 as, []) r) (k : ∀ N, vP D TLw N mi 0 h (vargs w as) [] Q) : Q r := by
  rw [zargs_vL w] at hr
  exact vP_run hr hZ.hv k
theorem hv126 {h : zH} (hv : zHv h) {x : Nat} (hx : x < 2750) : h 126 x = (0, (h 126 x).2) := hv.eta (by
  unfold vCode
  show (if x < 2750 then some 0 else none) = some 0
  rw [if_pos hx])
theorem hv128 {h : zH} (hv : zHv h) {x : Nat} (hx : x < 30) : h 128 x = (1, (h 128 x).2) := Prod.ext (hv.1 128 x 1 (by
  unfold vCode
  show (if x < 30 then some 1 else none) = some 1
  rw [if_pos hx]) (by decide)) rfl
theorem zHv.seti {h : zH} (hv : zHv h) {r k : Nat} {z : Int} (hc : vCode r k = some 0) (hr : (vRefs.all fun x => !(x.1 == r && x.2.1 == k)) = true) : zHv (zset h r k (0, z)) := hv.set hc (fun _ => rfl) (fun x hx e => by
  have := List.all_eq_true.mp hr x hx
  rw [e.1, e.2, beq_self_eq_true, beq_self_eq_true] at this
  exact absurd this (by decide))
theorem zHv.m01 {h : zH} (hv : zHv h) : zHv (zset (zset h 121 1 (0, 0)) 121 0 (0, 0)) := (hv.seti (by decide +kernel) (by decide +kernel)).seti (by decide +kernel) (by decide +kernel)
theorem zHv.m23 {h : zH} {z : Int} (hv : zHv h) : zHv (zset (zset (zset h 121 1 (0, 0)) 121 0 (0, 0)) 121 23 (0, z)) := hv.m01.seti (by decide +kernel) (by decide +kernel)
theorem zHv.m10 {h : zH} {z : Int} (hv : zHv h) : zHv (zset h 0 10 (0, z)) := hv.seti (by decide +kernel) (by decide +kernel)
theorem CpF.K {f t : Nat} {h g0 g : zH} (hf : f < 4) (ht : t < 4) (hv : zHv h) (hg : zHv g) (e1 : ∀ k, g 126 k = g0 126 k) (e2 : ∀ k, g 128 k = g0 128 k) (c : CpF f t h g0) : bK f t h g := by
  obtain ⟨c1, c2, _⟩ := c
  refine ⟨fun j hj => ?_, fun k hk => ?_⟩
  · have : j < 276 := by
      rcases hj with e | e | e | e <;> omega
    rw [hv126 hg (by omega), e1, c1 j (by omega)]
    exact (hv126 hv (by omega)).symm
  · rw [hv128 hg (by omega), e2, c2 k hk]
    exact (hv128 hv (by omega)).symm
theorem cx_mark {D : zD} {T : zT} (hT : hTab T) (hO : vOK T) {N : Nat} {h : zH} {c m : Nat} (hc : c = 24 ∨ c = 39) (hm : m < 3) (e7 : h 0 7 = (2, (c : Int))) (em : h 0 10 = (0, (m : Int))) : vP D T N 165 0 h [some (2, 0)] [] (fun x => x = (zset (zset (cpLand h c (55 + 15 * m)) 0 10 (0, (m : Int) + 1)) 0 0 (0, 0), some (0, (m : Int) + 1))) := by
  have : m = 0 ∨ m = 1 ∨ m = 2 := by omega
  rcases hc with rfl | rfl <;> rcases this with rfl | rfl | rfl
  · exact vP_hv (fun hv => qc_mark_24_0 hT hO hv e7 em rfl)
  · exact vP_hv (fun hv => qc_mark_24_1 hT hO hv e7 em rfl)
  · exact vP_hv (fun hv => qc_mark_24_2 hT hO hv e7 em rfl)
  · exact vP_hv (fun hv => qc_mark_39_0 hT hO hv e7 em rfl)
  · exact vP_hv (fun hv => qc_mark_39_1 hT hO hv e7 em rfl)
  · exact vP_hv (fun hv => qc_mark_39_2 hT hO hv e7 em rfl)
theorem cx_back {D : zD} {T : zT} (hT : hTab T) (hO : vOK T) {N : Nat} {h : zH} {c m : Nat} (hc : c = 24 ∨ c = 39) (hm : m < 3) (e7 : h 0 7 = (2, (c : Int))) (em : h 0 10 = (0, (m : Int) + 1)) : vP D T N 144 0 h [some (2, 0)] [] (fun x => x = (zset (cpLand (zset h 0 10 (0, (m : Int))) (55 + 15 * m) c) 0 0 (0, 0), some (0, (m : Int)))) := by
  have : m = 0 ∨ m = 1 ∨ m = 2 := by omega
  rcases hc with rfl | rfl <;> rcases this with rfl | rfl | rfl
  · exact vP_hv (fun hv => qc_back_24_0 hT hO hv e7 em rfl)
  · exact vP_hv (fun hv => qc_back_24_1 hT hO hv e7 em rfl)
  · exact vP_hv (fun hv => qc_back_24_2 hT hO hv e7 em rfl)
  · exact vP_hv (fun hv => qc_back_39_0 hT hO hv e7 em rfl)
  · exact vP_hv (fun hv => qc_back_39_1 hT hO hv e7 em rfl)
  · exact vP_hv (fun hv => qc_back_39_2 hT hO hv e7 em rfl)
theorem rx_mark {D : zD} {T : zT} (hT : hTab T) (hO : vOK T) {N : Nat} {h : zH} {m : Nat} (hm : m < 3) (em : h 121 23 = (0, (m : Int))) : vP D T N 276 0 h [some (2, 121)] [] (fun x => zHv x.1 ∧ CpF 0 (m + 1) (zset (zset (zset h 121 1 (0, 0)) 121 0 (0, 0)) 121 23 (0, (m : Int) + 1)) x.1) := by
  have : m = 0 ∨ m = 1 ∨ m = 2 := by omega
  refine vP_mono hO (fun r hv q => ⟨hv, q⟩) ?_
  rcases this with rfl | rfl | rfl
  · exact vP_hv (fun hv => qr_mark_0 hT hO hv em (fun g f => f))
  · exact vP_hv (fun hv => qr_mark_1 hT hO hv em (fun g f => f))
  · exact vP_hv (fun hv => qr_mark_2 hT hO hv em (fun g f => f))
theorem rx_back {D : zD} {T : zT} (hT : hTab T) (hO : vOK T) {N : Nat} {h : zH} {m : Nat} (hm : m < 3) (em : h 121 23 = (0, (m : Int) + 1)) : vP D T N 199 0 h [some (2, 121)] [] (fun x => zHv x.1 ∧ ∃ g, CpF (m + 1) 0 (zset (zset h 121 1 (0, 0)) 121 0 (0, 0)) g ∧ x.1 = zset g 121 23 (0, (m : Int))) := by
  have : m = 0 ∨ m = 1 ∨ m = 2 := by omega
  refine vP_mono hO (fun r hv q => ⟨hv, q⟩) ?_
  rcases this with rfl | rfl | rfl
  · exact vP_hv (fun hv => qr_back_0 hT hO hv em (fun g f => ⟨g, f, rfl⟩))
  · exact vP_hv (fun hv => qr_back_1 hT hO hv em (fun g f => ⟨g, f, rfl⟩))
  · exact vP_hv (fun hv => qr_back_2 hT hO hv em (fun g f => ⟨g, f, rfl⟩))
theorem lZ.b010 {D : zD} {h : zH} (hZ : lZ D h) : h 0 10 = (0, (h 0 10).2) ∧ 0 ≤ (h 0 10).2 ∧ (h 0 10).2 ≤ 3 := by
  have b := hZ.bd (r := 0) (lo := 10) (hi := 10) (k := 0) (a := 0) (b := 3) ty_0 rfl (by decide +kernel) 10 (Nat.le_refl _) (Nat.le_refl _)
  exact ⟨Prod.ext b.1 rfl, b.2⟩
theorem zHv.e23 {h : zH} (hv : zHv h) : h 121 23 = (0, (h 121 23).2) := hv.eta (by decide +kernel)
theorem lRk_mark {D : zD} (_ : ∀ i, -2147483648 ≤ D.2 i ∧ D.2 i ≤ 2147483647) {h h1 h2 : zH} {v1 v2 : Int} (hZ : lZ D h) (hZ1 : lI aG1 D Fl0 lQk h1) (hR : lR h) (z1 : zRun D TLw 614 165 0 (h, zargs 0 [(2, 0)], []) (h1, some (0, v1))) (f1 : aFr lM_165 h h1) (z2 : zRun D TLw 614 276 0 (h1, zargs 0 [(2, 121)], []) (h2, some (0, v2))) (f2 : aFr lM_276 h1 h2) : lR h2 ∧ True := by
  refine ⟨?_, trivial⟩
  have hR' := hR
  obtain ⟨hT, hF, hM, r, c, s1, s2, s3, hL⟩ := hR'
  obtain ⟨t10, b0, b3⟩ := hZ.b010
  have c2 : c = 24 ∨ c = 39 := by
    rcases s1 with ⟨_, e⟩ | ⟨_, e⟩
    · exact Or.inr e
    · exact Or.inl e
  have k23 : h1 121 23 = h 121 23 := f1.keep (S := [(121, 23, 23)]) (by decide +kernel) ⟨(121, 23, 23), by decide, rfl, by decide, by decide⟩
  obtain ⟨m, hm⟩ : ∃ m : Nat, (h 0 10).2 = (m : Int) := ⟨(h 0 10).2.toNat, by omega⟩
  have r23 : h1 121 23 = (0, (m : Int)) := by rw [hZ1.hv.e23, k23, ← hM.1, hm]
  rw [hm] at t10
  by_cases h3 : m = 3
  · subst h3
    have a1 := hZ.run 1 z1 (Q := fun x => x = (zset h 0 0 (0, 7), some (0, -1))) (fun N => vP_hv (fun hv => qc_mark3 TLw_T vOK_T hv t10 rfl))
    have a2 := hZ1.run 1 z2 (Q := fun x => x = (zset (zset (zset h1 121 1 (0, 0)) 121 0 (0, 0)) 121 0 (0, 7), some (0, -1))) (fun N => vP_hv (fun hv => qr_mark3 TLw_T vOK_T hv r23 rfl))
    have a1' : h1 = zset h 0 0 (0, 7) := congrArg Prod.fst a1
    have a2' : h2 = zset (zset (zset h1 121 1 (0, 0)) 121 0 (0, 0)) 121 0 (0, 7) := congrArg Prod.fst a2
    refine hR.off (M := [(0, 0, 0), (121, 0, 1)]) (by decide +kernel) (fun a b hn => ?_)
    have n1 : ¬ (a = 121 ∧ b ≤ 1) := fun e => hn ⟨(121, 0, 1), by decide, e.1.symm, Nat.zero_le _, e.2⟩
    rw [a2', zset_ne (fun c => n1 (by omega)), zset_ne (fun c => n1 (by omega)), zset_ne (fun c => n1 (by omega)), a1']
    exact zset_ne (fun e => hn ⟨(0, 0, 0), by decide, e.1.symm, Nat.zero_le _, Nat.le_of_eq e.2⟩)
  · have hm3 : m < 3 := by omega
    have a1 := congrArg Prod.fst (hZ.run 1 z1 (Q := fun x => x = (zset (zset (cpLand h c (55 + 15 * m)) 0 10 (0, (m : Int) + 1)) 0 0 (0, 0), some (0, (m : Int) + 1))) (fun N => cx_mark TLw_T vOK_T c2 hm3 s2 t10))
    have a1 : h1 = zset (zset (cpLand h c (55 + 15 * m)) 0 10 (0, (m : Int) + 1)) 0 0 (0, 0) := a1
    obtain ⟨hv2, a2⟩ := hZ1.run 1 z2 (Q := fun x => zHv x.1 ∧ CpF 0 (m + 1) (zset (zset (zset h1 121 1 (0, 0)) 121 0 (0, 0)) 121 23 (0, (m : Int) + 1)) x.1) (fun N => rx_mark TLw_T vOK_T hm3 r23)
    have hv2 : zHv h2 := hv2
    have a2 : CpF 0 (m + 1) (zset (zset (zset h1 121 1 (0, 0)) 121 0 (0, 0)) 121 23 (0, (m : Int) + 1)) h2 := a2
    have hd : c + 15 ≤ 55 + 15 * m ∨ (55 + 15 * m) + 15 ≤ c := by omega
    have q1 : ∀ a k, ¬ (a = 0 ∧ (k = 0 ∨ k = 10)) → h1 a k = cpLand h c (55 + 15 * m) a k := fun a k hn => by
      rw [a1, zset_ne (fun c => hn (by omega)), zset_ne (fun c => hn (by omega))]
    have q2 : ∀ a k, ¬ (a = 121 ∧ (k ≤ 1 ∨ k = 23)) → ¬ (a = 126 ∧ 550 * (m + 1) ≤ k ∧ k < 550 * (m + 1) + 550) → ¬ (a = 128 ∧ 6 * (m + 1) ≤ k ∧ k < 6 * (m + 1) + 6) → h2 a k = h1 a k := fun a k n1 n2 n3 => by
      rw [a2.2.2 a k (fun c => by rcases c with c | c; exact n2 c; exact n3 c), zset_ne (fun c => n1 (by omega)), zset_ne (fun c => n1 (by omega)), zset_ne (fun c => n1 (by omega))]
    have q3 : ∀ a k, ¬ (a = 0 ∧ (k = 0 ∨ k = 10)) → ¬ (55 + 15 * m ≤ a ∧ a ≤ 55 + 15 * m + 14) → ¬ (a = 121 ∧ (k ≤ 1 ∨ k = 23)) → ¬ (a = 126 ∧ 550 * (m + 1) ≤ k ∧ k < 550 * (m + 1) + 550) → ¬ (a = 128 ∧ 6 * (m + 1) ≤ k ∧ k < 6 * (m + 1) + 6) → h2 a k = h a k := fun a k n1 n2 n3 n4 n5 => ((q2 a k n3 n4 n5).trans (q1 a k n1)).trans (cpLand_ne hd a k n2)
    have kk : ∀ x, x + 14 < 55 + 15 * m ∨ 55 + 15 * m + 14 < x → 1 ≤ x → x + 10 < 121 → cK x x h h2 := fun x hx x1 x2 => by
      refine ⟨fun k _ => q3 _ _ ?_ ?_ ?_ ?_ ?_, fun k _ => q3 _ _ ?_ ?_ ?_ ?_ ?_, fun k _ => q3 _ _ ?_ ?_ ?_ ?_ ?_, fun k _ => ⟨q3 _ _ ?_ ?_ ?_ ?_ ?_, q3 _ _ ?_ ?_ ?_ ?_ ?_, q3 _ _ ?_ ?_ ?_ ?_ ?_⟩, q3 _ _ ?_ ?_ ?_ ?_ ?_⟩ <;> omega
    have bb : ∀ b, b < 4 → b ≠ m + 1 → bK b b h h2 := fun b hb hne => by
      refine ⟨fun j hj => q3 _ _ ?_ ?_ ?_ ?_ ?_, fun k _ => q3 _ _ ?_ ?_ ?_ ?_ ?_⟩
      all_goals first | omega | (have : j < 276 := (by rcases hj with e | e | e | e <;> omega); omega)
    refine ⟨hT.of (q3 _ _ (by omega) (by omega) (by omega) (by omega) (by omega)) (fun q _ => q3 _ _ (by omega) (by omega) (by omega) (by omega) (by omega)) (q3 _ _ (by omega) (by omega) (by omega) (by omega) (by omega)) (fun q _ => q3 _ _ (by omega) (by omega) (by omega) (by omega) (by omega)), ?_, ⟨?_, fun m' hm' hq => ?_⟩, r, c, s1, (q3 _ _ (by omega) (by omega) (by omega) (by omega) (by omega)).trans s2, (q3 _ _ (by omega) (by omega) (by omega) (by omega) (by omega)).trans s3, hL.tr (kk c (by omega) (by omega) (by omega)) (bb 0 (by decide) (by omega))⟩
    · unfold lFa at hF ⊢
      rw [q3 10 9 (by omega) (by omega) (by omega) (by omega) (by omega), q3 10 10 (by omega) (by omega) (by omega) (by omega) (by omega), q3 121 10 (by omega) (by omega) (by omega) (by omega) (by omega), q3 121 11 (by omega) (by omega) (by omega) (by omega) (by omega)]
      exact hF
    · have e1 : h2 0 10 = (0, (m : Int) + 1) := by
        rw [q2 0 10 (by omega) (by omega) (by omega), a1, zset_ne (by omega), zset_same]
      have e2 : h2 121 23 = (0, (m : Int) + 1) := by
        rw [a2.2.2 121 23 (fun c => by omega), zset_same]
      rw [e1, e2]
    · have e1 : h2 0 10 = (0, (m : Int) + 1) := by
        rw [q2 0 10 (by omega) (by omega) (by omega), a1, zset_ne (by omega), zset_same]
      rw [e1] at hq
      have hq : (m' : Int) < (m : Int) + 1 := hq
      by_cases em : m' = m
      · subst em
        refine hL.tr (c' := 55 + 15 * m') (b' := m' + 1) ?_ ?_
        · have k1 := cpLand_K hZ.hv s1.ob hd
          refine k1.trans ⟨fun k _ => ?_, fun k _ => ?_, fun k _ => ?_, fun k _ => ⟨?_, ?_, ?_⟩, ?_⟩ <;> exact (q2 _ _ (by omega) (by omega) (by omega)).trans (q1 _ _ (by omega))
        · have hb1 : bK 0 0 h (zset (zset (zset h1 121 1 (0, 0)) 121 0 (0, 0)) 121 23 (0, (m' : Int) + 1)) := by
            refine ⟨fun j hj => ?_, fun k _ => ?_⟩ <;> (rw [zset_ne (by omega), zset_ne (by omega), zset_ne (by omega), q1 _ _ (by omega)]; exact cpLand_ne hd _ _ (by omega))
          have hvm : zHv (zset (zset (zset h1 121 1 (0, 0)) 121 0 (0, 0)) 121 23 (0, (m' : Int) + 1)) := zHv.m23 hZ1.hv
          exact hb1.trans (CpF.K (by decide) (by omega) hvm hv2 (fun _ => rfl) (fun _ => rfl) a2)
      · exact (hM.2 m' hm' (by omega)).tr (kk _ (by omega) (by omega) (by omega)) (bb _ (by omega) (by omega))
theorem lRk_back {D : zD} (_ : ∀ i, -2147483648 ≤ D.2 i ∧ D.2 i ≤ 2147483647) {h h1 h2 : zH} {v1 v2 : Int} (hZ : lZ D h) (hZ1 : lI aG1 D Fl0 lQb h1) (hR : lR h) (z1 : zRun D TLw 614 144 0 (h, zargs 0 [(2, 0)], []) (h1, some (0, v1))) (f1 : aFr lM_144 h h1) (z2 : zRun D TLw 614 199 0 (h1, zargs 0 [(2, 121)], []) (h2, some (0, v2))) (f2 : aFr lM_199 h1 h2) : lR h2 ∧ True := by
  refine ⟨?_, trivial⟩
  have hR' := hR
  obtain ⟨hT, hF, hM, r, c, s1, s2, s3, hL⟩ := hR'
  obtain ⟨t10, b0, b3⟩ := hZ.b010
  have c2 : c = 24 ∨ c = 39 := by
    rcases s1 with ⟨_, e⟩ | ⟨_, e⟩
    · exact Or.inr e
    · exact Or.inl e
  have k23 : h1 121 23 = h 121 23 := f1.keep (S := [(121, 23, 23)]) (by decide +kernel) ⟨(121, 23, 23), by decide, rfl, by decide, by decide⟩
  by_cases h0 : (h 0 10).2 = 0
  · rw [h0] at t10
    have r23 : h1 121 23 = (0, 0) := by rw [hZ1.hv.e23, k23, ← hM.1, h0]
    have a1 := hZ.run 1 z1 (Q := fun x => x = (zset h 0 0 (0, 8), some (0, -1))) (fun N => vP_hv (fun hv => qc_back0 TLw_T vOK_T hv t10 rfl))
    have a2 := hZ1.run 1 z2 (Q := fun x => x = (zset (zset (zset h1 121 1 (0, 0)) 121 0 (0, 0)) 121 0 (0, 8), some (0, -1))) (fun N => vP_hv (fun hv => qr_back0 TLw_T vOK_T hv r23 rfl))
    have a1' : h1 = zset h 0 0 (0, 8) := congrArg Prod.fst a1
    have a2' : h2 = zset (zset (zset h1 121 1 (0, 0)) 121 0 (0, 0)) 121 0 (0, 8) := congrArg Prod.fst a2
    refine hR.off (M := [(0, 0, 0), (121, 0, 1)]) (by decide +kernel) (fun a b hn => ?_)
    have n1 : ¬ (a = 121 ∧ b ≤ 1) := fun e => hn ⟨(121, 0, 1), by decide, e.1.symm, Nat.zero_le _, e.2⟩
    rw [a2', zset_ne (fun c => n1 (by omega)), zset_ne (fun c => n1 (by omega)), zset_ne (fun c => n1 (by omega)), a1']
    exact zset_ne (fun e => hn ⟨(0, 0, 0), by decide, e.1.symm, Nat.zero_le _, Nat.le_of_eq e.2⟩)
  · obtain ⟨m, hm⟩ : ∃ m : Nat, (h 0 10).2 = (m : Int) + 1 := ⟨((h 0 10).2 - 1).toNat, by omega⟩
    have r23 : h1 121 23 = (0, (m : Int) + 1) := by rw [hZ1.hv.e23, k23, ← hM.1, hm]
    rw [hm] at t10
    have hm3 : m < 3 := by omega
    have a1 := congrArg Prod.fst (hZ.run 1 z1 (Q := fun x => x = (zset (cpLand (zset h 0 10 (0, (m : Int))) (55 + 15 * m) c) 0 0 (0, 0), some (0, (m : Int)))) (fun N => cx_back TLw_T vOK_T c2 hm3 s2 t10))
    have a1 : h1 = zset (cpLand (zset h 0 10 (0, (m : Int))) (55 + 15 * m) c) 0 0 (0, 0) := a1
    obtain ⟨hv2, g, a2, a3⟩ := hZ1.run 1 z2 (Q := fun x => zHv x.1 ∧ ∃ g, CpF (m + 1) 0 (zset (zset h1 121 1 (0, 0)) 121 0 (0, 0)) g ∧ x.1 = zset g 121 23 (0, (m : Int))) (fun N => rx_back TLw_T vOK_T hm3 r23)
    have hv2 : zHv h2 := hv2
    have a3 : h2 = zset g 121 23 (0, (m : Int)) := a3
    have hd : 55 + 15 * m + 15 ≤ c ∨ c + 15 ≤ 55 + 15 * m := by omega
    have q0 : ∀ a k, ¬ (a = 0 ∧ (k = 0 ∨ k = 10)) → zset h 0 10 (0, (m : Int)) a k = h a k := fun a k hn => zset_ne (fun c => hn (by omega))
    have q1 : ∀ a k, ¬ (a = 0 ∧ (k = 0 ∨ k = 10)) → h1 a k = cpLand (zset h 0 10 (0, (m : Int))) (55 + 15 * m) c a k := fun a k hn => by
      rw [a1, zset_ne (fun c => hn (by omega))]
    have qg : ∀ a k, ¬ (a = 121 ∧ k = 23) → h2 a k = g a k := fun a k hn => by rw [a3, zset_ne hn]
    have q2 : ∀ a k, ¬ (a = 121 ∧ (k ≤ 1 ∨ k = 23)) → ¬ (a = 126 ∧ k < 550) → ¬ (a = 128 ∧ k < 6) → h2 a k = h1 a k := fun a k n1 n2 n3 => by
      rw [qg a k (fun c => n1 (by omega)), a2.2.2 a k (fun c => by omega), zset_ne (fun c => n1 (by omega)), zset_ne (fun c => n1 (by omega))]
    have q3 : ∀ a k, ¬ (a = 0 ∧ (k = 0 ∨ k = 10)) → ¬ (c ≤ a ∧ a ≤ c + 14) → ¬ (a = 121 ∧ (k ≤ 1 ∨ k = 23)) → ¬ (a = 126 ∧ k < 550) → ¬ (a = 128 ∧ k < 6) → h2 a k = h a k := fun a k n1 n2 n3 n4 n5 => (((q2 a k n3 n4 n5).trans (q1 a k n1)).trans (cpLand_ne hd a k n2)).trans (q0 a k n1)
    have kk : ∀ x, 55 ≤ x → x + 10 < 121 → cK x x h h2 := fun x x1 x2 => by
      refine ⟨fun k _ => q3 _ _ ?_ ?_ ?_ ?_ ?_, fun k _ => q3 _ _ ?_ ?_ ?_ ?_ ?_, fun k _ => q3 _ _ ?_ ?_ ?_ ?_ ?_, fun k _ => ⟨q3 _ _ ?_ ?_ ?_ ?_ ?_, q3 _ _ ?_ ?_ ?_ ?_ ?_, q3 _ _ ?_ ?_ ?_ ?_ ?_⟩, q3 _ _ ?_ ?_ ?_ ?_ ?_⟩ <;> omega
    have bb : ∀ b, b < 4 → 1 ≤ b → bK b b h h2 := fun b hb hne => by
      refine ⟨fun j hj => q3 _ _ ?_ ?_ ?_ ?_ ?_, fun k _ => q3 _ _ ?_ ?_ ?_ ?_ ?_⟩ <;> omega
    have e1 : h2 0 10 = (0, (m : Int)) := by
      rw [q2 0 10 (by omega) (by omega) (by omega), a1, zset_ne (by omega), cpLand_ne hd 0 10 (by omega), zset_same]
    have e2 : h2 121 23 = (0, (m : Int)) := by rw [a3, zset_same]
    have hL' := hM.2 m hm3 (by omega)
    refine ⟨hT.of (q3 _ _ (by omega) (by omega) (by omega) (by omega) (by omega)) (fun q _ => q3 _ _ (by omega) (by omega) (by omega) (by omega) (by omega)) (q3 _ _ (by omega) (by omega) (by omega) (by omega) (by omega)) (fun q _ => q3 _ _ (by omega) (by omega) (by omega) (by omega) (by omega)), ?_, ⟨?_, fun m' hm' hq => ?_⟩, r, c, s1, (q3 _ _ (by omega) (by omega) (by omega) (by omega) (by omega)).trans s2, (q3 _ _ (by omega) (by omega) (by omega) (by omega) (by omega)).trans s3, ?_⟩
    · unfold lFa at hF ⊢
      rw [q3 10 9 (by omega) (by omega) (by omega) (by omega) (by omega), q3 10 10 (by omega) (by omega) (by omega) (by omega) (by omega), q3 121 10 (by omega) (by omega) (by omega) (by omega) (by omega), q3 121 11 (by omega) (by omega) (by omega) (by omega) (by omega)]
      exact hF
    · rw [e1, e2]
    · rw [e1] at hq
      have hq : (m' : Int) < (m : Int) := hq
      exact (hM.2 m' hm' (by omega)).tr (kk _ (by omega) (by omega)) (bb _ (by omega) (by omega))
    · refine hL'.tr ?_ ?_
      · have k0 : cK (55 + 15 * m) (55 + 15 * m) h (zset h 0 10 (0, (m : Int))) := by
          refine ⟨fun k _ => ?_, fun k _ => ?_, fun k _ => ?_, fun k _ => ⟨?_, ?_, ?_⟩, ?_⟩ <;> exact q0 _ _ (by omega)
        have k1 := cpLand_K (h := zset h 0 10 (0, (m : Int))) (zHv.m10 hZ.hv) (mOb hm3) hd
        refine (k0.trans k1).trans ⟨fun k _ => ?_, fun k _ => ?_, fun k _ => ?_, fun k _ => ⟨?_, ?_, ?_⟩, ?_⟩ <;> exact (q2 _ _ (by omega) (by omega) (by omega)).trans (q1 _ _ (by omega))
      · have hb1 : bK (m + 1) (m + 1) h (zset (zset h1 121 1 (0, 0)) 121 0 (0, 0)) := by
          refine ⟨fun j hj => ?_, fun k _ => ?_⟩ <;> (rw [zset_ne (by omega), zset_ne (by omega), q1 _ _ (by omega), cpLand_ne hd _ _ (by omega)]; exact q0 _ _ (by omega))
        have hvm : zHv (zset (zset h1 121 1 (0, 0)) 121 0 (0, 0)) := zHv.m01 hZ1.hv
        exact hb1.trans (CpF.K (by omega) (by decide) hvm hv2 (fun _ => qg _ _ (by omega)) (fun _ => qg _ _ (by omega)) a2)
end
section
/-! arrivals(): what it leaves of both LANDS -/
theorem vRn_k {D : zD} {T : zT} {N mi pc : Nat} {h : zH} {l : List (Option zV)} {S : List zV} {Q : zR → Prop} {h0 : zH} (H : vP D T N mi pc h l S (fun r => r.2 = none ∧ (∀ j, r.1 127 j = h0 127 j) ∧ oH 127 121 21 r.1)) (k : ∀ g, ((∀ j, g 127 j = h0 127 j) ∧ oH 127 121 21 g) → Q (g, none)) : vP D T N mi pc h l S Q := vP_Q (fun r hr => by
  obtain ⟨g, v⟩ := r
  obtain ⟨e, a⟩ := hr
  have e : v = none := e
  subst e
  exact k g a) H
theorem vFr_k {D : zD} {T : zT} {N mi pc : Nat} {h : zH} {l : List (Option zV)} {S : List zV} {Q : zR → Prop} {h0 : zH} (H : vP D T N mi pc h l S (fun r => r.2 = some (0, 1) ∧ ∀ j, r.1 126 j = h0 126 j)) (k : ∀ g, (∀ j, g 126 j = h0 126 j) → Q (g, some (0, 1))) : vP D T N mi pc h l S Q := vP_Q (fun r hr => by
  obtain ⟨g, v⟩ := r
  obtain ⟨e, a⟩ := hr
  have e : v = some (0, 1) := e
  subst e
  exact k g a) H
theorem oH.seti {u r0 k0 : Nat} {h : zH} (g : oH u r0 k0 h) {r k : Nat} {z : Int} : oH u r0 k0 (zset h r k (0, z)) := fun a b hc hn => by
  by_cases e : a = r ∧ b = k
  · obtain ⟨rfl, rfl⟩ := e
    rw [zset_same]
    exact oV_0
  · rw [zset_ne e]
    exact g a b hc hn
theorem qr_frac0 {D : zD} {T : zT} (hT : hTab T) (hO : vOK T) {N : Nat} {h : zH} {Q : zR → Prop} (t b : Int) (hv0 : zHv h)
    (k0 : vP D T N 230 9 h [some (2, 121), some (1, t), none, some (1, b), none, some (1, (if 0 < t then t else (-Int64.ofInt t).toInt)), none, some (1, b), none, none, none] [] Q) :
    vP D T N 230 0 h [some (2, 121), some (1, t), none, some (1, b), none, none, none, none, none, none, none] [] Q := by
  refine v_load (v := (1, t)) (hz_X12_fraction hT _ _ rfl) rfl rfl ?_
  refine v_abs (hz_X12_fraction hT _ _ rfl) ?_
  refine v_store2 [some (2, 121), some (1, t), none, some (1, b), none, some (1, (if 0 < t then t else (-Int64.ofInt t).toInt)), none, none, none, none, none] (hz_X12_fraction hT _ _ rfl) (Nat.le_of_ble_eq_true rfl) rfl ?_
  refine v_load (v := (1, b)) (hz_X12_fraction hT _ _ rfl) rfl rfl ?_
  refine v_store2 [some (2, 121), some (1, t), none, some (1, b), none, some (1, (if 0 < t then t else (-Int64.ofInt t).toInt)), none, some (1, b), none, none, none] (hz_X12_fraction hT _ _ rfl) (Nat.le_of_ble_eq_true rfl) rfl ?_
  exact k0 
theorem qr_frac9 {D : zD} {T : zT} (hT : hTab T) (hO : vOK T) {N : Nat} {h : zH} {Q : zR → Prop} (t b x y : Int) (o1 o2 : Option zV) (hv0 : zHv h)
    (k0 : (y = 0) → (x ≠ 0) → (x ≠ 0) → Q (zset (zset h 121 2 (1, ((zd64 0 (Int64.ofInt t) (Int64.ofInt x)).toInt))) 121 3 (1, ((zd64 0 (Int64.ofInt b) (Int64.ofInt x)).toInt)), some (0, 1)))
    (k1 : (y ≠ 0) → (y ≠ 0) → vP D T N 230 9 h [some (2, 121), some (1, t), none, some (1, b), none, some (1, y), none, some (1, ((zd64 1 (Int64.ofInt x) (Int64.ofInt y)).toInt)), none, some (1, ((zd64 1 (Int64.ofInt x) (Int64.ofInt y)).toInt)), none] [] Q) :
    vP D T (N + 1) 230 9 h [some (2, 121), some (1, t), none, some (1, b), none, some (1, x), none, some (1, y), none, o1, o2] [] Q := by
  refine v_loadS (v := (1, y)) (hz_X12_fraction hT _ _ rfl) rfl rfl ?_
  refine v_push (0) (hz_X12_fraction hT _ _ rfl) rfl ?_
  refine v_lif (hz_X12_fraction hT _ _ rfl) (hz_X12_fraction hT _ _ rfl) (fun hc1 => ?_) (fun hc1 => ?_)
  · have hc1 : y = 0 := hc1
    refine v_load (v := (2, 121)) (hz_X12_fraction hT _ _ rfl) rfl rfl ?_
    refine v_load (v := (1, t)) (hz_X12_fraction hT _ _ rfl) rfl rfl ?_
    refine v_load (v := (1, x)) (hz_X12_fraction hT _ _ rfl) rfl rfl ?_
    refine v_div64 (w := ((zd64 0 (Int64.ofInt t) (Int64.ofInt x)).toInt)) (hz_X12_fraction hT _ _ rfl) (fun _ => rfl) (fun hc2 => ?_)
    refine v_putf (r := 121) hO (hz_X12_fraction hT _ _ rfl) rfl (fun hf3 => ?_)
    refine v_load (v := (2, 121)) (hz_X12_fraction hT _ _ rfl) rfl rfl ?_
    refine v_load (v := (1, b)) (hz_X12_fraction hT _ _ rfl) rfl rfl ?_
    refine v_load (v := (1, x)) (hz_X12_fraction hT _ _ rfl) rfl rfl ?_
    refine v_div64 (w := ((zd64 0 (Int64.ofInt b) (Int64.ofInt x)).toInt)) (hz_X12_fraction hT _ _ rfl) (fun _ => rfl) (fun hc4 => ?_)
    refine v_putf (r := 121) hO (hz_X12_fraction hT _ _ rfl) rfl (fun hf5 => ?_)
    refine v_push (1) (hz_X12_fraction hT _ _ rfl) rfl ?_
    refine v_ret (hz_X12_fraction hT _ _ rfl) (Or.inl rfl) ?_
    exact k0 hc1 hc2 hc4
  · have hc1 : y ≠ 0 := hc1
    refine v_load (v := (1, x)) (hz_X12_fraction hT _ _ rfl) rfl rfl ?_
    refine v_load (v := (1, y)) (hz_X12_fraction hT _ _ rfl) rfl rfl ?_
    refine v_div64 (w := ((zd64 1 (Int64.ofInt x) (Int64.ofInt y)).toInt)) (hz_X12_fraction hT _ _ rfl) (fun _ => rfl) (fun hc6 => ?_)
    refine v_store2 [some (2, 121), some (1, t), none, some (1, b), none, some (1, x), none, some (1, y), none, some (1, ((zd64 1 (Int64.ofInt x) (Int64.ofInt y)).toInt)), none] (hz_X12_fraction hT _ _ rfl) (Nat.le_of_ble_eq_true rfl) rfl ?_
    refine v_load (v := (1, y)) (hz_X12_fraction hT _ _ rfl) rfl rfl ?_
    refine v_store2 [some (2, 121), some (1, t), none, some (1, b), none, some (1, y), none, some (1, y), none, some (1, ((zd64 1 (Int64.ofInt x) (Int64.ofInt y)).toInt)), none] (hz_X12_fraction hT _ _ rfl) (Nat.le_of_ble_eq_true rfl) rfl ?_
    refine v_load (v := (1, ((zd64 1 (Int64.ofInt x) (Int64.ofInt y)).toInt))) (hz_X12_fraction hT _ _ rfl) rfl rfl ?_
    refine v_store2 [some (2, 121), some (1, t), none, some (1, b), none, some (1, y), none, some (1, ((zd64 1 (Int64.ofInt x) (Int64.ofInt y)).toInt)), none, some (1, ((zd64 1 (Int64.ofInt x) (Int64.ofInt y)).toInt)), none] (hz_X12_fraction hT _ _ rfl) (Nat.le_of_ble_eq_true rfl) rfl ?_
    refine v_goto (hz_X12_fraction hT _ _ rfl) ?_
    exact k1 hc1 hc6
theorem qr_arr0 {D : zD} {T : zT} (hT : hTab T) (hO : vOK T) {N : Nat} {h : zH} {Q : zR → Prop} (k sd mn : Int) (hv0 : zHv h) (b3 : 0 ≤ (h 126 3).2 ∧ (h 126 3).2 ≤ 6)
    (k0 : (k < 0) → Q (zset (zset (zset h 121 1 (0, 0)) 121 0 (0, 0)) 121 0 (0, 2), some (0, 0)))
    (k1 : (0 ≤ k) → (((h 126 3).2 - 1) < k) → Q (zset (zset (zset h 121 1 (0, 0)) 121 0 (0, 0)) 121 0 (0, 2), some (0, 0)))
    (k2 : (0 ≤ k) → (k ≤ ((h 126 3).2 - 1)) → (mn < 1) → Q (zset (zset (zset h 121 1 (0, 0)) 121 0 (0, 0)) 121 0 (0, 5), some (0, 0)))
    (k3 : (0 ≤ k) → (k ≤ ((h 126 3).2 - 1)) → (1 ≤ mn) → (20 < mn) → Q (zset (zset (zset h 121 1 (0, 0)) 121 0 (0, 0)) 121 0 (0, 5), some (0, 0)))
    (k4 : (0 ≤ k) → (k ≤ ((h 126 3).2 - 1)) → (1 ≤ mn) → (mn ≤ 20) → (sd < 0) → Q (zset (zset (zset h 121 1 (0, 0)) 121 0 (0, 0)) 121 0 (0, 5), some (0, 0)))
    (k5 : (0 ≤ k) → (k ≤ ((h 126 3).2 - 1)) → (1 ≤ mn) → (mn ≤ 20) → (0 ≤ sd) → ((10000 - mn) < sd) → Q (zset (zset (zset h 121 1 (0, 0)) 121 0 (0, 0)) 121 0 (0, 5), some (0, 0)))
    (k6 : (0 ≤ k) → (k ≤ ((h 126 3).2 - 1)) → (1 ≤ mn) → (mn ≤ 20) → (0 ≤ sd) → (sd ≤ (10000 - mn)) → ((h 126 275).2 = 0) → Q (zset (zset (zset h 121 1 (0, 0)) 121 0 (0, 0)) 121 0 (0, 8), some (0, 0)))
    (k7 : (0 ≤ k) → (k ≤ ((h 126 3).2 - 1)) → (1 ≤ mn) → (mn ≤ 20) → (0 ≤ sd) → (sd ≤ (10000 - mn)) → ((h 126 275).2 ≠ 0) → vP D T N 196 78 (zset (zset h 121 1 (0, 0)) 121 0 (0, 0)) [some (2, 121), some (0, k), some (0, sd), some (0, mn), some (0, 0), none, none] [] Q) :
    vP D T N 196 0 h [some (2, 121), some (0, k), some (0, sd), some (0, mn), none, none, none] [] Q := by
  refine v_load (v := (2, 121)) (hz_X12_arrivals hT _ _ rfl) rfl rfl ?_
  refine v_push (0) (hz_X12_arrivals hT _ _ rfl) rfl ?_
  refine v_putf (r := 121) hO (hz_X12_arrivals hT _ _ rfl) rfl (fun hf1 => ?_)
  refine v_load (v := (2, 121)) (hz_X12_arrivals hT _ _ rfl) rfl rfl ?_
  refine v_push (0) (hz_X12_arrivals hT _ _ rfl) rfl ?_
  refine v_putf (r := 121) hO (hz_X12_arrivals hT _ _ rfl) rfl (fun hf2 => ?_)
  refine v_load (v := (2, 121)) (hz_X12_arrivals hT _ _ rfl) rfl rfl ?_
  refine v_load (v := (0, k)) (hz_X12_arrivals hT _ _ rfl) rfl rfl ?_
  refine v_call (w := 2) [some (2, 121), some (0, k)] hO (hz_X12_arrivals hT _ _ rfl) rfl rfl ?_
  refine v_load (v := (0, k)) (hi_X12_isCompanyAt_0 hT) rfl rfl ?_
  refine v_i2l (hi_X12_isCompanyAt_1 hT) ?_
  refine v_push (0) (hi_X12_isCompanyAt_2 hT) rfl ?_
  refine v_load (v := (2, 121)) (hi_X12_isCompanyAt_3 hT) rfl rfl ?_
  refine v_getR (c := 126) (r := 121) (hi_X12_isCompanyAt_4 hT) rfl rfl rfl ?_
  refine v_push (3) (hi_X12_isCompanyAt_7 hT) rfl ?_
  refine v_aldE (t := 0) (r := 126) (w := (h 126 3).2) (hi_X12_isCompanyAt_8 hT) rfl rfl rfl (congrArg Prod.snd (Eq.trans (zset_ne (fun c => absurd c.1 (by decide))) (zset_ne (fun c => absurd c.1 (by decide))))) (fun ha3 hb4 => ?_)
  refine v_push (1) (hi_X12_isCompanyAt_9 hT) rfl ?_
  refine v_bin (w := ((h 126 3).2 - 1)) (hi_X12_isCompanyAt_10 hT) (hq_sub (by omega) (by omega)) ?_
  refine v_i2l (hi_X12_isCompanyAt_11 hT) ?_
  refine v_call (w := 6) [some (1, k), none, some (1, 0), none, some (1, ((h 126 3).2 - 1)), none] hO (hi_X12_isCompanyAt_12 hT) rfl rfl ?_
  refine v_load (v := (1, k)) (hi_X12_isIn_0 hT) rfl rfl ?_
  refine v_load (v := (1, 0)) (hi_X12_isIn_1 hT) rfl rfl ?_
  refine v_lif (hi_X12_isIn_2 hT) (hi_X12_isIn_3 hT) (fun hc5 => ?_) (fun hc5 => ?_)
  · have hc5 : k < 0 := hc5
    refine v_push (0) (hi_X12_isIn_17 hT) rfl ?_
    refine v_ret (hi_X12_isIn_18 hT) (Or.inl rfl) ?_
    show vP D T N 246 15 (zset (zset h 121 1 (0, 0)) 121 0 (0, 0)) [some (2, 121), some (0, k)] [(0, 0)] _
    refine v_ret (hi_X12_isCompanyAt_15 hT) (Or.inl rfl) ?_
    show vP D T N 196 15 (zset (zset h 121 1 (0, 0)) 121 0 (0, 0)) [some (2, 121), some (0, k), some (0, sd), some (0, mn), none, none, none] [(0, 0)] _
    refine v_if (hz_X12_arrivals hT _ _ rfl) (fun _ => ?_) (fun hc6 => absurd (show (0 : Int) = 0 from (by decide)) hc6)
    refine v_load (v := (2, 121)) (hz_X12_arrivals hT _ _ rfl) rfl rfl ?_
    refine v_push (2) (hz_X12_arrivals hT _ _ rfl) rfl ?_
    refine v_call (w := 2) [some (2, 121), some (0, 2)] hO (hz_X12_arrivals hT _ _ rfl) rfl rfl ?_
    refine v_load (v := (2, 121)) (hi_X12_no_0 hT) rfl rfl ?_
    refine v_load (v := (0, 2)) (hi_X12_no_1 hT) rfl rfl ?_
    refine v_putf (r := 121) hO (hi_X12_no_2 hT) rfl (fun hf7 => ?_)
    refine v_push (0) (hi_X12_no_5 hT) rfl ?_
    refine v_ret (hi_X12_no_6 hT) (Or.inl rfl) ?_
    show vP D T N 196 23 (zset (zset (zset h 121 1 (0, 0)) 121 0 (0, 0)) 121 0 (0, 2)) [some (2, 121), some (0, k), some (0, sd), some (0, mn), none, none, none] [(0, 0)] _
    refine v_ret (hz_X12_arrivals hT _ _ rfl) (Or.inl rfl) ?_
    exact k0 hc5
  · have hc5 : 0 ≤ k := Int.not_lt.mp hc5
    refine v_load (v := (1, k)) (hi_X12_isIn_6 hT) rfl rfl ?_
    refine v_load (v := (1, ((h 126 3).2 - 1))) (hi_X12_isIn_7 hT) rfl rfl ?_
    refine v_lif (hi_X12_isIn_9 hT) (hi_X12_isIn_10 hT) (fun hc8 => ?_) (fun hc8 => ?_)
    · have hc8 : ((h 126 3).2 - 1) < k := hc8
      refine v_push (0) (hi_X12_isIn_17 hT) rfl ?_
      refine v_ret (hi_X12_isIn_18 hT) (Or.inl rfl) ?_
      show vP D T N 246 15 (zset (zset h 121 1 (0, 0)) 121 0 (0, 0)) [some (2, 121), some (0, k)] [(0, 0)] _
      refine v_ret (hi_X12_isCompanyAt_15 hT) (Or.inl rfl) ?_
      show vP D T N 196 15 (zset (zset h 121 1 (0, 0)) 121 0 (0, 0)) [some (2, 121), some (0, k), some (0, sd), some (0, mn), none, none, none] [(0, 0)] _
      refine v_if (hz_X12_arrivals hT _ _ rfl) (fun _ => ?_) (fun hc9 => absurd (show (0 : Int) = 0 from (by decide)) hc9)
      refine v_load (v := (2, 121)) (hz_X12_arrivals hT _ _ rfl) rfl rfl ?_
      refine v_push (2) (hz_X12_arrivals hT _ _ rfl) rfl ?_
      refine v_call (w := 2) [some (2, 121), some (0, 2)] hO (hz_X12_arrivals hT _ _ rfl) rfl rfl ?_
      refine v_load (v := (2, 121)) (hi_X12_no_0 hT) rfl rfl ?_
      refine v_load (v := (0, 2)) (hi_X12_no_1 hT) rfl rfl ?_
      refine v_putf (r := 121) hO (hi_X12_no_2 hT) rfl (fun hf10 => ?_)
      refine v_push (0) (hi_X12_no_5 hT) rfl ?_
      refine v_ret (hi_X12_no_6 hT) (Or.inl rfl) ?_
      show vP D T N 196 23 (zset (zset (zset h 121 1 (0, 0)) 121 0 (0, 0)) 121 0 (0, 2)) [some (2, 121), some (0, k), some (0, sd), some (0, mn), none, none, none] [(0, 0)] _
      refine v_ret (hz_X12_arrivals hT _ _ rfl) (Or.inl rfl) ?_
      exact k1 hc5 hc8
    · have hc8 : k ≤ ((h 126 3).2 - 1) := Int.not_lt.mp hc8
      refine v_push (1) (hi_X12_isIn_13 hT) rfl ?_
      refine v_goto (hi_X12_isIn_14 hT) ?_
      refine v_ret (hi_X12_isIn_18 hT) (Or.inl rfl) ?_
      show vP D T N 246 15 (zset (zset h 121 1 (0, 0)) 121 0 (0, 0)) [some (2, 121), some (0, k)] [(0, 1)] _
      refine v_ret (hi_X12_isCompanyAt_15 hT) (Or.inl rfl) ?_
      show vP D T N 196 15 (zset (zset h 121 1 (0, 0)) 121 0 (0, 0)) [some (2, 121), some (0, k), some (0, sd), some (0, mn), none, none, none] [(0, 1)] _
      refine v_if (hz_X12_arrivals hT _ _ rfl) (fun hc11 => absurd (show (1 : Int) = 0 from hc11) (by decide)) (fun _ => ?_)
      refine v_load (v := (0, mn)) (hz_X12_arrivals hT _ _ rfl) rfl rfl ?_
      refine v_i2l (hz_X12_arrivals hT _ _ rfl) ?_
      refine v_push (1) (hz_X12_arrivals hT _ _ rfl) rfl ?_
      refine v_push (20) (hz_X12_arrivals hT _ _ rfl) rfl ?_
      refine v_call (w := 6) [some (1, mn), none, some (1, 1), none, some (1, 20), none] hO (hz_X12_arrivals hT _ _ rfl) rfl rfl ?_
      refine v_load (v := (1, mn)) (hi_X12_isIn_0 hT) rfl rfl ?_
      refine v_load (v := (1, 1)) (hi_X12_isIn_1 hT) rfl rfl ?_
      refine v_lif (hi_X12_isIn_2 hT) (hi_X12_isIn_3 hT) (fun hc12 => ?_) (fun hc12 => ?_)
      · have hc12 : mn < 1 := hc12
        refine v_push (0) (hi_X12_isIn_17 hT) rfl ?_
        refine v_ret (hi_X12_isIn_18 hT) (Or.inl rfl) ?_
        show vP D T N 196 33 (zset (zset h 121 1 (0, 0)) 121 0 (0, 0)) [some (2, 121), some (0, k), some (0, sd), some (0, mn), none, none, none] [(0, 0)] _
        refine v_if (hz_X12_arrivals hT _ _ rfl) (fun _ => ?_) (fun hc13 => absurd (show (0 : Int) = 0 from (by decide)) hc13)
        refine v_load (v := (2, 121)) (hi_X12_arrivals_51 hT) rfl rfl ?_
        refine v_push (5) (hi_X12_arrivals_52 hT) rfl ?_
        refine v_call (w := 2) [some (2, 121), some (0, 5)] hO (hi_X12_arrivals_53 hT) rfl rfl ?_
        refine v_load (v := (2, 121)) (hi_X12_no_0 hT) rfl rfl ?_
        refine v_load (v := (0, 5)) (hi_X12_no_1 hT) rfl rfl ?_
        refine v_putf (r := 121) hO (hi_X12_no_2 hT) rfl (fun hf14 => ?_)
        refine v_push (0) (hi_X12_no_5 hT) rfl ?_
        refine v_ret (hi_X12_no_6 hT) (Or.inl rfl) ?_
        show vP D T N 196 56 (zset (zset (zset h 121 1 (0, 0)) 121 0 (0, 0)) 121 0 (0, 5)) [some (2, 121), some (0, k), some (0, sd), some (0, mn), none, none, none] [(0, 0)] _
        refine v_ret (hi_X12_arrivals_56 hT) (Or.inl rfl) ?_
        exact k2 hc5 hc8 hc12
      · have hc12 : 1 ≤ mn := Int.not_lt.mp hc12
        refine v_load (v := (1, mn)) (hi_X12_isIn_6 hT) rfl rfl ?_
        refine v_load (v := (1, 20)) (hi_X12_isIn_7 hT) rfl rfl ?_
        refine v_lif (hi_X12_isIn_9 hT) (hi_X12_isIn_10 hT) (fun hc15 => ?_) (fun hc15 => ?_)
        · have hc15 : 20 < mn := hc15
          refine v_push (0) (hi_X12_isIn_17 hT) rfl ?_
          refine v_ret (hi_X12_isIn_18 hT) (Or.inl rfl) ?_
          show vP D T N 196 33 (zset (zset h 121 1 (0, 0)) 121 0 (0, 0)) [some (2, 121), some (0, k), some (0, sd), some (0, mn), none, none, none] [(0, 0)] _
          refine v_if (hz_X12_arrivals hT _ _ rfl) (fun _ => ?_) (fun hc16 => absurd (show (0 : Int) = 0 from (by decide)) hc16)
          refine v_load (v := (2, 121)) (hi_X12_arrivals_51 hT) rfl rfl ?_
          refine v_push (5) (hi_X12_arrivals_52 hT) rfl ?_
          refine v_call (w := 2) [some (2, 121), some (0, 5)] hO (hi_X12_arrivals_53 hT) rfl rfl ?_
          refine v_load (v := (2, 121)) (hi_X12_no_0 hT) rfl rfl ?_
          refine v_load (v := (0, 5)) (hi_X12_no_1 hT) rfl rfl ?_
          refine v_putf (r := 121) hO (hi_X12_no_2 hT) rfl (fun hf17 => ?_)
          refine v_push (0) (hi_X12_no_5 hT) rfl ?_
          refine v_ret (hi_X12_no_6 hT) (Or.inl rfl) ?_
          show vP D T N 196 56 (zset (zset (zset h 121 1 (0, 0)) 121 0 (0, 0)) 121 0 (0, 5)) [some (2, 121), some (0, k), some (0, sd), some (0, mn), none, none, none] [(0, 0)] _
          refine v_ret (hi_X12_arrivals_56 hT) (Or.inl rfl) ?_
          exact k3 hc5 hc8 hc12 hc15
        · have hc15 : mn ≤ 20 := Int.not_lt.mp hc15
          refine v_push (1) (hi_X12_isIn_13 hT) rfl ?_
          refine v_goto (hi_X12_isIn_14 hT) ?_
          refine v_ret (hi_X12_isIn_18 hT) (Or.inl rfl) ?_
          show vP D T N 196 33 (zset (zset h 121 1 (0, 0)) 121 0 (0, 0)) [some (2, 121), some (0, k), some (0, sd), some (0, mn), none, none, none] [(0, 1)] _
          refine v_if (hz_X12_arrivals hT _ _ rfl) (fun hc18 => absurd (show (1 : Int) = 0 from hc18) (by decide)) (fun _ => ?_)
          refine v_load (v := (0, sd)) (hz_X12_arrivals hT _ _ rfl) rfl rfl ?_
          refine v_i2l (hz_X12_arrivals hT _ _ rfl) ?_
          refine v_push (0) (hz_X12_arrivals hT _ _ rfl) rfl ?_
          refine v_push (10000) (hz_X12_arrivals hT _ _ rfl) rfl ?_
          refine v_load (v := (0, mn)) (hz_X12_arrivals hT _ _ rfl) rfl rfl ?_
          refine v_bin (w := (10000 - mn)) (hz_X12_arrivals hT _ _ rfl) (hq_sub (by omega) (by omega)) ?_
          refine v_i2l (hz_X12_arrivals hT _ _ rfl) ?_
          refine v_call (w := 6) [some (1, sd), none, some (1, 0), none, some (1, (10000 - mn)), none] hO (hz_X12_arrivals hT _ _ rfl) rfl rfl ?_
          refine v_load (v := (1, sd)) (hi_X12_isIn_0 hT) rfl rfl ?_
          refine v_load (v := (1, 0)) (hi_X12_isIn_1 hT) rfl rfl ?_
          refine v_lif (hi_X12_isIn_2 hT) (hi_X12_isIn_3 hT) (fun hc19 => ?_) (fun hc19 => ?_)
          · have hc19 : sd < 0 := hc19
            refine v_push (0) (hi_X12_isIn_17 hT) rfl ?_
            refine v_ret (hi_X12_isIn_18 hT) (Or.inl rfl) ?_
            show vP D T N 196 48 (zset (zset h 121 1 (0, 0)) 121 0 (0, 0)) [some (2, 121), some (0, k), some (0, sd), some (0, mn), none, none, none] [(0, 0)] _
            refine v_if (hz_X12_arrivals hT _ _ rfl) (fun _ => ?_) (fun hc20 => absurd (show (0 : Int) = 0 from (by decide)) hc20)
            refine v_load (v := (2, 121)) (hi_X12_arrivals_51 hT) rfl rfl ?_
            refine v_push (5) (hi_X12_arrivals_52 hT) rfl ?_
            refine v_call (w := 2) [some (2, 121), some (0, 5)] hO (hi_X12_arrivals_53 hT) rfl rfl ?_
            refine v_load (v := (2, 121)) (hi_X12_no_0 hT) rfl rfl ?_
            refine v_load (v := (0, 5)) (hi_X12_no_1 hT) rfl rfl ?_
            refine v_putf (r := 121) hO (hi_X12_no_2 hT) rfl (fun hf21 => ?_)
            refine v_push (0) (hi_X12_no_5 hT) rfl ?_
            refine v_ret (hi_X12_no_6 hT) (Or.inl rfl) ?_
            show vP D T N 196 56 (zset (zset (zset h 121 1 (0, 0)) 121 0 (0, 0)) 121 0 (0, 5)) [some (2, 121), some (0, k), some (0, sd), some (0, mn), none, none, none] [(0, 0)] _
            refine v_ret (hi_X12_arrivals_56 hT) (Or.inl rfl) ?_
            exact k4 hc5 hc8 hc12 hc15 hc19
          · have hc19 : 0 ≤ sd := Int.not_lt.mp hc19
            refine v_load (v := (1, sd)) (hi_X12_isIn_6 hT) rfl rfl ?_
            refine v_load (v := (1, (10000 - mn))) (hi_X12_isIn_7 hT) rfl rfl ?_
            refine v_lif (hi_X12_isIn_9 hT) (hi_X12_isIn_10 hT) (fun hc22 => ?_) (fun hc22 => ?_)
            · have hc22 : (10000 - mn) < sd := hc22
              refine v_push (0) (hi_X12_isIn_17 hT) rfl ?_
              refine v_ret (hi_X12_isIn_18 hT) (Or.inl rfl) ?_
              show vP D T N 196 48 (zset (zset h 121 1 (0, 0)) 121 0 (0, 0)) [some (2, 121), some (0, k), some (0, sd), some (0, mn), none, none, none] [(0, 0)] _
              refine v_if (hz_X12_arrivals hT _ _ rfl) (fun _ => ?_) (fun hc23 => absurd (show (0 : Int) = 0 from (by decide)) hc23)
              refine v_load (v := (2, 121)) (hi_X12_arrivals_51 hT) rfl rfl ?_
              refine v_push (5) (hi_X12_arrivals_52 hT) rfl ?_
              refine v_call (w := 2) [some (2, 121), some (0, 5)] hO (hi_X12_arrivals_53 hT) rfl rfl ?_
              refine v_load (v := (2, 121)) (hi_X12_no_0 hT) rfl rfl ?_
              refine v_load (v := (0, 5)) (hi_X12_no_1 hT) rfl rfl ?_
              refine v_putf (r := 121) hO (hi_X12_no_2 hT) rfl (fun hf24 => ?_)
              refine v_push (0) (hi_X12_no_5 hT) rfl ?_
              refine v_ret (hi_X12_no_6 hT) (Or.inl rfl) ?_
              show vP D T N 196 56 (zset (zset (zset h 121 1 (0, 0)) 121 0 (0, 0)) 121 0 (0, 5)) [some (2, 121), some (0, k), some (0, sd), some (0, mn), none, none, none] [(0, 0)] _
              refine v_ret (hi_X12_arrivals_56 hT) (Or.inl rfl) ?_
              exact k5 hc5 hc8 hc12 hc15 hc19 hc22
            · have hc22 : sd ≤ (10000 - mn) := Int.not_lt.mp hc22
              refine v_push (1) (hi_X12_isIn_13 hT) rfl ?_
              refine v_goto (hi_X12_isIn_14 hT) ?_
              refine v_ret (hi_X12_isIn_18 hT) (Or.inl rfl) ?_
              show vP D T N 196 48 (zset (zset h 121 1 (0, 0)) 121 0 (0, 0)) [some (2, 121), some (0, k), some (0, sd), some (0, mn), none, none, none] [(0, 1)] _
              refine v_if (hz_X12_arrivals hT _ _ rfl) (fun hc25 => absurd (show (1 : Int) = 0 from hc25) (by decide)) (fun _ => ?_)
              refine v_load (v := (2, 121)) (hz_X12_arrivals hT _ _ rfl) rfl rfl ?_
              refine v_getR (c := 126) (r := 121) (hz_X12_arrivals hT _ _ rfl) rfl rfl rfl ?_
              refine v_push (275) (hz_X12_arrivals hT _ _ rfl) rfl ?_
              refine v_aldE (t := 0) (r := 126) (w := (h 126 275).2) (hz_X12_arrivals hT _ _ rfl) rfl rfl rfl (congrArg Prod.snd (Eq.trans (zset_ne (fun c => absurd c.1 (by decide))) (zset_ne (fun c => absurd c.1 (by decide))))) (fun ha26 hb27 => ?_)
              refine v_if (hz_X12_arrivals hT _ _ rfl) (fun hc28 => ?_) (fun hc28 => ?_)
              · have hc28 : (h 126 275).2 = 0 := hc28
                refine v_load (v := (2, 121)) (hz_X12_arrivals hT _ _ rfl) rfl rfl ?_
                refine v_push (8) (hz_X12_arrivals hT _ _ rfl) rfl ?_
                refine v_call (w := 2) [some (2, 121), some (0, 8)] hO (hz_X12_arrivals hT _ _ rfl) rfl rfl ?_
                refine v_load (v := (2, 121)) (hi_X12_no_0 hT) rfl rfl ?_
                refine v_load (v := (0, 8)) (hi_X12_no_1 hT) rfl rfl ?_
                refine v_putf (r := 121) hO (hi_X12_no_2 hT) rfl (fun hf29 => ?_)
                refine v_push (0) (hi_X12_no_5 hT) rfl ?_
                refine v_ret (hi_X12_no_6 hT) (Or.inl rfl) ?_
                show vP D T N 196 74 (zset (zset (zset h 121 1 (0, 0)) 121 0 (0, 0)) 121 0 (0, 8)) [some (2, 121), some (0, k), some (0, sd), some (0, mn), none, none, none] [(0, 0)] _
                refine v_ret (hz_X12_arrivals hT _ _ rfl) (Or.inl rfl) ?_
                exact k6 hc5 hc8 hc12 hc15 hc19 hc22 hc28
              · have hc28 : (h 126 275).2 ≠ 0 := hc28
                refine v_push (0) (hz_X12_arrivals hT _ _ rfl) rfl ?_
                refine v_store1 [some (2, 121), some (0, k), some (0, sd), some (0, mn), some (0, 0), none, none] (hz_X12_arrivals hT _ _ rfl) ⟨rfl, Nat.ne_of_beq_eq_false rfl⟩ (Nat.le_of_ble_eq_true rfl) rfl ?_
                exact k7 hc5 hc8 hc12 hc15 hc19 hc22 hc28
theorem qr_arr78 {D : zD} {T : zT} (hT : hTab T) (hO : vOK T) {N : Nat} {h : zH} {Q : zR → Prop} (k sd mn x : Int) (o1 o2 : Option zV) (hv0 : zHv h) (bx : 0 ≤ x ∧ x ≤ 275)
    (k0 : (x < 275) → (0 ≤ x) → (x < 2750) → vP D T N 196 78 (zset h 127 x.toNat (0, (h 126 x.toNat).2)) [some (2, 121), some (0, k), some (0, sd), some (0, mn), some (0, (x + 1)), o1, o2] [] Q)
    (k1 : (275 ≤ x) → vP D T N 196 112 h [some (2, 121), some (0, k), some (0, sd), some (0, mn), some (0, 0), some (0, 0), o2] [] Q) :
    vP D T (N + 1) 196 78 h [some (2, 121), some (0, k), some (0, sd), some (0, mn), some (0, x), o1, o2] [] Q := by
  refine v_loadS (v := (0, x)) (hz_X12_arrivals hT _ _ rfl) rfl rfl ?_
  refine v_push (275) (hz_X12_arrivals hT _ _ rfl) rfl ?_
  refine v_ic (hz_X12_arrivals hT _ _ rfl) (fun hc1 => ?_) (fun hc1 => ?_)
  · have hc1 : x < 275 := hc1
    refine v_load (v := (2, 121)) (hz_X12_arrivals hT _ _ rfl) rfl rfl ?_
    refine v_getR (c := 127) (r := 121) (hz_X12_arrivals hT _ _ rfl) rfl rfl rfl ?_
    refine v_load (v := (0, x)) (hz_X12_arrivals hT _ _ rfl) rfl rfl ?_
    refine v_load (v := (2, 121)) (hz_X12_arrivals hT _ _ rfl) rfl rfl ?_
    refine v_getR (c := 126) (r := 121) (hz_X12_arrivals hT _ _ rfl) rfl rfl rfl ?_
    refine v_load (v := (0, x)) (hz_X12_arrivals hT _ _ rfl) rfl rfl ?_
    refine v_ald (t := 0) (r := 126) (hz_X12_arrivals hT _ _ rfl) rfl rfl rfl (fun ha2 hb3 => ?_)
    refine v_ast (r := 127) (hz_X12_arrivals hT _ _ rfl) rfl rfl (fun ha4 hb5 hf6 => ?_)
    refine v_iinc (x := x) (u := 1) (w := (x + 1)) [some (2, 121), some (0, k), some (0, sd), some (0, mn), some (0, (x + 1)), o1, o2] (hz_X12_arrivals hT _ _ rfl) rfl rfl (Nat.le_of_ble_eq_true rfl) (vz_inc (by omega) (by omega)) rfl ?_
    refine v_goto (hz_X12_arrivals hT _ _ rfl) ?_
    exact k0 hc1 ha2 hb3
  · have hc1 : 275 ≤ x := Int.not_lt.mp hc1
    refine v_push (0) (hz_X12_arrivals hT _ _ rfl) rfl ?_
    refine v_store1 [some (2, 121), some (0, k), some (0, sd), some (0, mn), some (0, 0), o1, o2] (hz_X12_arrivals hT _ _ rfl) ⟨rfl, Nat.ne_of_beq_eq_false rfl⟩ (Nat.le_of_ble_eq_true rfl) rfl ?_
    refine v_push (0) (hz_X12_arrivals hT _ _ rfl) rfl ?_
    refine v_store1 [some (2, 121), some (0, k), some (0, sd), some (0, mn), some (0, 0), some (0, 0), o2] (hz_X12_arrivals hT _ _ rfl) ⟨rfl, Nat.ne_of_beq_eq_false rfl⟩ (Nat.le_of_ble_eq_true rfl) rfl ?_
    exact k1 hc1
theorem qr_arr112 {D : zD} {T : zT} (hT : hTab T) (hO : vOK T) {N : Nat} {h : zH} {Q : zR → Prop} (k sd mn n i : Int) (o2 : Option zV) (hv0 : zHv h) (bk : 0 ≤ k ∧ k ≤ 6) (bsd : 0 ≤ sd ∧ sd ≤ 10000) (bn : 0 ≤ n ∧ n ≤ 20) (bi : 0 ≤ i ∧ i ≤ 20) (hU : oH 127 121 21 h) (hRn : ∀ (N : Nat) (s : Int) (g : zH), oH 127 121 21 g → vP D T N 308 0 g [some (2, 121), some (0, s)] [] (fun r => r.2 = none ∧ (∀ j, r.1 127 j = g 127 j) ∧ oH 127 121 21 r.1)) (hFr : ∀ (N : Nat) (t b : Int) (g : zH), vP D T N 230 0 g [some (2, 121), some (1, t), none, some (1, b), none, none, none, none, none, none, none] [] (fun r => r.2 = some (0, 1) ∧ ∀ j, r.1 126 j = g 126 j))
    (k0 : (i < mn) → ∀ (g2 : zH), ((∀ j, g2 127 j = h 127 j) ∧ oH 127 121 21 g2) → (0 ≤ (245 + k)) → ((245 + k) < 2750) → (0 ≤ (251 + k)) → ((251 + k) < 2750) → ((g2 126 ((245 + k)).toNat).2 = (g2 126 ((251 + k)).toNat).2) → vP D T N 196 162 g2 [some (2, 121), some (0, k), some (0, sd), some (0, mn), some (0, (n + 1)), some (0, i), some (0, 0)] [] Q)
    (k1 : (i < mn) → ∀ (g2 : zH), ((∀ j, g2 127 j = h 127 j) ∧ oH 127 121 21 g2) → (0 ≤ (245 + k)) → ((245 + k) < 2750) → (0 ≤ (251 + k)) → ((251 + k) < 2750) → ((g2 126 ((245 + k)).toNat).2 ≠ (g2 126 ((251 + k)).toNat).2) → vP D T N 196 162 g2 [some (2, 121), some (0, k), some (0, sd), some (0, mn), some (0, (n + 0)), some (0, i), some (0, 0)] [] Q)
    (k2 : (mn ≤ i) → ∀ (g8 : zH), ((∀ j, g8 126 j = h 126 j)) → Q (g8, some (0, 1))) :
    vP D T N 196 112 h [some (2, 121), some (0, k), some (0, sd), some (0, mn), some (0, n), some (0, i), o2] [] Q := by
  refine v_load (v := (0, i)) (hz_X12_arrivals hT _ _ rfl) rfl rfl ?_
  refine v_load (v := (0, mn)) (hz_X12_arrivals hT _ _ rfl) rfl rfl ?_
  refine v_ic (hz_X12_arrivals hT _ _ rfl) (fun hc1 => ?_) (fun hc1 => ?_)
  · have hc1 : i < mn := hc1
    refine v_load (v := (2, 121)) (hz_X12_arrivals hT _ _ rfl) rfl rfl ?_
    refine v_load (v := (0, sd)) (hz_X12_arrivals hT _ _ rfl) rfl rfl ?_
    refine v_load (v := (0, i)) (hz_X12_arrivals hT _ _ rfl) rfl rfl ?_
    refine v_bin (w := (sd + i)) (hz_X12_arrivals hT _ _ rfl) (hq_add (by omega) (by omega)) ?_
    refine v_call (w := 2) [some (2, 121), some (0, (sd + i))] hO (hz_X12_arrivals hT _ _ rfl) rfl rfl (vRn_k (hRn _ ((sd + i)) _ hU) (fun g2 u2 => ?_))
    · show vP D T N 196 126 g2 [some (2, 121), some (0, k), some (0, sd), some (0, mn), some (0, n), some (0, i), o2] [] _
      refine vP_hv (fun hv2 => ?_)
      refine v_load (v := (0, n)) (hz_X12_arrivals hT _ _ rfl) rfl rfl ?_
      refine v_load (v := (2, 121)) (hz_X12_arrivals hT _ _ rfl) rfl rfl ?_
      refine v_getR (c := 126) (r := 121) (hz_X12_arrivals hT _ _ rfl) rfl rfl rfl ?_
      refine v_push (245) (hz_X12_arrivals hT _ _ rfl) rfl ?_
      refine v_load (v := (0, k)) (hz_X12_arrivals hT _ _ rfl) rfl rfl ?_
      refine v_bin (w := (245 + k)) (hz_X12_arrivals hT _ _ rfl) (hq_add (by omega) (by omega)) ?_
      refine v_ald (t := 0) (r := 126) (hz_X12_arrivals hT _ _ rfl) rfl rfl rfl (fun ha3 hb4 => ?_)
      refine v_load (v := (2, 121)) (hz_X12_arrivals hT _ _ rfl) rfl rfl ?_
      refine v_getR (c := 126) (r := 121) (hz_X12_arrivals hT _ _ rfl) rfl rfl rfl ?_
      refine v_push (251) (hz_X12_arrivals hT _ _ rfl) rfl ?_
      refine v_load (v := (0, k)) (hz_X12_arrivals hT _ _ rfl) rfl rfl ?_
      refine v_bin (w := (251 + k)) (hz_X12_arrivals hT _ _ rfl) (hq_add (by omega) (by omega)) ?_
      refine v_ald (t := 0) (r := 126) (hz_X12_arrivals hT _ _ rfl) rfl rfl rfl (fun ha5 hb6 => ?_)
      refine v_ic (hz_X12_arrivals hT _ _ rfl) (fun hc7 => ?_) (fun hc7 => ?_)
      · have hc7 : (g2 126 ((245 + k)).toNat).2 = (g2 126 ((251 + k)).toNat).2 := hc7
        refine v_push (1) (hz_X12_arrivals hT _ _ rfl) rfl ?_
        refine v_goto (hz_X12_arrivals hT _ _ rfl) ?_
        refine v_bin (w := (n + 1)) (hz_X12_arrivals hT _ _ rfl) (hq_add (by omega) (by omega)) ?_
        refine v_store1 [some (2, 121), some (0, k), some (0, sd), some (0, mn), some (0, (n + 1)), some (0, i), o2] (hz_X12_arrivals hT _ _ rfl) ⟨rfl, Nat.ne_of_beq_eq_false rfl⟩ (Nat.le_of_ble_eq_true rfl) rfl ?_
        refine v_push (0) (hz_X12_arrivals hT _ _ rfl) rfl ?_
        refine v_store1 [some (2, 121), some (0, k), some (0, sd), some (0, mn), some (0, (n + 1)), some (0, i), some (0, 0)] (hz_X12_arrivals hT _ _ rfl) ⟨rfl, Nat.ne_of_beq_eq_false rfl⟩ (Nat.le_of_ble_eq_true rfl) rfl ?_
        exact k0 hc1 g2 u2 ha3 hb4 ha5 hb6 hc7
      · have hc7 : (g2 126 ((245 + k)).toNat).2 ≠ (g2 126 ((251 + k)).toNat).2 := hc7
        refine v_push (0) (hz_X12_arrivals hT _ _ rfl) rfl ?_
        refine v_bin (w := (n + 0)) (hz_X12_arrivals hT _ _ rfl) (hq_add (by omega) (by omega)) ?_
        refine v_store1 [some (2, 121), some (0, k), some (0, sd), some (0, mn), some (0, (n + 0)), some (0, i), o2] (hz_X12_arrivals hT _ _ rfl) ⟨rfl, Nat.ne_of_beq_eq_false rfl⟩ (Nat.le_of_ble_eq_true rfl) rfl ?_
        refine v_push (0) (hz_X12_arrivals hT _ _ rfl) rfl ?_
        refine v_store1 [some (2, 121), some (0, k), some (0, sd), some (0, mn), some (0, (n + 0)), some (0, i), some (0, 0)] (hz_X12_arrivals hT _ _ rfl) ⟨rfl, Nat.ne_of_beq_eq_false rfl⟩ (Nat.le_of_ble_eq_true rfl) rfl ?_
        exact k1 hc1 g2 u2 ha3 hb4 ha5 hb6 hc7
  · have hc1 : mn ≤ i := Int.not_lt.mp hc1
    refine v_load (v := (2, 121)) (hz_X12_arrivals hT _ _ rfl) rfl rfl ?_
    refine v_load (v := (0, n)) (hz_X12_arrivals hT _ _ rfl) rfl rfl ?_
    refine v_i2l (hz_X12_arrivals hT _ _ rfl) ?_
    refine v_load (v := (0, mn)) (hz_X12_arrivals hT _ _ rfl) rfl rfl ?_
    refine v_i2l (hz_X12_arrivals hT _ _ rfl) ?_
    refine v_call (w := 11) [some (2, 121), some (1, n), none, some (1, mn), none, none, none, none, none, none, none] hO (hz_X12_arrivals hT _ _ rfl) rfl rfl (vFr_k (hFr _ n mn _) (fun g8 u8 => ?_))
    · show vP D T N 196 205 g8 [some (2, 121), some (0, k), some (0, sd), some (0, mn), some (0, n), some (0, i), o2] [(0, 1)] _
      refine vP_hv (fun hv8 => ?_)
      refine v_ret (hz_X12_arrivals hT _ _ rfl) (Or.inl rfl) ?_
      exact k2 hc1 g8 u8
theorem qr_arr162 {D : zD} {T : zT} (hT : hTab T) (hO : vOK T) {N : Nat} {h : zH} {Q : zR → Prop} (k sd mn n i x : Int) (hv0 : zHv h) (bi : 0 ≤ i ∧ i ≤ 20) (bx : 0 ≤ x ∧ x ≤ 275)
    (k0 : (x < 275) → (0 ≤ x) → (x < 2750) → vP D T N 196 162 (zset h 126 x.toNat (0, (h 127 x.toNat).2)) [some (2, 121), some (0, k), some (0, sd), some (0, mn), some (0, n), some (0, i), some (0, (x + 1))] [] Q)
    (k1 : (275 ≤ x) → vP D T N 196 112 h [some (2, 121), some (0, k), some (0, sd), some (0, mn), some (0, n), some (0, (i + 1)), some (0, x)] [] Q) :
    vP D T (N + 1) 196 162 h [some (2, 121), some (0, k), some (0, sd), some (0, mn), some (0, n), some (0, i), some (0, x)] [] Q := by
  refine v_loadS (v := (0, x)) (hz_X12_arrivals hT _ _ rfl) rfl rfl ?_
  refine v_push (275) (hz_X12_arrivals hT _ _ rfl) rfl ?_
  refine v_ic (hz_X12_arrivals hT _ _ rfl) (fun hc1 => ?_) (fun hc1 => ?_)
  · have hc1 : x < 275 := hc1
    refine v_load (v := (2, 121)) (hz_X12_arrivals hT _ _ rfl) rfl rfl ?_
    refine v_getR (c := 126) (r := 121) (hz_X12_arrivals hT _ _ rfl) rfl rfl rfl ?_
    refine v_load (v := (0, x)) (hz_X12_arrivals hT _ _ rfl) rfl rfl ?_
    refine v_load (v := (2, 121)) (hz_X12_arrivals hT _ _ rfl) rfl rfl ?_
    refine v_getR (c := 127) (r := 121) (hz_X12_arrivals hT _ _ rfl) rfl rfl rfl ?_
    refine v_load (v := (0, x)) (hz_X12_arrivals hT _ _ rfl) rfl rfl ?_
    refine v_ald (t := 0) (r := 127) (hz_X12_arrivals hT _ _ rfl) rfl rfl rfl (fun ha2 hb3 => ?_)
    refine v_ast (r := 126) (hz_X12_arrivals hT _ _ rfl) rfl rfl (fun ha4 hb5 hf6 => ?_)
    refine v_iinc (x := x) (u := 1) (w := (x + 1)) [some (2, 121), some (0, k), some (0, sd), some (0, mn), some (0, n), some (0, i), some (0, (x + 1))] (hz_X12_arrivals hT _ _ rfl) rfl rfl (Nat.le_of_ble_eq_true rfl) (vz_inc (by omega) (by omega)) rfl ?_
    refine v_goto (hz_X12_arrivals hT _ _ rfl) ?_
    exact k0 hc1 ha2 hb5
  · have hc1 : 275 ≤ x := Int.not_lt.mp hc1
    refine v_iinc (x := i) (u := 1) (w := (i + 1)) [some (2, 121), some (0, k), some (0, sd), some (0, mn), some (0, n), some (0, (i + 1)), some (0, x)] (hz_X12_arrivals hT _ _ rfl) rfl rfl (Nat.le_of_ble_eq_true rfl) (vz_inc (by omega) (by omega)) rfl ?_
    refine v_goto (hz_X12_arrivals hT _ _ rfl) ?_
    exact k1 hc1
theorem rx_frac {D : zD} {T : zT} (hT : hTab T) (hO : vOK T) {N : Nat} {h : zH} (t b : Int) : vP D T N 230 0 h [some (2, 121), some (1, t), none, some (1, b), none, none, none, none, none, none, none] [] (fun r => r.2 = some (0, 1) ∧ ∀ j, r.1 126 j = h 126 j) := by
  refine vP_hv (fun hv => qr_frac0 hT hO t b hv ?_)
  refine vP_loop (fun h' l => ∃ (x y : Int) (o1 o2 : Option zV), l = [some (2, 121), some (1, t), none, some (1, b), none, some (1, x), none, some (1, y), none, o1, o2] ∧ h' = h) ?_ N _ _ ⟨_, _, _, _, rfl, rfl⟩
  rintro N h' l ⟨x, y, o1, o2, rfl, rfl⟩ ih
  refine vP_hv (fun hv => qr_frac9 hT hO t b x y o1 o2 hv ?_ ?_)
  · intro _ _ _
    exact ⟨rfl, fun j => by dsimp only; rw [zset_ne (by omega), zset_ne (by omega)]⟩
  · intro _ _
    exact ih _ _ ⟨_, _, _, _, rfl, rfl⟩
def rArC (k sd mn : Int) (h : zH) : Prop := 0 ≤ k ∧ k ≤ (h 126 3).2 - 1 ∧ 1 ≤ mn ∧ mn ≤ 20 ∧ 0 ≤ sd ∧ sd ≤ 10000 - mn ∧ (h 126 275).2 ≠ 0
def rAr (k sd mn : Int) (h : zH) (x : zR) : Prop := (¬ rArC k sd mn h ∧ x.2 = some (0, 0) ∧ ∀ j, x.1 126 j = h 126 j) ∨ (rArC k sd mn h ∧ x.2 = some (0, 1) ∧ ∀ j, j < 275 → x.1 126 j = h 126 j)
theorem rx_arr_loop {D : zD} {T : zT} (hT : hTab T) (hO : vOK T) {h : zH} {k sd mn : Int} (hRn : ∀ (N : Nat) (s : Int) (g : zH), oH 127 121 21 g → vP D T N 308 0 g [some (2, 121), some (0, s)] [] (fun r => r.2 = none ∧ (∀ j, r.1 127 j = g 127 j) ∧ oH 127 121 21 r.1)) (hv0 : zHv h) (hC : rArC k sd mn h) (b3 : (h 126 3).2 ≤ 6) : ∀ N, (∀ h' n i o, (0 ≤ n ∧ n ≤ i) → i ≤ mn → oH 127 121 21 h' → (∀ j, j < 275 → h' 127 j = h 126 j) → (∀ j, j < 275 → h' 126 j = h 126 j) → vP D T N 196 112 h' [some (2, 121), some (0, k), some (0, sd), some (0, mn), some (0, n), some (0, i), o] [] (rAr k sd mn h)) ∧ (∀ h' n i (x : Nat), (0 ≤ n ∧ n ≤ i + 1) → 0 ≤ i → i < mn → x ≤ 275 → oH 127 121 21 h' → (∀ j, j < 275 → h' 127 j = h 126 j) → (∀ j, j < x → h' 126 j = h 126 j) → vP D T N 196 162 h' [some (2, 121), some (0, k), some (0, sd), some (0, mn), some (0, n), some (0, i), some (0, (x : Int))] [] (rAr k sd mn h)) := by
  have hC' := hC
  obtain ⟨c1, c2, c3, c4, c5, c6, c7⟩ := hC'
  intro N
  induction N with
  | zero => exact ⟨fun _ _ _ _ _ _ _ _ _ _ n _ hn => absurd hn (Nat.not_lt_zero _), fun _ _ _ _ _ _ _ _ _ _ _ _ n _ hn => absurd hn (Nat.not_lt_zero _)⟩
  | succ N ih =>
    have B : ∀ h' n i (x : Nat), (0 ≤ n ∧ n ≤ i + 1) → 0 ≤ i → i < mn → x ≤ 275 → oH 127 121 21 h' → (∀ j, j < 275 → h' 127 j = h 126 j) → (∀ j, j < x → h' 126 j = h 126 j) → vP D T (N + 1) 196 162 h' [some (2, 121), some (0, k), some (0, sd), some (0, mn), some (0, n), some (0, i), some (0, (x : Int))] [] (rAr k sd mn h) := by
      intro h' n i x hn hi him hx hU hk h1
      refine vP_hv (fun hv => qr_arr162 hT hO k sd mn n i x hv ⟨hi, by omega⟩ ⟨by omega, by omega⟩ ?_ ?_)
      · intro q1 q2 q3
        refine ih.2 _ n i (x + 1) hn hi him (by omega) hU.seti (fun j hj => by rw [zset_ne (by omega)]; exact hk j hj) (fun j hj => ?_)
        by_cases e : j = x
        · subst e
          rw [Int.toNat_natCast, zset_same, hk j (by omega)]
          exact (hv126 hv0 (by omega)).symm
        · rw [Int.toNat_natCast, zset_ne (fun c => e c.2)]
          exact h1 j (by omega)
      · intro q1
        exact ih.1 _ n (i + 1) _ (by omega) (by omega) hU hk (fun j hj => h1 j (by omega))
    refine ⟨?_, B⟩
    intro h' n i o hn him hU hk h1
    refine vP_hv (fun hv => qr_arr112 hT hO k sd mn n i o hv ⟨by omega, by omega⟩ ⟨by omega, by omega⟩ ⟨by omega, by omega⟩ ⟨by omega, by omega⟩ hU hRn (fun N t b g => rx_frac hT hO t b) ?_ ?_ ?_)
    · intro q1 g u _ _ _ _ _
      exact B g (n + 1) i 0 (by omega) (by omega) q1 (by omega) u.2 (fun j hj => (u.1 j).trans (hk j hj)) (fun j hj => absurd hj (Nat.not_lt_zero _))
    · intro q1 g u _ _ _ _ _
      exact B g (n + 0) i 0 (by omega) (by omega) q1 (by omega) u.2 (fun j hj => (u.1 j).trans (hk j hj)) (fun j hj => absurd hj (Nat.not_lt_zero _))
    · intro q1 g u
      exact Or.inr ⟨hC, rfl, fun j hj => (u j).trans (h1 j hj)⟩
theorem rx_arr {D : zD} {T : zT} (hT : hTab T) (hO : vOK T) {N : Nat} {h : zH} {k sd mn : Int} (hRn : ∀ (N : Nat) (s : Int) (g : zH), oH 127 121 21 g → vP D T N 308 0 g [some (2, 121), some (0, s)] [] (fun r => r.2 = none ∧ (∀ j, r.1 127 j = g 127 j) ∧ oH 127 121 21 r.1)) (hv0 : zHv h) (hU : oH 127 121 21 h) (b3 : 0 ≤ (h 126 3).2 ∧ (h 126 3).2 ≤ 6) : vP D T N 196 0 h [some (2, 121), some (0, k), some (0, sd), some (0, mn), none, none, none] [] (rAr k sd mn h) := by
  have z3 : ∀ v, ∀ j, zset (zset (zset h 121 1 (0, 0)) 121 0 (0, 0)) 121 0 v 126 j = h 126 j := fun v j => (zset_ne (by omega)).trans ((zset_ne (by omega)).trans (zset_ne (by omega)))
  refine qr_arr0 hT hO k sd mn hv0 b3 ?_ ?_ ?_ ?_ ?_ ?_ ?_ ?_
  · intro c1
    exact Or.inl ⟨fun ⟨a1, a2, a3, a4, a5, a6, a7⟩ => by omega, rfl, z3 (0, 2)⟩
  · intro c1 c2
    exact Or.inl ⟨fun ⟨a1, a2, a3, a4, a5, a6, a7⟩ => by omega, rfl, z3 (0, 2)⟩
  · intro c1 c2 c3
    exact Or.inl ⟨fun ⟨a1, a2, a3, a4, a5, a6, a7⟩ => by omega, rfl, z3 (0, 5)⟩
  · intro c1 c2 c3 c4
    exact Or.inl ⟨fun ⟨a1, a2, a3, a4, a5, a6, a7⟩ => by omega, rfl, z3 (0, 5)⟩
  · intro c1 c2 c3 c4 c5
    exact Or.inl ⟨fun ⟨a1, a2, a3, a4, a5, a6, a7⟩ => by omega, rfl, z3 (0, 5)⟩
  · intro c1 c2 c3 c4 c5 c6
    exact Or.inl ⟨fun ⟨a1, a2, a3, a4, a5, a6, a7⟩ => by omega, rfl, z3 (0, 5)⟩
  · intro c1 c2 c3 c4 c5 c6 c7
    exact Or.inl ⟨fun ⟨a1, a2, a3, a4, a5, a6, a7⟩ => a7 c7, rfl, z3 (0, 8)⟩
  · intro c1 c2 c3 c4 c5 c6 c7
    have hC : rArC k sd mn h := ⟨c1, c2, c3, c4, c5, c6, c7⟩
    have e0 : ∀ j, zset (zset h 121 1 (0, 0)) 121 0 (0, 0) 126 j = h 126 j := fun j => (zset_ne (by omega)).trans (zset_ne (by omega))
    have u0 : oH 127 121 21 (zset (zset h 121 1 (0, 0)) 121 0 (0, 0)) := hU.seti.seti
    refine vP_loop (fun h' l => ∃ (x : Nat) (o1 o2 : Option zV), l = [some (2, 121), some (0, k), some (0, sd), some (0, mn), some (0, (x : Int)), o1, o2] ∧ x ≤ 275 ∧ oH 127 121 21 h' ∧ (∀ j, j < x → h' 127 j = h 126 j) ∧ ∀ j, h' 126 j = h 126 j) ?_ N _ _ ⟨0, none, none, rfl, by decide, u0, fun j hj => absurd hj (Nat.not_lt_zero _), e0⟩
    rintro N h' l ⟨x, o1, o2, rfl, hx, hu, h1, h2⟩ ih
    refine vP_hv (fun hv => qr_arr78 hT hO k sd mn x o1 o2 hv ⟨by omega, by omega⟩ ?_ ?_)
    · intro q1 q2 q3
      refine ih _ _ ⟨x + 1, o1, o2, rfl, by omega, hu.seti, fun j hj => ?_, fun j => (zset_ne (by omega)).trans (h2 j)⟩
      by_cases e : j = x
      · subst e
        rw [Int.toNat_natCast, zset_same, h2 j]
        exact (hv126 hv0 (by omega)).symm
      · rw [Int.toNat_natCast, zset_ne (fun c => e c.2)]
        exact h1 j (by omega)
    · intro q1
      exact (rx_arr_loop hT hO hRn hv0 hC b3.2 _).1 h' 0 0 o2 ⟨by decide, by decide⟩ (by omega) hu (fun j hj => h1 j (by omega)) (fun j _ => h2 j)
/-! the machine's code never takes the cell `kept` outside arrivals() -/
noncomputable def gC (S : List (Nat × Nat)) (ci k0 : Nat) : Bool := S.all fun q => match x_nth zMT q.1 with
  | some t => t.all fun l => l.all fun o => match o with
    | some i => guI ci k0 i
    | none => true
  | none => false
theorem guOK_of {S : List (Nat × Nat)} {ci k : Nat} (h : gC S ci k = true) : guOK (inS S) ci k TLw := by
  intro mi pc i hS hi
  obtain ⟨q, hq, hb⟩ := List.any_eq_true.mp hS
  rw [Bool.and_eq_true] at hb
  have e1 : q.1 = mi := eq_of_beq hb.1
  have hc := List.all_eq_true.mp h q hq
  have hc : (match x_nth zMT q.1 with
    | some t => t.all fun l => l.all fun o => match o with
      | some i => guI ci k i
      | none => true
    | none => false) = true := hc
  have hne : mi ≠ 341 := fun e => by
    rw [e1, e, show x_nth zMT 341 = none from rfl] at hc
    cases hc
  unfold TLw at hi
  rw [if_neg hne] at hi
  have hi : (match x_nth zMT mi with
    | some t => z_at t pc
    | none => none) = some i := hi
  rw [e1] at hc
  cases ht : x_nth zMT mi with
  | none => rw [ht] at hi; cases hi
  | some t =>
    rw [ht] at hi hc
    have hc : (t.all fun l => l.all fun o => match o with
      | some i => guI ci k i
      | none => true) = true := hc
    have hi : z_at t pc = some i := hi
    unfold z_at at hi
    rw [x_nth_eq] at hi
    cases hl : t[Nat.div pc 16]? with
    | none => rw [hl] at hi; cases hi
    | some l =>
      rw [hl] at hi
      have hi : (match x_nth l (Nat.mod pc 16) with
        | some r => r
        | none => none) = some i := hi
      rw [x_nth_eq] at hi
      cases ho : l[Nat.mod pc 16]? with
      | none => rw [ho] at hi; cases hi
      | some o =>
        rw [ho] at hi
        have hi : o = some i := hi
        have h1 := List.all_eq_true.mp (List.all_eq_true.mp hc l (List.mem_of_getElem? hl)) o (List.mem_of_getElem? ho)
        rw [hi] at h1
        exact h1
def sRuns : List (Nat × Nat) := [(197, 0), (200, 0), (203, 0), (206, 0), (212, 0), (215, 0), (219, 0), (220, 0), (221, 0), (222, 0), (223, 0), (224, 0), (231, 0), (232, 0), (240, 0), (244, 0), (252, 0), (261, 0), (271, 0), (275, 0), (280, 0), (281, 0), (308, 0), (313, 0), (314, 0), (317, 0), (323, 0), (324, 0), (333, 0), (336, 0)]
theorem rn_fw : fwOK (inS sRuns) 99 0 TLw := fwOK_of (by decide +kernel)
theorem rn_gu : guOK (inS sRuns) 12 21 TLw := guOK_of (by decide +kernel)
theorem oLo_vL {u : Nat} {a b : zV} (h1 : oV u a) (h2 : oV u b) : oLo u (vL [some a, some b]) := fun i v h => by
  match i, h with
  | 0, h => cases h; exact h1
  | 1, h => cases h; exact h2
  | i + 2, h => cases h
theorem rx_runs {D : zD} (N : Nat) (s : Int) (g : zH) (hU : oH 127 121 21 g) : vP D TLw N 308 0 g [some (2, 121), some (0, s)] [] (fun r => r.2 = none ∧ (∀ j, r.1 127 j = g 127 j) ∧ oH 127 121 21 r.1) := by
  refine vP_Q (fun r hr => ⟨hr.1, hr.2.2, hr.2.1⟩) (vP_and (vP_rt (b := 0) zt_X12_runs rfl (by decide +kernel) (by decide)) (vP_un (u := 127) (k0 := 21) (r0 := 121) (w := 48) rfl vOK_T rn_fw rn_gu (by decide) hU (oLo_vL (fun e => absurd e.2 (by decide)) oV_0) oS_nil))
/-- which places name the cell -/
noncomputable def rOut (u : Int) (r0 k0 a b : Nat) : Bool := (match vCode a b with
  | some c => !(Nat.beq c 4)
  | none => true) || ((Nat.beq a r0 && Nat.beq b k0) || (match a_at aTy1 a with
  | some l => (match a_uniF (Int.ofNat b) (Int.ofNat b) l with
    | some t => Nat.beq t.1 2 && a_all (fun c => !(@decide (c = u) (a_decEqZ _ _))) t.2.2.2
    | none => false)
  | none => false))
theorem rOut_all : (a_allN (fun a => a_allN (fun b => rOut 127 121 21 a b) 0 64) 0 137) = true := by decide +kernel
noncomputable def vLen (a : Nat) : Bool := match zShape[a]? with
  | some (.inl q) => !(Nat.beq (zcode q.1) 4) || Nat.ble q.2 64
  | some (.inr q) => (match vFt[q.1]? with
    | some l => Nat.ble l.length 64
    | none => true)
  | none => true
theorem vLen_all : a_allN vLen 0 137 = true := by decide +kernel
theorem vCode_lt {a b : Nat} (hc : vCode a b = some 4) : a < 137 ∧ b < 64 := by
  have hlen : zShape.length = 137 := rfl
  unfold vCode at hc
  cases hs : zShape[a]? with
  | none => rw [hs] at hc; cases hc
  | some s =>
    have ha : a < 137 := hlen ▸ (List.getElem?_eq_some_iff.mp hs).1
    refine ⟨ha, ?_⟩
    have hb := a_allN_ok vLen_all a ha
    rw [Nat.zero_add] at hb
    unfold vLen at hb
    rw [hs] at hb hc
    match s, hb, hc with
    | .inl q, hb, hc =>
      have hc : (if b < q.2 then some (zcode q.1) else none) = some 4 := hc
      have hb : (!(Nat.beq (zcode q.1) 4) || Nat.ble q.2 64) = true := hb
      by_cases hk : b < q.2
      · rw [if_pos hk] at hc
        have e : zcode q.1 = 4 := Option.some.inj hc
        rw [e] at hb
        have : q.2 ≤ 64 := Nat.le_of_ble_eq_true hb
        omega
      · rw [if_neg hk] at hc
        cases hc
    | .inr q, hb, hc =>
      have hc : (match vFt[q.1]? with
        | some l => l[b]?
        | none => none) = some 4 := hc
      have hb : (match vFt[q.1]? with
        | some l => Nat.ble l.length 64
        | none => true) = true := hb
      cases hf : vFt[q.1]? with
      | none => rw [hf] at hc; cases hc
      | some l =>
        rw [hf] at hb hc
        have h1 : b < l.length := (List.getElem?_eq_some_iff.mp hc).1
        have h2 : l.length ≤ 64 := Nat.le_of_ble_eq_true hb
        omega
theorem lI.out {D : zD} {qs : List aQ} {h : zH} (hZ : lI aG1 D Fl0 qs h) : oH 127 121 21 h := by
  intro a b hc hn
  obtain ⟨ha, hb⟩ := vCode_lt hc
  have h1 := a_allN_ok rOut_all a ha
  rw [Nat.zero_add] at h1
  have h2 := a_allN_ok h1 b hb
  rw [Nat.zero_add] at h2
  unfold rOut at h2
  rw [hc] at h2
  have h2 : ((Nat.beq a 121 && Nat.beq b 21) || (match a_at aTy1 a with
    | some l => (match a_uniF (Int.ofNat b) (Int.ofNat b) l with
      | some t => Nat.beq t.1 2 && a_all (fun c => !(@decide (c = 127) (a_decEqZ _ _))) t.2.2.2
      | none => false)
    | none => false)) = true := h2
  rw [Bool.or_eq_true, Bool.and_eq_true] at h2
  rcases h2 with e | e
  · exact absurd ⟨Nat.eq_of_beq_eq_true e.1, Nat.eq_of_beq_eq_true e.2⟩ hn
  · cases hl : a_at aTy1 a with
    | none => rw [hl] at e; cases e
    | some l =>
      rw [hl] at e
      have e : (match a_uniF (Int.ofNat b) (Int.ofNat b) l with
        | some t => Nat.beq t.1 2 && a_all (fun c => !(@decide (c = 127) (a_decEqZ _ _))) t.2.2.2
        | none => false) = true := e
      cases hu : a_uniF (Int.ofNat b) (Int.ofNat b) l with
      | none => rw [hu] at e; cases e
      | some t =>
        rw [hu] at e
        have e : (Nat.beq t.1 2 && a_all (fun c => !(@decide (c = 127) (a_decEqZ _ _))) t.2.2.2) = true := e
        rw [Bool.and_eq_true] at e
        have hat := a_uniF_ok (j := b) hu (hZ.ty a l hl) (Int.le_refl _) (Int.le_refl _)
        unfold atin at hat
        rw [Nat.eq_of_beq_eq_true e.1] at hat
        obtain ⟨c, hc', hv⟩ := (hat : ∃ c ∈ t.2.2.2, h a b = if c = -1 then (4, 0) else (2, c))
        have hne := a_all_ok e.2 c hc'
        rw [Bool.not_eq_true'] at hne
        have hne : c ≠ 127 := fun q => by
          rw [a_decT q] at hne
          cases hne
        rw [hv]
        split
        · exact oV_t (by decide)
        · exact fun q => hne (by have := q.2; omega)
end
section
theorem lQA_of {D : zD} {h : zH} (hZ : lZ D h) (e7 : h 0 7 = (2, ((24 : Nat) : Int))) (e8 : h 0 8 = (2, ((39 : Nat) : Int))) : lI aG1 D Fl0 lQA h := by
  obtain ⟨q, hq, ρ, g⟩ := hZ
  have hq : q = lQ_0 ∨ q = lQ_1 ∨ q = lQ_2 ∨ q = lQ_3 := by simpa only [lQs, List.mem_cons, List.not_mem_nil, or_false] using hq
  rcases hq with rfl | rfl | rfl | rfl
  · exact ⟨lQA_0, List.mem_cons_self, ρ, ⟨g.1, g.2.1, List.forall_mem_cons.mpr ⟨⟨Nat.zero_le _, (show (0 : Int) ≤ 7 from by decide), Nat.zero_le _, e7⟩, List.forall_mem_cons.mpr ⟨⟨Nat.zero_le _, (show (0 : Int) ≤ 8 from by decide), Nat.zero_le _, e8⟩, g.2.2.1⟩⟩, g.2.2.2.1, g.2.2.2.2.1, g.2.2.2.2.2⟩⟩
  · exact ⟨lQA_1, (List.mem_cons_of_mem _ List.mem_cons_self), ρ, ⟨g.1, g.2.1, List.forall_mem_cons.mpr ⟨⟨Nat.zero_le _, (show (0 : Int) ≤ 7 from by decide), Nat.zero_le _, e7⟩, List.forall_mem_cons.mpr ⟨⟨Nat.zero_le _, (show (0 : Int) ≤ 8 from by decide), Nat.zero_le _, e8⟩, g.2.2.1⟩⟩, g.2.2.2.1, g.2.2.2.2.1, g.2.2.2.2.2⟩⟩
  · exact ⟨lQA_2, (List.mem_cons_of_mem _ (List.mem_cons_of_mem _ List.mem_cons_self)), ρ, ⟨g.1, g.2.1, List.forall_mem_cons.mpr ⟨⟨Nat.zero_le _, (show (0 : Int) ≤ 7 from by decide), Nat.zero_le _, e7⟩, List.forall_mem_cons.mpr ⟨⟨Nat.zero_le _, (show (0 : Int) ≤ 8 from by decide), Nat.zero_le _, e8⟩, g.2.2.1⟩⟩, g.2.2.2.1, g.2.2.2.2.1, g.2.2.2.2.2⟩⟩
  · exact ⟨lQA_3, (List.mem_cons_of_mem _ (List.mem_cons_of_mem _ (List.mem_cons_of_mem _ List.mem_cons_self))), ρ, ⟨g.1, g.2.1, List.forall_mem_cons.mpr ⟨⟨Nat.zero_le _, (show (0 : Int) ≤ 7 from by decide), Nat.zero_le _, e7⟩, List.forall_mem_cons.mpr ⟨⟨Nat.zero_le _, (show (0 : Int) ≤ 8 from by decide), Nat.zero_le _, e8⟩, g.2.2.1⟩⟩, g.2.2.2.1, g.2.2.2.2.1, g.2.2.2.2.2⟩⟩
theorem lQB_of {D : zD} {h : zH} (hZ : lZ D h) (e7 : h 0 7 = (2, ((39 : Nat) : Int))) (e8 : h 0 8 = (2, ((24 : Nat) : Int))) : lI aG1 D Fl0 lQB h := by
  obtain ⟨q, hq, ρ, g⟩ := hZ
  have hq : q = lQ_0 ∨ q = lQ_1 ∨ q = lQ_2 ∨ q = lQ_3 := by simpa only [lQs, List.mem_cons, List.not_mem_nil, or_false] using hq
  rcases hq with rfl | rfl | rfl | rfl
  · exact ⟨lQB_0, List.mem_cons_self, ρ, ⟨g.1, g.2.1, List.forall_mem_cons.mpr ⟨⟨Nat.zero_le _, (show (0 : Int) ≤ 7 from by decide), Nat.zero_le _, e7⟩, List.forall_mem_cons.mpr ⟨⟨Nat.zero_le _, (show (0 : Int) ≤ 8 from by decide), Nat.zero_le _, e8⟩, g.2.2.1⟩⟩, g.2.2.2.1, g.2.2.2.2.1, g.2.2.2.2.2⟩⟩
  · exact ⟨lQB_1, (List.mem_cons_of_mem _ List.mem_cons_self), ρ, ⟨g.1, g.2.1, List.forall_mem_cons.mpr ⟨⟨Nat.zero_le _, (show (0 : Int) ≤ 7 from by decide), Nat.zero_le _, e7⟩, List.forall_mem_cons.mpr ⟨⟨Nat.zero_le _, (show (0 : Int) ≤ 8 from by decide), Nat.zero_le _, e8⟩, g.2.2.1⟩⟩, g.2.2.2.1, g.2.2.2.2.1, g.2.2.2.2.2⟩⟩
  · exact ⟨lQB_2, (List.mem_cons_of_mem _ (List.mem_cons_of_mem _ List.mem_cons_self)), ρ, ⟨g.1, g.2.1, List.forall_mem_cons.mpr ⟨⟨Nat.zero_le _, (show (0 : Int) ≤ 7 from by decide), Nat.zero_le _, e7⟩, List.forall_mem_cons.mpr ⟨⟨Nat.zero_le _, (show (0 : Int) ≤ 8 from by decide), Nat.zero_le _, e8⟩, g.2.2.1⟩⟩, g.2.2.2.1, g.2.2.2.2.1, g.2.2.2.2.2⟩⟩
  · exact ⟨lQB_3, (List.mem_cons_of_mem _ (List.mem_cons_of_mem _ (List.mem_cons_of_mem _ List.mem_cons_self))), ρ, ⟨g.1, g.2.1, List.forall_mem_cons.mpr ⟨⟨Nat.zero_le _, (show (0 : Int) ≤ 7 from by decide), Nat.zero_le _, e7⟩, List.forall_mem_cons.mpr ⟨⟨Nat.zero_le _, (show (0 : Int) ≤ 8 from by decide), Nat.zero_le _, e8⟩, g.2.2.1⟩⟩, g.2.2.2.1, g.2.2.2.2.1, g.2.2.2.2.2⟩⟩
theorem arr_b {D : zD} (hD : ∀ i, -2147483648 ≤ D.2 i ∧ D.2 i ≤ 2147483647) {h h1 : zH} {x y z : Nat} {v1 : Int} {M : aM} {qs : List aQ} (hck : a_all (lCk (aG0 aG1) sLaw 614 143 0 [0, 0, 0] 0 M lQs) qs = true) (hI : lI aG1 D Fl0 qs h) (z1 : zRun D TLw 614 143 0 (h, zargs 0 [(2, 0), (0, D.2 x), (0, D.2 y), (0, D.2 z)], []) (h1, some (0, v1))) : aFr M h h1 := by
  obtain ⟨g, w, zr, _, f⟩ := lCallZ hD hck hI (bs := [(0, D.2 x), (0, D.2 y), (0, D.2 z)]) ⟨⟨rfl, hD _⟩, ⟨rfl, hD _⟩, ⟨rfl, hD _⟩, trivial⟩
  have e := zRun_det z1 zr
  have e1 : h1 = g := congrArg Prod.fst e
  rw [e1]
  exact f
abbrev tpX (c : Nat) : aM := tp0 ++ (cLs c ++ (cLs 55 ++ (cLs 70 ++ (cLs 85 ++ bAll))))
theorem tpX_m {c m : Nat} (hm : m < 3) : ∀ e ∈ cLs (55 + 15 * m), e ∈ tpX c := by
  have : m = 0 ∨ m = 1 ∨ m = 2 := by omega
  rcases this with rfl | rfl | rfl
  · exact fun e he => List.mem_append_right _ (List.mem_append_right _ (List.mem_append_left _ he))
  · exact fun e he => List.mem_append_right _ (List.mem_append_right _ (List.mem_append_right _ (List.mem_append_left _ he)))
  · exact fun e he => List.mem_append_right _ (List.mem_append_right _ (List.mem_append_right _ (List.mem_append_right _ (List.mem_append_left _ he))))
theorem lR_arr {h h1 h2 : zH} {r c : Nat} (hR : lR h) (s1 : lSw r c) (s2 : h 0 7 = (2, (c : Int))) (k1 : ∀ a k, aIn (tpX c) a k → h1 a k = h a k) (k2 : ∀ a k, aIn (tp0 ++ (cAll ++ (bLs 1 ++ (bLs 2 ++ (bLs 3 ++ [(126, 275, 275), (128, 0, 5)]))))) a k → h2 a k = h1 a k) (k3 : ∀ j, j < 275 → h2 126 j = h1 126 j) : lR h2 := by
  obtain ⟨hT, hF, hM, r', c', t1, t2, t3, hL⟩ := hR
  have ec : c' = c := by
    rw [s2] at t2
    have := congrArg Prod.snd t2
    have : (c : Int) = (c' : Int) := this
    omega
  subst ec
  have h0 : ∀ a k, aIn tp0 a k → h2 a k = h a k := fun a k ⟨e, he, x⟩ => (k2 a k ⟨e, List.mem_append_left _ he, x⟩).trans (k1 a k ⟨e, List.mem_append_left _ he, x⟩)
  have kc : ∀ d, cOb d → (∀ e ∈ cLs d, e ∈ tpX c') → cK d d h h2 := fun d hd hx => (cK_S k1 hx).trans (cK_S k2 (fun e he => List.mem_append_right _ (List.mem_append_left _ (cAll_in hd e he))))
  have kb1 : ∀ b, b < 4 → bK b b h h1 := fun b hb => bK_S k1 (fun e he => List.mem_append_right _ (List.mem_append_right _ (List.mem_append_right _ (List.mem_append_right _ (List.mem_append_right _ (bAll_in hb e he))))))
  have kb2 : ∀ m, m < 3 → bK (m + 1) (m + 1) h1 h2 := fun m hm => by
    have : m = 0 ∨ m = 1 ∨ m = 2 := by omega
    rcases this with rfl | rfl | rfl
    · exact bK_S k2 (fun e he => List.mem_append_right _ (List.mem_append_right _ (List.mem_append_left _ he)))
    · exact bK_S k2 (fun e he => List.mem_append_right _ (List.mem_append_right _ (List.mem_append_right _ (List.mem_append_left _ he))))
    · exact bK_S k2 (fun e he => List.mem_append_right _ (List.mem_append_right _ (List.mem_append_right _ (List.mem_append_right _ (List.mem_append_left _ he)))))
  have kb0 : bK 0 0 h1 h2 := by
    refine ⟨fun j hj => ?_, fun k hk => k2 _ _ ⟨(128, 0, 5), ?_, rfl, Nat.zero_le _, (show 6 * 0 + k ≤ 5 from by omega)⟩⟩
    · rw [show 550 * 0 + j = j by omega]
      rcases hj with e | e | e | e
      · exact k3 j (by omega)
      · exact k3 j (by omega)
      · exact k3 j (by omega)
      · exact k2 _ _ ⟨(126, 275, 275), by decide, rfl, (show 275 ≤ j from by omega), (show j ≤ 275 from by omega)⟩
    · decide
  refine ⟨hT.of (h0 _ _ ⟨(10, 1, 1), by decide, rfl, by decide, by decide⟩) (fun q hq => h0 _ _ ⟨(11, 0, 899), by decide, rfl, Nat.zero_le _, hq⟩) (h0 _ _ ⟨(121, 8, 8), by decide, rfl, by decide, by decide⟩) (fun q hq => h0 _ _ ⟨(125, 0, 899), by decide, rfl, Nat.zero_le _, hq⟩), hF.of h0, hM.of (h0 _ _ ⟨(0, 10, 10), by decide, rfl, by decide, by decide⟩) (h0 _ _ ⟨(121, 23, 23), by decide, rfl, by decide, by decide⟩) (fun m hm => kc _ (mOb hm) (tpX_m hm)) (fun m hm => (kb1 _ (by omega)).trans (kb2 m hm)), r', c', t1, (h0 _ _ ⟨(0, 7, 8), by decide, rfl, by decide, by decide⟩).trans t2, (h0 _ _ ⟨(0, 7, 8), by decide, rfl, by decide, by decide⟩).trans t3, hL.tr (kc c' t1.ob (fun e he => List.mem_append_right _ (List.mem_append_left _ he))) ((kb1 0 (by decide)).trans kb0)⟩
theorem arr_r {D : zD} {h1 h2 : zH} {a b c v2 : Int} (hZ1 : lZ D h1) (b3 : 0 ≤ (h1 126 3).2 ∧ (h1 126 3).2 ≤ 6) (z2 : zRun D TLw 614 196 0 (h1, zargs 0 [(2, 121), (0, a), (0, b), (0, c)], []) (h2, some (0, v2))) : rAr a b c h1 (h2, some (0, v2)) := hZ1.run 7 z2 (Q := rAr a b c h1) (fun N => vP_hv (fun hv => rx_arr TLw_T vOK_T rx_runs hv (lI.out (show lI aG1 D Fl0 lQs h1 from hZ1)) b3))
theorem lRk_arrivals {D : zD} (hD : ∀ i, -2147483648 ≤ D.2 i ∧ D.2 i ≤ 2147483647) {h h1 h2 : zH} {x y z : Nat} {v1 v2 : Int} (hZ : lZ D h) (hZ1 : lZ D h1) (hR : lR h) (z1 : zRun D TLw 614 143 0 (h, zargs 0 [(2, 0), (0, D.2 x), (0, D.2 y), (0, D.2 z)], []) (h1, some (0, v1))) (f1 : aFr lM_143 h h1) (z2 : zRun D TLw 614 196 0 (h1, zargs 0 [(2, 121), (0, D.2 x), (0, D.2 y), (0, D.2 z)], []) (h2, some (0, v2))) (f2 : aFr lM_196 h1 h2) : lR h2 ∧ True := by
  refine ⟨?_, trivial⟩
  have hR' := hR
  obtain ⟨_, _, _, r, c, s1, s2, s3, P, _, hp, lb, _⟩ := hR'
  have b3 : 0 ≤ (h1 126 3).2 ∧ (h1 126 3).2 ≤ 6 := by
    have e : h1 126 3 = h 126 3 := f1.keep (S := [(126, 3, 3)]) (by decide +kernel) ⟨(126, 3, 3), by decide, rfl, by decide, by decide⟩
    have e2 : h 126 3 = (0, P 0 3) := hp.1.2.2.2
    rw [e, e2]
    exact lb.2.2.2
  have k3 : ∀ j, j < 275 → h2 126 j = h1 126 j := by
    rcases arr_r hZ1 b3 z2 with ⟨_, _, q⟩ | ⟨_, _, q⟩
    · exact fun j _ => q j
    · exact q
  have k2 : ∀ a k, aIn (tp0 ++ (cAll ++ (bLs 1 ++ (bLs 2 ++ (bLs 3 ++ [(126, 275, 275), (128, 0, 5)]))))) a k → h2 a k = h1 a k := fun a k hi => f2.keep (by decide +kernel) hi
  rcases s1 with ⟨rfl, rfl⟩ | ⟨rfl, rfl⟩
  · have g := arr_b hD lckB_143 (lQB_of hZ s2 s3) z1
    exact lR_arr hR (Or.inl ⟨rfl, rfl⟩) s2 (fun a k hi => g.keep (by decide +kernel) hi) k2 k3
  · have g := arr_b hD lckA_143 (lQA_of hZ s2 s3) z1
    exact lR_arr hR (Or.inr ⟨rfl, rfl⟩) s2 (fun a k hi => g.keep (by decide +kernel) hi) k2 k3
end
section
def crw (L : Int) : Int := if L = 0 then 2 else if L = 1 then 1 else if L = 2 then 4 else if L = 3 then 5 else 3
theorem zat2 (D : zD) {L : Int} (h0 : 0 ≤ L) (h1 : L < (zlen D 2 : Int)) : zat D 2 L.toNat = crw L := by
  have h1 : L < 5 := h1
  have : L = 0 ∨ L = 1 ∨ L = 2 ∨ L = 3 ∨ L = 4 := by omega
  rcases this with rfl | rfl | rfl | rfl | rfl <;> rfl
theorem zat2b (D : zD) (n : Nat) : 0 ≤ zat D 2 n ∧ zat D 2 n ≤ 5 := by
  match n with
  | 0 => exact (by decide : (0 : Int) ≤ 2 ∧ (2 : Int) ≤ 5)
  | 1 => exact (by decide : (0 : Int) ≤ 1 ∧ (1 : Int) ≤ 5)
  | 2 => exact (by decide : (0 : Int) ≤ 4 ∧ (4 : Int) ≤ 5)
  | 3 => exact (by decide : (0 : Int) ≤ 5 ∧ (5 : Int) ≤ 5)
  | 4 => exact (by decide : (0 : Int) ≤ 3 ∧ (3 : Int) ≤ 5)
  | n + 5 => exact ⟨Int.le_refl 0, (show (0 : Int) ≤ 5 from by decide)⟩
section GV
variable {L R w : Int}
end GV
end
section
/-! WAYS, PURE: weights on cells below 48 (C: the cells; nb: what lies beside; co: what it costs to come in; g: a cost's weight) -/
def wFar : Int := 1000000
def wAdj (nb : Nat → Nat → Int) (a b : Nat) : Prop := ∃ d, d < 4 ∧ nb a d = (b : Int)
def wOk (C : Nat → Prop) (nb : Nat → Nat → Int) : Prop := (∀ a, C a → a < 48) ∧ ∀ a d, C a → d < 4 → nb a d = -1 ∨ ∃ b : Nat, C b ∧ nb a d = (b : Int) ∧ wAdj nb b a
theorem wOk.sym {C : Nat → Prop} {nb : Nat → Nat → Int} (h : wOk C nb) {a b : Nat} (ca : C a) (hb : wAdj nb a b) : wAdj nb b a ∧ C b := by
  obtain ⟨d, hd, e⟩ := hb
  rcases h.2 a d ca hd with q | ⟨b', cb, q, k⟩
  · rw [e] at q; omega
  · have : b' = b := by rw [e] at q; omega
    subst this
    exact ⟨k, cb⟩
def wU (C : Nat → Prop) (nb : Nat → Nat → Int) (co : Nat → Int) (g : Int → Int) (to : Nat) (f : Nat → Int) : Prop := (∀ a, C a → 0 ≤ f a ∧ f a ≤ wFar) ∧ (∀ a, C a → a ≠ to → f a < wFar → ∃ b, C b ∧ wAdj nb a b ∧ 0 < co b ∧ f b < wFar ∧ g (co b) + f b ≤ f a)
def wD (C : Nat → Prop) (nb : Nat → Nat → Int) (co : Nat → Int) (g : Int → Int) (to : Nat) (d : Nat → Int) : Prop := d to = 0 ∧ wU C nb co g to d ∧ (∀ a b, C a → C b → wAdj nb a b → 0 < co b → d b < wFar → d a ≤ g (co b) + d b)
theorem wD.suc {C : Nat → Prop} {nb : Nat → Nat → Int} {co : Nat → Int} {g : Int → Int} {to : Nat} {d : Nat → Int} (h : wD C nb co g to d) {a : Nat} (ca : C a) (hn : a ≠ to) (hf : d a < wFar) : ∃ b, C b ∧ wAdj nb a b ∧ 0 < co b ∧ d b < wFar ∧ d a = g (co b) + d b := by
  obtain ⟨b, cb, ab, pb, fb, l⟩ := h.2.1.2 a ca hn hf
  have := h.2.2 a b ca cb ab pb fb
  exact ⟨b, cb, ab, pb, fb, by omega⟩
/-- nothing that goes along real rows lies below the true weight -/
theorem wlow {C : Nat → Prop} {nb : Nat → Nat → Int} {co : Nat → Int} {g : Int → Int} {to : Nat} {e f : Nat → Int} (hg : ∀ c, 0 < c → 0 < g c) (he : wD C nb co g to e) (hu : wU C nb co g to f) : ∀ (n : Nat) (a : Nat), C a → (f a).toNat = n → e a ≤ f a := by
  intro n
  induction n using Nat.strongRecOn with
  | ind n ih =>
    intro a ca hn
    have b1 := hu.1 a ca
    have b2 := he.2.1.1 a ca
    by_cases hat : a = to
    · rw [hat] at b1 ⊢
      rw [he.1]
      exact b1.1
    · by_cases hf : f a < wFar
      · obtain ⟨b, cb, ab, pb, fb, l⟩ := hu.2 a ca hat hf
        have g0 := hg _ pb
        have b3 := hu.1 b cb
        have k := ih (f b).toNat (by omega) b cb rfl
        have := he.2.2 a b ca cb ab pb (by omega)
        omega
      · omega
theorem wD_uni {C : Nat → Prop} {nb : Nat → Nat → Int} {co : Nat → Int} {g : Int → Int} {to : Nat} {d e : Nat → Int} (hg : ∀ c, 0 < c → 0 < g c) (h : wD C nb co g to d) (h' : wD C nb co g to e) {a : Nat} (ca : C a) : d a = e a := by
  have k1 := wlow hg h h'.2.1 _ a ca rfl
  have k2 := wlow hg h' h.2.1 _ a ca rfl
  omega
def wsum (d : Nat → Int) : Nat → Nat
  | 0 => 0
  | n + 1 => wsum d n + (d n).toNat
theorem wsum_le {d e : Nat → Int} (h : ∀ x, (d x).toNat ≤ (e x).toNat) : ∀ n, wsum d n ≤ wsum e n
  | 0 => Nat.le_refl _
  | n + 1 => Nat.add_le_add (wsum_le h n) (h n)
theorem wsum_lt {d e : Nat → Int} (h : ∀ x, (d x).toNat ≤ (e x).toNat) {j : Nat} (hj : (d j).toNat < (e j).toNat) : ∀ n, j < n → wsum d n < wsum e n
  | 0, h0 => absurd h0 (Nat.not_lt_zero _)
  | n + 1, h0 => by
    show wsum d n + (d n).toNat < wsum e n + (e n).toNat
    have hn := h n
    by_cases c : j = n
    · subst c
      have := wsum_le h j
      omega
    · have := wsum_lt h hj n (by omega)
      omega
theorem wD_ex {C : Nat → Prop} {nb : Nat → Nat → Int} {co : Nat → Int} {g : Int → Int} {to : Nat} (hg : ∀ c, 0 < c → 0 < g c) (hC : ∀ a, C a → a < 48) : ∃ d, wD C nb co g to d := by
  have key : ∀ (m : Nat) (d : Nat → Int), wsum d 48 = m → d to = 0 → (∀ a, 0 ≤ d a ∧ d a ≤ wFar) → (∀ a, C a → a ≠ to → d a < wFar → ∃ b, C b ∧ wAdj nb a b ∧ 0 < co b ∧ d b < wFar ∧ g (co b) + d b ≤ d a) → ∃ d, wD C nb co g to d := by
    intro m
    induction m using Nat.strongRecOn with
    | ind m ih =>
      intro d hm h0 hb h3
      by_cases hv : ∃ a b, C a ∧ C b ∧ wAdj nb a b ∧ 0 < co b ∧ d b < wFar ∧ g (co b) + d b < d a
      · obtain ⟨a, b, ca, cb, ab, pb, fb, hl⟩ := hv
        have g0 := hg _ pb
        have ba := hb a
        have bb := hb b
        have hba : b ≠ a := fun c => by rw [c] at hl; rw [c] at g0; omega
        have hat : a ≠ to := fun c => by rw [c, h0] at hl; omega
        have eA : (if a = a then g (co b) + d b else d a) = g (co b) + d b := if_pos rfl
        refine ih (wsum (fun x => if x = a then g (co b) + d b else d x) 48) ?_ (fun x => if x = a then g (co b) + d b else d x) rfl ?_ ?_ ?_
        · rw [← hm]
          refine wsum_lt (j := a) (fun x => ?_) ?_ 48 (hC a ca)
          · show (if x = a then g (co b) + d b else d x).toNat ≤ (d x).toNat
            by_cases c : x = a
            · rw [if_pos c, c]; omega
            · rw [if_neg c]; exact Nat.le_refl _
          · show (if a = a then g (co b) + d b else d a).toNat < (d a).toNat
            rw [eA]; omega
        · show (if to = a then g (co b) + d b else d to) = 0
          rw [if_neg (fun c => hat c.symm)]; exact h0
        · intro x
          show 0 ≤ (if x = a then g (co b) + d b else d x) ∧ (if x = a then g (co b) + d b else d x) ≤ wFar
          by_cases c : x = a
          · rw [if_pos c]; omega
          · rw [if_neg c]; exact hb x
        · intro x cx hx fx
          have fx : (if x = a then g (co b) + d b else d x) < wFar := fx
          show ∃ y, C y ∧ wAdj nb x y ∧ 0 < co y ∧ (if y = a then g (co b) + d b else d y) < wFar ∧ g (co y) + (if y = a then g (co b) + d b else d y) ≤ (if x = a then g (co b) + d b else d x)
          by_cases c : x = a
          · refine ⟨b, cb, ?_, pb, ?_, ?_⟩
            · rw [c]; exact ab
            · rw [if_neg hba]; exact fb
            · rw [if_neg hba, if_pos c]; omega
          · rw [if_neg c] at fx ⊢
            obtain ⟨y, cy, ay, py, fy, ly⟩ := h3 x cx hx fx
            refine ⟨y, cy, ay, py, ?_, ?_⟩
            · by_cases cc : y = a
              · rw [if_pos cc]; omega
              · rw [if_neg cc]; exact fy
            · by_cases cc : y = a
              · rw [if_pos cc]
                rw [cc] at ly ⊢
                omega
              · rw [if_neg cc]; exact ly
      · refine ⟨d, h0, ⟨fun a _ => hb a, h3⟩, fun a b ca cb ab pb fb => Int.not_lt.mp (fun hl => hv ⟨a, b, ca, cb, ab, pb, fb, hl⟩)⟩
  refine key _ (fun x => if x = to then 0 else wFar) rfl (if_pos rfl) (fun a => ?_) (fun a ca hat hf => ?_)
  · show 0 ≤ (if a = to then (0 : Int) else wFar) ∧ (if a = to then (0 : Int) else wFar) ≤ wFar
    by_cases c : a = to
    · rw [if_pos c]; unfold wFar; omega
    · rw [if_neg c]; unfold wFar; omega
  · have hf : (if a = to then (0 : Int) else wFar) < wFar := hf
    rw [if_neg hat] at hf
    omega
/-! how many cells lie nearer: rows are short -/
def wcnt (d : Nat → Int) (v : Int) : Nat → Nat
  | 0 => 0
  | n + 1 => wcnt d v n + (if d n < v then 1 else 0)
theorem wcnt_le {d : Nat → Int} {v : Int} : ∀ n, wcnt d v n ≤ n
  | 0 => Nat.le_refl _
  | n + 1 => by
    have := wcnt_le (d := d) (v := v) n
    show wcnt d v n + (if d n < v then 1 else 0) ≤ n + 1
    split <;> omega
theorem wcnt_lt {d : Nat → Int} {v : Int} {a : Nat} (ha : ¬ d a < v) : ∀ n, a < n → wcnt d v n < n
  | 0, h => absurd h (Nat.not_lt_zero _)
  | n + 1, h => by
    show wcnt d v n + (if d n < v then 1 else 0) < n + 1
    by_cases c : a = n
    · subst c
      rw [if_neg ha]
      have := wcnt_le (d := d) (v := v) a
      omega
    · have := wcnt_lt ha n (by omega)
      split <;> omega
theorem wcnt_mono {d : Nat → Int} {u v : Int} (huv : u ≤ v) : ∀ n, wcnt d u n ≤ wcnt d v n
  | 0 => Nat.le_refl _
  | n + 1 => by
    have := wcnt_mono (d := d) huv n
    show wcnt d u n + (if d n < u then 1 else 0) ≤ wcnt d v n + (if d n < v then 1 else 0)
    by_cases c : d n < u
    · rw [if_pos c, if_pos (by omega)]; omega
    · rw [if_neg c]; split <;> omega
theorem wcnt_s {d : Nat → Int} {v : Int} {b : Nat} (hb : d b < v) : ∀ n, b < n → wcnt d (d b) n + 1 ≤ wcnt d v n
  | 0, h => absurd h (Nat.not_lt_zero _)
  | n + 1, h => by
    show wcnt d (d b) n + (if d n < d b then 1 else 0) + 1 ≤ wcnt d v n + (if d n < v then 1 else 0)
    by_cases c : b = n
    · subst c
      have := wcnt_mono (d := d) (Int.le_of_lt hb) b
      rw [if_neg (Int.lt_irrefl _), if_pos hb]
      omega
    · have := wcnt_s hb n (by omega)
      by_cases c2 : d n < d b
      · rw [if_pos c2, if_pos (by omega)]; omega
      · rw [if_neg c2]; split <;> omega
def g100 (c : Int) : Int := 100 * c + 1
def g64 (c : Int) : Int := 64 * c + 1
theorem g100_p : ∀ c, 0 < c → 0 < g100 c := fun c h => by unfold g100; omega
theorem g64_p : ∀ c, 0 < c → 0 < g64 c := fun c h => by unfold g64; omega
section WR
variable {C : Nat → Prop} {nb : Nat → Nat → Int} {co : Nat → Int} {to : Nat} {d : Nat → Int}
theorem wrank (hC : ∀ a, C a → a < 48) (hco : ∀ a, C a → co a ≤ 14) (h : wD C nb co g100 to d) : ∀ (n : Nat) (a : Nat), C a → (d a).toNat = n → d a < wFar → d a % 100 ≤ (wcnt d (d a) 48 : Int) ∧ d a ≤ 1401 * (wcnt d (d a) 48 : Int) := by
  intro n
  induction n using Nat.strongRecOn with
  | ind n ih =>
    intro a ca hn hf
    by_cases hat : a = to
    · rw [hat, h.1]
      omega
    · obtain ⟨b, cb, ab, pb, fb, e⟩ := h.suc ca hat hf
      have b1 := h.2.1.1 b cb
      have c14 := hco b cb
      unfold g100 at e
      have k := ih (d b).toNat (by omega) b cb rfl fb
      have r1 := wcnt_s (d := d) (v := d a) (b := b) (by omega) 48 (hC b cb)
      have r2 := wcnt_lt (d := d) (v := d a) (a := a) (Int.lt_irrefl _) 48 (hC a ca)
      omega
theorem wrank2 (hC : ∀ a, C a → a < 48) (hco : ∀ a, C a → co a ≤ 14) (h : wD C nb co g100 to d) {a : Nat} (ca : C a) (hf : d a < wFar) : d a % 100 ≤ 47 ∧ d a ≤ 65847 := by
  have k := wrank hC hco h _ a ca rfl hf
  have r2 := wcnt_lt (d := d) (v := d a) (a := a) (Int.lt_irrefl _) 48 (hC a ca)
  omega
theorem wsuc2 (hC : ∀ a, C a → a < 48) (hco : ∀ a, C a → co a ≤ 14) (h : wD C nb co g100 to d) {a b : Nat} (ca : C a) (cb : C b) (hf : d a < wFar) (hb : d b < wFar) (e : d a = g100 (co b) + d b) : d a % 100 = d b % 100 + 1 ∧ d a / 100 = co b + d b / 100 := by
  have k := wrank2 hC hco h ca hf
  have k2 := wrank2 hC hco h cb hb
  unfold g100 at e
  omega
/-- the same by the other weight -/
def wEe (d : Nat → Int) (a : Nat) : Int := if d a < wFar then 64 * (d a / 100) + d a % 100 else wFar
theorem wE_f {a : Nat} (h : d a < wFar) : wEe d a = 64 * (d a / 100) + d a % 100 := if_pos h
theorem wE_n {a : Nat} (h : ¬ d a < wFar) : wEe d a = wFar := if_neg h
theorem wE_lt {a : Nat} (h0 : 0 ≤ d a) : wEe d a < wFar ↔ d a < wFar := by
  by_cases c : d a < wFar
  · rw [wE_f c]; omega
  · rw [wE_n c]; omega
theorem wE_D (hC : ∀ a, C a → a < 48) (hco : ∀ a, C a → co a ≤ 14) (h : wD C nb co g100 to d) : wD C nb co g64 to (wEe d) := by
  have b0 := h.2.1.1
  refine ⟨?_, ⟨fun a ca => ?_, fun a ca hat hf => ?_⟩, fun a b ca cb ab pb fb => ?_⟩
  · rw [wE_f (by rw [h.1]; decide), h.1]; decide
  · have := b0 a ca
    by_cases c : d a < wFar
    · rw [wE_f c]; omega
    · rw [wE_n c]; unfold wFar; omega
  · have hf := (wE_lt (b0 a ca).1).mp hf
    obtain ⟨b, cb, ab, pb, fb, e⟩ := h.suc ca hat hf
    have k := wsuc2 hC hco h ca cb hf fb e
    refine ⟨b, cb, ab, pb, (wE_lt (b0 b cb).1).mpr fb, ?_⟩
    rw [wE_f hf, wE_f fb]
    unfold g64
    omega
  · have fb := (wE_lt (b0 b cb).1).mp fb
    have l := h.2.2 a b ca cb ab pb fb
    have k2 := wrank2 hC hco h cb fb
    have c14 := hco b cb
    unfold g100 at l
    have hf : d a < wFar := by unfold wFar; omega
    have k := wrank2 hC hco h ca hf
    rw [wE_f hf, wE_f fb]
    unfold g64
    omega
theorem wE_m (hC : ∀ a, C a → a < 48) (hco : ∀ a, C a → co a ≤ 14) (h : wD C nb co g100 to d) {a : Nat} (ca : C a) (hf : d a < wFar) : wEe d a % 64 = d a % 100 ∧ wEe d a / 64 = d a / 100 := by
  have k := wrank2 hC hco h ca hf
  rw [wE_f hf]
  omega
end WR
end
section
/-! THE CLASS'S QUEUE, PURE (fr: where the row begins; b: the cell taken; w: its weight on) -/
def wPush (near : Nat) (w : Int) (s : (Nat → Int) × List Nat) : (Nat → Int) × List Nat := (fun x => if x = near then w else s.1 x, if near ∈ s.2 then s.2 else s.2 ++ [near])
def wGd (C : Nat → Prop) (e : Nat → Int) (fr a : Nat) : Prop := C a ∧ (e a < e fr ∨ a = fr)
def wQ (C : Nat → Prop) (nb : Nat → Nat → Int) (co : Nat → Int) (to : Nat) (f : Nat → Int) (q : List Nat) : Prop := f to = 0 ∧ wU C nb co g64 to f ∧ q.Nodup ∧ ∀ x ∈ q, C x ∧ f x < wFar
def wRx (C : Nat → Prop) (nb : Nat → Nat → Int) (co : Nat → Int) (fr : Nat) (f : Nat → Int) (q : List Nat) (R : Nat → Nat → Prop) : Prop := ∀ x d a : Nat, C x → x ∉ q → d < 4 → R x d → 0 < co x → f x < wFar → nb x d = (a : Int) → f a ≤ g64 (co x) + f x ∨ f fr ≤ g64 (co x) + f x
def wPh (C : Nat → Prop) (e : Nat → Int) (fr tk : Nat) (f : Nat → Int) (q : List Nat) : Prop := ∃ (j : Nat) (A B : List Nat), q = A ++ B ∧ tk + A.length ≤ 48 * (j + 1) ∧ j ≤ 47 ∧ (∀ a, wGd C e fr a → e a % 64 ≤ (j : Int) → f a = e a) ∧ (∀ x ∈ B, wGd C e fr x → (j : Int) < e x % 64) ∧ (j = 47 → B = [])
section WQ
variable {C : Nat → Prop} {nb : Nat → Nat → Int} {co : Nat → Int} {to fr : Nat} {e f : Nat → Int} {q : List Nat}
theorem wNd (hC : ∀ a, C a → a < 48) (h : q.Nodup) (hq : ∀ x ∈ q, C x) : q.length ≤ 48 := by
  have k := List.Nodup.length_le_of_subset (l₂ := List.range 48) h (fun x hx => List.mem_range.mpr (hC x (hq x hx)))
  rw [List.length_range] at k
  exact k
theorem wPush_q (hq : wQ C nb co to f q) (hok : wOk C nb) {b near d : Nat} {w : Int} (cb : C b) (cn : C near) (hd : d < 4) (hn : nb b d = (near : Int)) (pb : 0 < co b) (fb : f b < wFar) (hw : w = g64 (co b) + f b) (h1 : w < f near) : wQ C nb co to (wPush near w (f, q)).1 (wPush near w (f, q)).2 := by
  obtain ⟨h0, hu, hnd, hm⟩ := hq
  have gp := g64_p _ pb
  have bn := hu.1 near cn
  have bb := hu.1 b cb
  have hto : near ≠ to := fun c => by rw [c, h0] at h1; omega
  have hbn : b ≠ near := fun c => by rw [c] at hw; rw [c] at gp; omega
  have ab : wAdj nb near b := (hok.sym cb ⟨d, hd, hn⟩).1
  have le : ∀ x, (if x = near then w else f x) ≤ f x := fun x => by
    by_cases c : x = near
    · rw [if_pos c, c]; omega
    · rw [if_neg c]; exact Int.le_refl _
  refine ⟨?_, ⟨fun x cx => ?_, fun x cx hx fx => ?_⟩, ?_, ?_⟩
  · show (if to = near then w else f to) = 0
    rw [if_neg (fun c => hto c.symm)]; exact h0
  · show 0 ≤ (if x = near then w else f x) ∧ (if x = near then w else f x) ≤ wFar
    have := hu.1 x cx
    by_cases c : x = near
    · rw [if_pos c]; omega
    · rw [if_neg c]; exact this
  · show ∃ y, C y ∧ wAdj nb x y ∧ 0 < co y ∧ (if y = near then w else f y) < wFar ∧ g64 (co y) + (if y = near then w else f y) ≤ (if x = near then w else f x)
    have fx : (if x = near then w else f x) < wFar := fx
    by_cases c : x = near
    · refine ⟨b, cb, by rw [c]; exact ab, pb, ?_, ?_⟩
      · rw [if_neg hbn]; exact fb
      · rw [if_neg hbn, if_pos c]; omega
    · rw [if_neg c] at fx ⊢
      obtain ⟨y, cy, ay, py, fy, ly⟩ := hu.2 x cx hx fx
      have l := le y
      exact ⟨y, cy, ay, py, by omega, by omega⟩
  · show (if near ∈ q then q else q ++ [near]).Nodup
    by_cases c : near ∈ q
    · rw [if_pos c]; exact hnd
    · rw [if_neg c]
      refine List.nodup_append.mpr ⟨hnd, List.nodup_cons.mpr ⟨List.not_mem_nil, List.nodup_nil⟩, fun x hx y hy => ?_⟩
      rw [List.mem_singleton.mp hy]
      exact fun e => c (e ▸ hx)
  · intro x hx
    have hx : x ∈ (if near ∈ q then q else q ++ [near]) := hx
    show C x ∧ (if x = near then w else f x) < wFar
    by_cases c : x = near
    · rw [if_pos c]
      exact ⟨by rw [c]; exact cn, by omega⟩
    · rw [if_neg c]
      by_cases m : near ∈ q
      · rw [if_pos m] at hx; exact hm x hx
      · rw [if_neg m] at hx
        rcases List.mem_append.mp hx with k | k
        · exact hm x k
        · exact absurd (List.mem_singleton.mp k) c
theorem wPush_m {near x : Nat} {w : Int} (h : x ∉ (wPush near w (f, q)).2) : x ∉ q ∧ x ≠ near := by
  have h : x ∉ (if near ∈ q then q else q ++ [near]) := h
  by_cases m : near ∈ q
  · rw [if_pos m] at h
    exact ⟨h, fun c => h (c ▸ m)⟩
  · rw [if_neg m] at h
    exact ⟨fun k => h (List.mem_append_left _ k), fun c => h (List.mem_append_right _ (List.mem_singleton.mpr c))⟩
theorem wPush_le {near : Nat} {w : Int} (h1 : w < f near) (x : Nat) : (wPush near w (f, q)).1 x ≤ f x := by
  show (if x = near then w else f x) ≤ f x
  by_cases c : x = near
  · rw [if_pos c, c]; omega
  · rw [if_neg c]; exact Int.le_refl _
theorem wPush_r {R : Nat → Nat → Prop} (hr : wRx C nb co fr f q R) {near : Nat} {w : Int} (h1 : w < f near) : wRx C nb co fr (wPush near w (f, q)).1 (wPush near w (f, q)).2 R := by
  intro x d a cx hx hd hR px fx hn
  obtain ⟨m1, m2⟩ := wPush_m hx
  have e : (wPush near w (f, q)).1 x = f x := if_neg m2
  rw [e] at fx ⊢
  have l1 := wPush_le (q := q) h1 a
  have l2 := wPush_le (q := q) h1 fr
  rcases hr x d a cx m1 hd hR px fx hn with k | k
  · exact Or.inl (by omega)
  · exact Or.inr (by omega)
/-- good cells that are exact stay so; a push is of none of them -/
theorem wPush_p {tk : Nat} (hf : C fr) (hle : ∀ a, C a → e a ≤ f a) (hm47 : ∀ a, C a → e a < wFar → e a % 64 ≤ 47) (hfr0 : e fr ≤ wFar) (hp : wPh C e fr tk f q) {near : Nat} {w : Int} (cn : C near) (h0 : e near ≤ w) (h1 : w < f near) (h2 : w < f fr) : wPh C e fr tk (wPush near w (f, q)).1 (wPush near w (f, q)).2 := by
  obtain ⟨j, A, B, hq, ht, hj, hx, hB, h47⟩ := hp
  have hfar : wFar % 64 = 0 := by decide
  have keep : ∀ a, wGd C e fr a → e a % 64 ≤ (j : Int) → (wPush near w (f, q)).1 a = e a := fun a ga ha => by
    have k := hx a ga ha
    show (if a = near then w else f a) = e a
    by_cases c : a = near
    · rw [c] at k; omega
    · rw [if_neg c]; exact k
  have no : wGd C e fr near → (j : Int) < e near % 64 := fun gn => by
    by_cases c : e near % 64 ≤ (j : Int)
    · have := hx near gn c; omega
    · omega
  by_cases m : near ∈ q
  · refine ⟨j, A, B, ?_, ht, hj, keep, hB, h47⟩
    show (if near ∈ q then q else q ++ [near]) = A ++ B
    rw [if_pos m]; exact hq
  · refine ⟨j, A, B ++ [near], ?_, ht, hj, keep, ?_, fun c => ?_⟩
    · show (if near ∈ q then q else q ++ [near]) = A ++ (B ++ [near])
      rw [if_neg m, hq, List.append_assoc]
    · intro x hx' gx
      rcases List.mem_append.mp hx' with k | k
      · exact hB x k gx
      · rw [List.mem_singleton.mp k] at gx ⊢
        exact no gx
    · exfalso
      have c47 : ∀ a, wGd C e fr a → e a % 64 ≤ (j : Int) := fun a ga => by
        rcases ga.2 with l | l
        · have := hm47 a ga.1 (by omega); omega
        · rw [l]
          by_cases ff : e fr < wFar
          · have := hm47 fr hf ff; omega
          · have : e fr = wFar := by omega
            rw [this, hfar]; omega
      have k1 := hx fr ⟨hf, Or.inr rfl⟩ (c47 fr ⟨hf, Or.inr rfl⟩)
      have gn : wGd C e fr near := ⟨cn, Or.inl (by omega)⟩
      have := no gn
      have := c47 near gn
      omega
/-- one turn more: what lies one step farther is exact where the queue's first part has been taken -/
theorem wAdv (hok : wOk C nb) (he : wD C nb co g64 to e) (hn1 : ∀ a b, C a → C b → e a < wFar → e b < wFar → e a = g64 (co b) + e b → e a % 64 = e b % 64 + 1) (hn0 : ∀ a, C a → e a < wFar → 0 ≤ e a % 64) (hf : C fr) (h0 : f to = 0) (hle : ∀ a, C a → e a ≤ f a) (hr : wRx C nb co fr f q (fun _ _ => True)) {j : Nat} (hx : ∀ a, wGd C e fr a → e a % 64 ≤ (j : Int) → f a = e a) (hB : ∀ x ∈ q, wGd C e fr x → (j : Int) < e x % 64) : ∀ a, wGd C e fr a → e a % 64 ≤ ((j + 1 : Nat) : Int) → f a = e a := by
  intro a ga ha
  by_cases c : e a % 64 ≤ (j : Int)
  · exact hx a ga c
  · by_cases hat : a = to
    · rw [hat, h0, he.1]
    · have eb := he.2.1.1 a ga.1
      by_cases fa : e a < wFar
      · obtain ⟨b, cb, ab, pb, fb, ee⟩ := he.suc ga.1 hat fa
        have gp := g64_p _ pb
        have n1 := hn1 a b ga.1 cb fa fb ee
        have gb : wGd C e fr b := by
          rcases ga.2 with l | l
          · exact ⟨cb, Or.inl (by omega)⟩
          · rw [l] at ee; exact ⟨cb, Or.inl (by omega)⟩
        have xb := hx b gb (by omega)
        have nq : b ∉ q := fun m => by
          have := hB b m gb
          omega
        obtain ⟨d, hd, hnb⟩ := (hok.sym ga.1 ab).1
        have k := hr b d a cb nq hd trivial pb (by rw [xb]; exact fb) hnb
        rw [xb, ← ee] at k
        have la := hle a ga.1
        rcases k with k | k
        · omega
        · have lf := hle fr hf
          rcases ga.2 with l | l
          · omega
          · rw [l] at k ⊢
            have := hle fr hf
            omega
      · have la := hle a ga.1
        have : e a % 64 = 0 := by
          have : e a = wFar := by omega
          rw [this]; decide
        omega
theorem wPop_p {tk b : Nat} (hok : wOk C nb) (he : wD C nb co g64 to e) (hn1 : ∀ a b, C a → C b → e a < wFar → e b < wFar → e a = g64 (co b) + e b → e a % 64 = e b % 64 + 1) (hn0 : ∀ a, C a → e a < wFar → 0 ≤ e a % 64) (hf : C fr) (hle : ∀ a, C a → e a ≤ f a) (hq : wQ C nb co to f (b :: q)) (hr : wRx C nb co fr f (b :: q) (fun _ _ => True)) (hp : wPh C e fr tk f (b :: q)) : wPh C e fr (tk + 1) f q := by
  obtain ⟨j, A, B, hqe, ht, hj, hx, hB, h47⟩ := hp
  cases A with
  | nil =>
    have hqe : b :: q = B := hqe
    have l48 := wNd hok.1 hq.2.2.1 (fun x hx => (hq.2.2.2 x hx).1)
    have hl : (b :: q).length = q.length + 1 := rfl
    have hA : tk + 0 ≤ 48 * (j + 1) := ht
    have j47 : j ≠ 47 := fun c => by
      have := h47 c
      rw [this] at hqe; cases hqe
    refine ⟨j + 1, q, [], (List.append_nil q).symm, by omega, by omega, ?_, fun x hx => absurd hx List.not_mem_nil, fun _ => rfl⟩
    exact wAdv hok he hn1 hn0 hf hq.1 hle hr hx (fun x m => hB x (hqe ▸ m))
  | cons a A =>
    have hqe : b :: q = a :: (A ++ B) := hqe
    have hq' : q = A ++ B := (List.cons.inj hqe).2
    have hl : (a :: A).length = A.length + 1 := rfl
    exact ⟨j, A, B, hq', by omega, hj, hx, hB, h47⟩
/-- where the queue is empty, all good cells are exact -/
theorem wEnd_p {tk : Nat} (hok : wOk C nb) (he : wD C nb co g64 to e) (hn1 : ∀ a b, C a → C b → e a < wFar → e b < wFar → e a = g64 (co b) + e b → e a % 64 = e b % 64 + 1) (hn0 : ∀ a, C a → e a < wFar → 0 ≤ e a % 64) (hm47 : ∀ a, C a → e a < wFar → e a % 64 ≤ 47) (hf : C fr) (h0 : f to = 0) (hle : ∀ a, C a → e a ≤ f a) (hr : wRx C nb co fr f [] (fun _ _ => True)) (hp : wPh C e fr tk f []) : ∀ a, wGd C e fr a → f a = e a := by
  obtain ⟨j, A, B, hqe, ht, hj, hx, hB, h47⟩ := hp
  have key : ∀ m : Nat, ∀ a, wGd C e fr a → e a % 64 ≤ ((j + m : Nat) : Int) → f a = e a := by
    intro m
    induction m with
    | zero => exact hx
    | succ m ih => exact wAdv hok he hn1 hn0 hf h0 hle hr ih (fun x hx => absurd hx List.not_mem_nil)
  intro a ga
  refine key 64 a ga ?_
  omega
theorem wFull_p {b : Nat} (hok : wOk C nb) (hq : wQ C nb co to f (b :: q)) (hp : wPh C e fr 2304 f (b :: q)) : False := by
  obtain ⟨j, A, B, hqe, ht, hj, hx, hB, h47⟩ := hp
  cases A with
  | nil =>
    have hqe : b :: q = B := hqe
    have hA : 2304 + 0 ≤ 48 * (j + 1) := ht
    have := h47 (by omega)
    rw [this] at hqe; cases hqe
  | cons a A =>
    have hl : (a :: A).length = A.length + 1 := rfl
    omega
theorem wIni_p (he : wD C nb co g64 to e) (hn1 : ∀ a b, C a → C b → e a < wFar → e b < wFar → e a = g64 (co b) + e b → e a % 64 = e b % 64 + 1) (hn0 : ∀ a, C a → e a < wFar → 0 ≤ e a % 64) : wPh C e fr 0 (fun x => if x = to then 0 else wFar) [to] := by
  refine ⟨0, [to], [], rfl, (show 0 + 1 ≤ 48 * (0 + 1) from by decide), by decide, fun a ga ha => ?_, fun x hx => absurd hx List.not_mem_nil, fun c => by cases c⟩
  show (if a = to then 0 else wFar) = e a
  by_cases c : a = to
  · rw [if_pos c, c, he.1]
  · rw [if_neg c]
    have eb := he.2.1.1 a ga.1
    by_cases fa : e a < wFar
    · obtain ⟨b, cb, ab, pb, fb, ee⟩ := he.suc ga.1 c fa
      have n1 := hn1 a b ga.1 cb fa fb ee
      have := hn0 b cb fb
      omega
    · omega
theorem wIni_q (ct : C to) : wQ C nb co to (fun x => if x = to then 0 else wFar) [to] := by
  refine ⟨if_pos rfl, ⟨fun a _ => ?_, fun a _ hat hf => ?_⟩, List.nodup_cons.mpr ⟨List.not_mem_nil, List.nodup_nil⟩, fun x hx => ?_⟩
  · show 0 ≤ (if a = to then (0 : Int) else wFar) ∧ (if a = to then (0 : Int) else wFar) ≤ wFar
    unfold wFar
    split <;> omega
  · have hf : (if a = to then (0 : Int) else wFar) < wFar := hf
    rw [if_neg hat] at hf
    omega
  · rw [List.mem_singleton.mp hx]
    exact ⟨ct, by show (if to = to then (0 : Int) else wFar) < wFar; rw [if_pos rfl]; decide⟩
theorem wIni_r : wRx C nb co fr (fun x => if x = to then 0 else wFar) [to] (fun _ _ => True) := by
  intro x d a _ hx _ _ _ fx _
  have fx : (if x = to then (0 : Int) else wFar) < wFar := fx
  rw [if_neg (fun c => hx (List.mem_singleton.mpr c))] at fx
  omega
end WQ
end
section
/-! THE ROW GONE, PURE (d: the true weights, 100 a cost) -/
def wHb (nb : Nat → Nat → Int) (co d : Nat → Int) (a k : Nat) : Bool := decide (0 ≤ nb a k ∧ 0 < co (nb a k).toNat ∧ d (nb a k).toNat < wFar ∧ d a = g100 (co (nb a k).toNat) + d (nb a k).toNat)
def wDr (nb : Nat → Nat → Int) (co d : Nat → Int) (a : Nat) : Nat := if wHb nb co d a 0 = true then 0 else if wHb nb co d a 1 = true then 1 else if wHb nb co d a 2 = true then 2 else if wHb nb co d a 3 = true then 3 else 4
def wNx (nb : Nat → Nat → Int) (co d : Nat → Int) (a : Nat) : Nat := (nb a (wDr nb co d a)).toNat
def wPt (nb : Nat → Nat → Int) (co d : Nat → Int) (a : Nat) : Nat → Nat
  | 0 => a
  | n + 1 => wNx nb co d (wPt nb co d a n)
section W3
variable {C : Nat → Prop} {nb : Nat → Nat → Int} {co : Nat → Int} {to fr : Nat} {d f : Nat → Int}
theorem wHb_i {a k : Nat} (h : wHb nb co d a k = true) : 0 ≤ nb a k ∧ 0 < co (nb a k).toNat ∧ d (nb a k).toNat < wFar ∧ d a = g100 (co (nb a k).toNat) + d (nb a k).toNat := of_decide_eq_true h
theorem wHb_b {a k b : Nat} (hb : nb a k = (b : Int)) : wHb nb co d a k = true ↔ (0 < co b ∧ d b < wFar ∧ d a = g100 (co b) + d b) := by
  unfold wHb
  rw [hb, decide_eq_true_iff]
  exact ⟨fun h => h.2, fun h => ⟨by omega, h⟩⟩
theorem wDr_ok {a : Nat} (h : ∃ k, k < 4 ∧ wHb nb co d a k = true) : wDr nb co d a < 4 ∧ wHb nb co d a (wDr nb co d a) = true ∧ ∀ k, k < wDr nb co d a → ¬ wHb nb co d a k = true := by
  unfold wDr
  by_cases h0 : wHb nb co d a 0 = true
  · rw [if_pos h0]; exact ⟨by decide, h0, fun k hk => absurd hk (Nat.not_lt_zero _)⟩
  · rw [if_neg h0]
    by_cases h1 : wHb nb co d a 1 = true
    · rw [if_pos h1]
      refine ⟨by decide, h1, fun k hk => ?_⟩
      have : k = 0 := by omega
      rw [this]; exact h0
    · rw [if_neg h1]
      by_cases h2 : wHb nb co d a 2 = true
      · rw [if_pos h2]
        refine ⟨by decide, h2, fun k hk => ?_⟩
        have : k = 0 ∨ k = 1 := by omega
        rcases this with c | c <;> rw [c]
        · exact h0
        · exact h1
      · rw [if_neg h2]
        by_cases h3 : wHb nb co d a 3 = true
        · rw [if_pos h3]
          refine ⟨by decide, h3, fun k hk => ?_⟩
          have : k = 0 ∨ k = 1 ∨ k = 2 := by omega
          rcases this with c | c | c <;> rw [c]
          · exact h0
          · exact h1
          · exact h2
        · exfalso
          obtain ⟨k, hk, hh⟩ := h
          have : k = 0 ∨ k = 1 ∨ k = 2 ∨ k = 3 := by omega
          rcases this with c | c | c | c <;> rw [c] at hh
          · exact h0 hh
          · exact h1 hh
          · exact h2 hh
          · exact h3 hh
theorem wNx_ok (hok : wOk C nb) (h : wD C nb co g100 to d) {a : Nat} (ca : C a) (hat : a ≠ to) (fa : d a < wFar) : wDr nb co d a < 4 ∧ wHb nb co d a (wDr nb co d a) = true ∧ (∀ k, k < wDr nb co d a → ¬ wHb nb co d a k = true) ∧ C (wNx nb co d a) ∧ nb a (wDr nb co d a) = (wNx nb co d a : Int) ∧ 0 < co (wNx nb co d a) ∧ d (wNx nb co d a) < wFar ∧ d a = g100 (co (wNx nb co d a)) + d (wNx nb co d a) := by
  obtain ⟨b, cb, ⟨k, hk, e⟩, pb, fb, ee⟩ := h.suc ca hat fa
  obtain ⟨k1, k2, k3⟩ := wDr_ok ⟨k, hk, (wHb_b e).mpr ⟨pb, fb, ee⟩⟩
  obtain ⟨i0, i1, i2, i3⟩ := wHb_i k2
  refine ⟨k1, k2, k3, ?_, ?_, i1, i2, i3⟩
  · rcases hok.2 a _ ca k1 with q | ⟨b', cb', q, _⟩
    · omega
    · have : wNx nb co d a = b' := by unfold wNx; rw [q]; omega
      rw [this]; exact cb'
  · unfold wNx; omega
theorem wZ {a : Nat} (hco : ∀ a, C a → co a ≤ 14) (hC : ∀ a, C a → a < 48) (h : wD C nb co g100 to d) (ca : C a) (fa : d a < wFar) : d a % 100 = 0 ↔ a = to := by
  refine ⟨fun z => ?_, fun e => by rw [e, h.1]; decide⟩
  by_cases c : a = to
  · exact c
  · obtain ⟨b, cb, ab, pb, fb, ee⟩ := h.suc ca c fa
    have k := wsuc2 hC hco h ca cb fa fb ee
    have b0 := h.2.1.1 b cb
    omega
theorem wPt_ok (hok : wOk C nb) (hco : ∀ a, C a → co a ≤ 14) (h : wD C nb co g100 to d) {a : Nat} (ca : C a) (fa : d a < wFar) : ∀ i : Nat, (i : Int) ≤ d a % 100 → C (wPt nb co d a i) ∧ d (wPt nb co d a i) < wFar ∧ d (wPt nb co d a i) % 100 = d a % 100 - i := by
  intro i
  induction i with
  | zero => intro _; exact ⟨ca, fa, by show d a % 100 = d a % 100 - 0; omega⟩
  | succ i ih =>
    intro hi
    obtain ⟨c1, f1, n1⟩ := ih (by omega)
    have nt : wPt nb co d a i ≠ to := fun c => by
      have := (wZ hco hok.1 h c1 f1).mpr c
      omega
    obtain ⟨k1, k2, k3, k4, k5, k6, k7, k8⟩ := wNx_ok hok h c1 nt f1
    have k := wsuc2 hok.1 hco h c1 k4 f1 k7 k8
    refine ⟨k4, k7, ?_⟩
    show d (wNx nb co d (wPt nb co d a i)) % 100 = _
    omega
theorem wPt_to (hok : wOk C nb) (hco : ∀ a, C a → co a ≤ 14) (h : wD C nb co g100 to d) {a : Nat} (ca : C a) (fa : d a < wFar) {i : Nat} (hi : (i : Int) ≤ d a % 100) : wPt nb co d a i = to ↔ (i : Int) = d a % 100 := by
  obtain ⟨c1, f1, n1⟩ := wPt_ok hok hco h ca fa i hi
  have z := wZ hco hok.1 h c1 f1
  constructor
  · intro c
    have := z.mpr c
    omega
  · intro c
    exact z.mp (by omega)
/-- what the queue's weights need -/
theorem wE_n1 (hC : ∀ a, C a → a < 48) (hco : ∀ a, C a → co a ≤ 14) (h : wD C nb co g100 to d) : ∀ a b, C a → C b → wEe d a < wFar → wEe d b < wFar → wEe d a = g64 (co b) + wEe d b → wEe d a % 64 = wEe d b % 64 + 1 := by
  intro a b ca cb fa fb e
  have fb' := (wE_lt (h.2.1.1 b cb).1).mp fb
  have k := wE_m hC hco h cb fb'
  have k2 := wrank2 hC hco h cb fb'
  unfold g64 at e
  omega
theorem wE_47 (hC : ∀ a, C a → a < 48) (hco : ∀ a, C a → co a ≤ 14) (h : wD C nb co g100 to d) : ∀ a, C a → wEe d a < wFar → wEe d a % 64 ≤ 47 := by
  intro a ca fa
  have fa' := (wE_lt (h.2.1.1 a ca).1).mp fa
  have k := wE_m hC hco h ca fa'
  have k2 := wrank2 hC hco h ca fa'
  omega
theorem wE_0 : ∀ a, C a → wEe d a < wFar → 0 ≤ wEe d a % 64 := fun a _ _ => by omega
/-- the class's test at a cell whose weight is exact -/
theorem wHit (hok : wOk C nb) (hco : ∀ a, C a → co a ≤ 14) (h : wD C nb co g100 to d) (hle : ∀ a, C a → wEe d a ≤ f a) (hx : ∀ a, wGd C (wEe d) fr a → f a = wEe d a) {a b k : Nat} (ga : wGd C (wEe d) fr a) (fa : d a < wFar) (cb : C b) (hk : k < 4) (hb : nb a k = (b : Int)) : (0 < co b ∧ f b + co b * 64 + 1 = f a) ↔ wHb nb co d a k = true := by
  rw [wHb_b hb]
  have hE := wE_D hok.1 hco h
  have xa := hx a ga
  have la := wE_m hok.1 hco h ga.1 fa
  have ra := wrank2 hok.1 hco h ga.1 fa
  have ea := wE_f fa
  have b0 := h.2.1.1 b cb
  constructor
  · rintro ⟨pb, e⟩
    have lb := hle b cb
    have fb' : wEe d b < wFar := by
      have := (wE_lt (h.2.1.1 a ga.1).1).mpr fa
      omega
    have fb := (wE_lt b0.1).mp fb'
    have l := hE.2.2 a b ga.1 cb ⟨k, hk, hb⟩ pb fb'
    have rb := wrank2 hok.1 hco h cb fb
    have eb := wE_f fb
    unfold g64 at l
    refine ⟨pb, fb, ?_⟩
    unfold g100
    omega
  · rintro ⟨pb, fb, e⟩
    have k2 := wsuc2 hok.1 hco h ga.1 cb fa fb e
    have eb := wE_f fb
    have gb : wGd C (wEe d) fr b := by
      rcases ga.2 with l | l
      · exact ⟨cb, Or.inl (by omega)⟩
      · rw [← l]; exact ⟨cb, Or.inl (by omega)⟩
    have xb := hx b gb
    exact ⟨pb, by omega⟩
end W3
/-! BITS: a set of cells in a long; masks -/
def wB (z : Int) (x : Nat) : Bool := (Int64.ofInt z).toBitVec.getLsbD x
theorem wB1 : ∀ x : Nat, x < 48 → ∀ y : Nat, y < 48 → (zs64 0 (Int64.ofInt 1) (Int32.ofInt (x : Int))).toBitVec.getLsbD y = decide (y = x) := by decide +kernel
theorem wB2 : ∀ x : Nat, x < 48 → ∀ y : Nat, y < 48 → (zf64 5 (zs64 0 (Int64.ofInt 1) (Int32.ofInt (x : Int))) (Int64.ofInt (-1))).toBitVec.getLsbD y = !decide (y = x) := by decide +kernel
theorem wK1 : ∀ x : Nat, x < 48 → ((Int32.ofInt (x : Int)).toInt64.toUInt64 &&& Int64.toUInt64 63) = UInt64.ofNat x := by decide +kernel
theorem wK2 : ∀ x : Nat, x < 48 → ((UInt64.ofNat x).toBitVec % 64).toNat = x := by decide +kernel
theorem wB_or {z z' : Int} {y : Nat} : wB (v64 4 z z') y = (wB z y || wB z' y) := by
  unfold wB v64
  rw [Int64.ofInt_toInt]
  show (Int64.ofInt z ||| Int64.ofInt z').toBitVec.getLsbD y = _
  rw [Int64.toBitVec_or, BitVec.getLsbD_or]
theorem wB_and {z z' : Int} {y : Nat} : wB (v64 3 z z') y = (wB z y && wB z' y) := by
  unfold wB v64
  rw [Int64.ofInt_toInt]
  show (Int64.ofInt z &&& Int64.ofInt z').toBitVec.getLsbD y = _
  rw [Int64.toBitVec_and, BitVec.getLsbD_and]
theorem wB_bit {x y : Nat} (hx : x < 48) (hy : y < 48) : wB (vS 0 1 (x : Int)) y = decide (y = x) := by
  unfold wB vS
  rw [Int64.ofInt_toInt]
  exact wB1 x hx y hy
theorem wB_nbit {x y : Nat} (hx : x < 48) (hy : y < 48) : wB (v64 5 (vS 0 1 (x : Int)) (-1)) y = !decide (y = x) := by
  unfold wB vS v64
  rw [Int64.ofInt_toInt, Int64.ofInt_toInt]
  exact wB2 x hx y hy
theorem wB_set {z : Int} {x y : Nat} (hx : x < 48) (hy : y < 48) : wB (v64 4 z (vS 0 1 (x : Int))) y = (wB z y || decide (y = x)) := by rw [wB_or, wB_bit hx hy]
theorem wB_clr {z : Int} {x y : Nat} (hx : x < 48) (hy : y < 48) : wB (v64 3 z (v64 5 (vS 0 1 (x : Int)) (-1))) y = (wB z y && !decide (y = x)) := by rw [wB_and, wB_nbit hx hy]
theorem wB_tst {z : Int} {x : Nat} (hx : x < 48) : v64 3 (vS 1 z (x : Int)) 1 = if wB z x = true then 1 else 0 := by
  have h : (zf64 3 (zs64 1 (Int64.ofInt z) (Int32.ofInt (x : Int))) (Int64.ofInt 1)).toBitVec = BitVec.setWidth 64 (BitVec.ofBool (wB z x)) := by
    show ((Int64.ofInt z).toUInt64 >>> ((Int32.ofInt (x : Int)).toInt64.toUInt64 &&& Int64.toUInt64 63)).toBitVec &&& 1#64 = _
    rw [wK1 x hx, UInt64.toBitVec_shiftRight, BitVec.ushiftRight_eq', wK2 x hx, BitVec.and_one_eq_setWidth_ofBool_getLsbD, BitVec.getLsbD_ushiftRight, Nat.add_zero]
    rfl
  unfold v64 vS
  rw [Int64.ofInt_toInt]
  show (zf64 3 (zs64 1 (Int64.ofInt z) (Int32.ofInt (x : Int))) (Int64.ofInt 1)).toBitVec.toInt = _
  rw [h]
  cases wB z x <;> decide
theorem wB_0 : ∀ x : Nat, x < 48 → wB 0 x = false := by decide +kernel
theorem and7n : ∀ x : Nat, x < 64 → (zf32 3 (Int32.ofInt (x : Int)) (Int32.ofInt 7)).toInt = ((x % 8 : Nat) : Int) := by decide +kernel
theorem and63n : ∀ x : Nat, x < 128 → (zf32 3 (Int32.ofInt (x : Int)) (Int32.ofInt 63)).toInt = ((x % 64 : Nat) : Int) := by decide +kernel
theorem shr3n : ∀ x : Nat, x < 64 → (zf32 7 (Int32.ofInt (x : Int)) (Int32.ofInt 3)).toInt = ((x / 8 : Nat) : Int) := by decide +kernel
theorem and7 {x : Int} (h0 : 0 ≤ x) (h1 : x < 64) : (zf32 3 (Int32.ofInt x) (Int32.ofInt 7)).toInt = x % 8 := by
  obtain ⟨n, rfl⟩ : ∃ n : Nat, x = (n : Int) := ⟨x.toNat, by omega⟩
  rw [and7n n (by omega)]
  omega
theorem and63 {x : Int} (h0 : 0 ≤ x) (h1 : x < 128) : (zf32 3 (Int32.ofInt x) (Int32.ofInt 63)).toInt = x % 64 := by
  obtain ⟨n, rfl⟩ : ∃ n : Nat, x = (n : Int) := ⟨x.toNat, by omega⟩
  rw [and63n n (by omega)]
  omega
theorem shr3 {x : Int} (h0 : 0 ≤ x) (h1 : x < 64) : (zf32 7 (Int32.ofInt x) (Int32.ofInt 3)).toInt = x / 8 := by
  obtain ⟨n, rfl⟩ : ∃ n : Nat, x = (n : Int) := ⟨x.toNat, by omega⟩
  rw [shr3n n (by omega)]
  omega
end
section
/-! LANDS AND ALL THAT BECOMES OF THEM: what both sides come to (P 0: wide, rows, copies, companies, eaten; 1 letters, 2 rises, 3 states, 4 names, 5 home, 6 at, 7 goal, 8 by, 9 spent) -/
theorem v_aldB {D : zD} {T : zT} {N mi pc nx a b : Nat} {z : Int} {cs : List (Int × Nat)} {h : zH} {l : List (Option zV)} {S : List zV} {Q : zR → Prop} {t r n : Nat} {x i w : Int} {ty : FieldType} (hi : T mi pc = some (22, nx, a, b, z, cs)) (hx : x.toNat = r) (hs : zShape[r]? = some (.inl (ty, n))) (hc : (zcode ty != 4 && vTag (zcode ty) == t) = true) (he : 0 ≤ i → i < (n : Int) → (h r i.toNat).2 = w) (k : 0 ≤ i → i < (n : Int) → vP D T N mi nx h l ((t, w) :: S) Q) : vP D T N mi pc h l ((0, i) :: (2, x) :: S) Q := v_aldV hi hx hs (fun hv h1 h2 => (hv.at (by
  unfold vCode
  rw [hs]
  show (match (if i.toNat < n then some (zcode ty) else none) with
    | some c => c != 4 && vTag c == t
    | none => false) = true
  rw [if_pos (by omega)]
  exact hc)).trans (congrArg (Prod.mk t) (he h1 h2))) k
def gIn (P : PT) (q : Nat) : Prop := q < 48 ∧ ((q % 8 : Nat) : Int) < P 0 0 ∧ ((q / 8 : Nat) : Int) < P 0 1
def gIx (P : PT) (q : Nat) : Int := if ((q % 8 : Nat) : Int) < P 0 0 ∧ ((q / 8 : Nat) : Int) < P 0 1 then 1 else 0
theorem gIx_y {P : PT} {q : Nat} (h : gIn P q) : gIx P q = 1 := if_pos h.2
theorem gIx_n {P : PT} {q : Nat} (hq : q < 48) (h : ¬ gIn P q) : gIx P q = 0 := if_neg (fun c => h ⟨hq, c⟩)
theorem gIx_i {P : PT} {q : Nat} (hq : q < 48) (h : gIx P q ≠ 0) : gIn P q := by
  by_cases c : gIn P q
  · exact c
  · exact absurd (gIx_n hq c) h
def cBs (w r : Int) (q d : Nat) : Int := if d = 0 then (if ((q % 8 : Nat) : Int) + 1 < w then (q : Int) + 1 else -1) else if d = 1 then (if (q : Int) + 8 < r * 8 then (q : Int) + 8 else -1) else if d = 2 then (if 0 < q % 8 then (q : Int) - 1 else -1) else (if 8 ≤ q then (q : Int) - 8 else -1)
def gNb (P : PT) : Nat → Nat → Int := cBs (P 0 0) (P 0 1)
def gCr (P : PT) (q : Nat) : Int := crw (P 1 q) + P 2 q
def gGr (P : PT) (q : Nat) : Int := if P 1 q = 3 then 0 else gCr P q
def gSh (P : PT) (k q : Nat) : Int := if P 3 (48 * k + q) = 0 then gGr P q else if P 3 (48 * k + q) = 2 then 5 + P 2 q else 0
def gCo (P : PT) (k q : Nat) : Int := if gIx P q = 0 then 0 else gSh P k q
def gCg (P : PT) (q : Nat) : Int := if gIx P q = 0 then 0 else gGr P q
/-- what holds of every LAND: bounds -/
def fB (P : PT) : Prop := lB P ∧ (∀ q, q < 48 → (0 ≤ P 1 q ∧ P 1 q ≤ 4) ∧ (0 ≤ P 2 q ∧ P 2 q ≤ 9)) ∧ (∀ i, i < 144 → 0 ≤ P 3 i ∧ P 3 i ≤ 3) ∧ ∀ k : Nat, (k : Int) < P 0 3 → (0 ≤ P 5 k ∧ gIn P (P 5 k).toNat) ∧ (0 ≤ P 6 k ∧ gIn P (P 6 k).toNat) ∧ (0 ≤ P 7 k ∧ gIn P (P 7 k).toNat) ∧ (0 ≤ P 8 k ∧ P 8 k < P 0 2)
theorem crw_b {L : Int} : 1 ≤ crw L ∧ crw L ≤ 5 := by unfold crw; omega
theorem crw_e {L : Int} (h : L ≠ 3) : 1 ≤ crw L ∧ crw L ≤ 4 := by unfold crw; omega
theorem gCr_b {P : PT} (hb : fB P) {q : Nat} (hq : q < 48) : 1 ≤ gCr P q ∧ gCr P q ≤ 14 := by
  have := (hb.2.1 q hq).2
  have := crw_b (L := P 1 q)
  unfold gCr
  omega
theorem gGr_b {P : PT} (hb : fB P) {q : Nat} (hq : q < 48) : 0 ≤ gGr P q ∧ gGr P q ≤ 13 := by
  have := (hb.2.1 q hq).2
  unfold gGr gCr
  by_cases c : P 1 q = 3
  · rw [if_pos c]; omega
  · rw [if_neg c]
    have := crw_e c
    omega
theorem gSh_b {P : PT} (hb : fB P) {k q : Nat} (hq : q < 48) : 0 ≤ gSh P k q ∧ gSh P k q ≤ 14 := by
  have a := (hb.2.1 q hq).2
  have b := gGr_b hb hq
  unfold gSh
  split
  · omega
  · split <;> omega
theorem gCo_b {P : PT} (hb : fB P) {k q : Nat} (hq : q < 48) : 0 ≤ gCo P k q ∧ gCo P k q ≤ 14 := by
  have b := gSh_b hb (k := k) hq
  unfold gCo
  split <;> omega
theorem gCg_b {P : PT} (hb : fB P) {q : Nat} (hq : q < 48) : 0 ≤ gCg P q ∧ gCg P q ≤ 14 := by
  have b := gGr_b hb hq
  unfold gCg
  split <;> omega
theorem gOk {P : PT} (hb : lB P) : wOk (gIn P) (gNb P) := by
  obtain ⟨⟨w0, w8⟩, ⟨r0, r6⟩, _⟩ := hb
  refine ⟨fun a h => h.1, fun a d h hd => ?_⟩
  obtain ⟨h0, h1, h2⟩ := h
  have : d = 0 ∨ d = 1 ∨ d = 2 ∨ d = 3 := by omega
  rcases this with rfl | rfl | rfl | rfl
  · by_cases c : ((a % 8 : Nat) : Int) + 1 < P 0 0
    · refine Or.inr ⟨a + 1, ⟨by omega, by omega, by omega⟩, ?_, 2, by decide, ?_⟩
      · show cBs (P 0 0) (P 0 1) a 0 = _
        unfold cBs; rw [if_pos rfl, if_pos c]; omega
      · show cBs (P 0 0) (P 0 1) (a + 1) 2 = _
        unfold cBs; rw [if_neg (by decide), if_neg (by decide), if_pos rfl, if_pos (by omega)]; omega
    · refine Or.inl ?_
      show cBs (P 0 0) (P 0 1) a 0 = _
      unfold cBs; rw [if_pos rfl, if_neg c]
  · by_cases c : (a : Int) + 8 < P 0 1 * 8
    · refine Or.inr ⟨a + 8, ⟨by omega, by omega, by omega⟩, ?_, 3, by decide, ?_⟩
      · show cBs (P 0 0) (P 0 1) a 1 = _
        unfold cBs; rw [if_neg (by decide), if_pos rfl, if_pos c]; omega
      · show cBs (P 0 0) (P 0 1) (a + 8) 3 = _
        unfold cBs; rw [if_neg (by decide), if_neg (by decide), if_neg (by decide), if_pos (by omega)]; omega
    · refine Or.inl ?_
      show cBs (P 0 0) (P 0 1) a 1 = _
      unfold cBs; rw [if_neg (by decide), if_pos rfl, if_neg c]
  · by_cases c : 0 < a % 8
    · refine Or.inr ⟨a - 1, ⟨by omega, by omega, by omega⟩, ?_, 0, by decide, ?_⟩
      · show cBs (P 0 0) (P 0 1) a 2 = _
        unfold cBs; rw [if_neg (by decide), if_neg (by decide), if_pos rfl, if_pos c]; omega
      · show cBs (P 0 0) (P 0 1) (a - 1) 0 = _
        unfold cBs; rw [if_pos rfl, if_pos (by omega)]; omega
    · refine Or.inl ?_
      show cBs (P 0 0) (P 0 1) a 2 = _
      unfold cBs; rw [if_neg (by decide), if_neg (by decide), if_pos rfl, if_neg c]
  · by_cases c : 8 ≤ a
    · refine Or.inr ⟨a - 8, ⟨by omega, by omega, by omega⟩, ?_, 1, by decide, ?_⟩
      · show cBs (P 0 0) (P 0 1) a 3 = _
        unfold cBs; rw [if_neg (by decide), if_neg (by decide), if_neg (by decide), if_pos c]; omega
      · show cBs (P 0 0) (P 0 1) (a - 8) 1 = _
        unfold cBs; rw [if_neg (by decide), if_pos rfl, if_pos (by omega)]; omega
    · refine Or.inl ?_
      show cBs (P 0 0) (P 0 1) a 3 = _
      unfold cBs; rw [if_neg (by decide), if_neg (by decide), if_neg (by decide), if_neg c]
/-! THE QUEUE'S LOOPS, PURE -/
def wOS (C : Nat → Prop) (nb : Nat → Nat → Int) (co d : Nat → Int) (to fr tk : Nat) (f : Nat → Int) (q : List Nat) : Prop := wQ C nb co to f q ∧ wRx C nb co fr f q (fun _ _ => True) ∧ wPh C (wEe d) fr tk f q ∧ ∀ i, i < 48 → 0 ≤ f i ∧ f i ≤ wFar
def wIS (C : Nat → Prop) (nb : Nat → Nat → Int) (co d : Nat → Int) (to fr tk b m : Nat) (f : Nat → Int) (q : List Nat) : Prop := wQ C nb co to f q ∧ (C b ∧ b ∉ q ∧ f b < wFar) ∧ wRx C nb co fr f q (fun x k => x ≠ b ∨ k < m) ∧ wPh C (wEe d) fr (tk + 1) f q ∧ ∀ i, i < 48 → 0 ≤ f i ∧ f i ≤ wFar
section W5
variable {C : Nat → Prop} {nb : Nat → Nat → Int} {co d : Nat → Int} {to fr tk b m : Nat} {f : Nat → Int} {q : List Nat}
theorem wLow (hok : wOk C nb) (hco : ∀ a, C a → co a ≤ 14) (hD : wD C nb co g100 to d) (hq : wQ C nb co to f q) : ∀ a, C a → wEe d a ≤ f a := fun a ca => wlow g64_p (wE_D hok.1 hco hD) hq.2.1 _ a ca rfl
theorem wOS_ini (hok : wOk C nb) (hco : ∀ a, C a → co a ≤ 14) (hD : wD C nb co g100 to d) (ct : C to) : wOS C nb co d to fr 0 (fun x => if x = to then 0 else wFar) [to] := by
  refine ⟨wIni_q ct, wIni_r, wIni_p (wE_D hok.1 hco hD) (wE_n1 hok.1 hco hD) wE_0, fun i _ => ?_⟩
  show 0 ≤ (if i = to then (0 : Int) else wFar) ∧ (if i = to then (0 : Int) else wFar) ≤ wFar
  unfold wFar
  split <;> omega
theorem wOS_pop (hok : wOk C nb) (hco : ∀ a, C a → co a ≤ 14) (hD : wD C nb co g100 to d) (hf : C fr) (h : wOS C nb co d to fr tk f (b :: q)) : wIS C nb co d to fr tk b 0 f q := by
  obtain ⟨hq, hr, hp, hb⟩ := h
  have hnd := List.nodup_cons.mp hq.2.2.1
  have hm := hq.2.2.2 b List.mem_cons_self
  refine ⟨⟨hq.1, hq.2.1, hnd.2, fun x hx => hq.2.2.2 x (List.mem_cons_of_mem _ hx)⟩, ⟨hm.1, hnd.1, hm.2⟩, fun x k a cx hx hk hR px fx hn => ?_, ?_, hb⟩
  · rcases hR with c | c
    · exact hr x k a cx (fun g => by
        rcases List.mem_cons.mp g with e | e
        · exact c e
        · exact hx e) hk trivial px fx hn
    · exact absurd c (Nat.not_lt_zero _)
  · exact wPop_p hok (wE_D hok.1 hco hD) (wE_n1 hok.1 hco hD) wE_0 hf (wLow hok hco hD hq) hq hr hp
theorem wIS_end (h : wIS C nb co d to fr tk b m f q) (he : 4 ≤ m ∨ co b ≤ 0) : wOS C nb co d to fr (tk + 1) f q := by
  obtain ⟨hq, hb, hr, hp, hbd⟩ := h
  refine ⟨hq, fun x k a cx hx hk _ px fx hn => ?_, hp, hbd⟩
  refine hr x k a cx hx hk ?_ px fx hn
  by_cases c : x = b
  · rcases he with e | e
    · exact Or.inr (by omega)
    · rw [c] at px; omega
  · exact Or.inl c
theorem wIS_stay (h : wIS C nb co d to fr tk b m f q) (hs : ∀ a : Nat, nb b m = (a : Int) → f a ≤ g64 (co b) + f b ∨ f fr ≤ g64 (co b) + f b) : wIS C nb co d to fr tk b (m + 1) f q := by
  obtain ⟨hq, hb, hr, hp, hbd⟩ := h
  refine ⟨hq, hb, fun x k a cx hx hk hR px fx hn => ?_, hp, hbd⟩
  by_cases c : x = b
  · by_cases c2 : k < m
    · exact hr x k a cx hx hk (Or.inr c2) px fx hn
    · have : k = m := by
        rcases hR with e | e
        · exact absurd c e
        · omega
      subst this
      subst c
      exact hs a hn
  · exact hr x k a cx hx hk (Or.inl c) px fx hn
theorem wIS_push (hok : wOk C nb) (hco : ∀ a, C a → co a ≤ 14) (hD : wD C nb co g100 to d) (hf : C fr) (hm : m < 4) (h : wIS C nb co d to fr tk b m f q) {near : Nat} (cn : C near) (pb : 0 < co b) (hn : nb b m = (near : Int)) {w : Int} (hw : w = g64 (co b) + f b) (h1 : w < f near) (h2 : w < f fr) : wIS C nb co d to fr tk b (m + 1) (wPush near w (f, q)).1 (wPush near w (f, q)).2 := by
  obtain ⟨hq, hb, hr, hp, hbd⟩ := h
  have gp := g64_p _ pb
  have bb := hq.2.1.1 b hb.1
  have hE := wE_D hok.1 hco hD
  have lo := wLow hok hco hD hq
  have hbn : b ≠ near := fun c => by rw [c] at hw gp; omega
  have fb : (wPush near w (f, q)).1 b = f b := if_neg hbn
  refine ⟨wPush_q hq hok hb.1 cn hm hn pb hb.2.2 hw h1, ⟨hb.1, ?_, by rw [fb]; exact hb.2.2⟩, ?_, ?_, fun i hi => ?_⟩
  · show b ∉ (if near ∈ q then q else q ++ [near])
    by_cases c : near ∈ q
    · rw [if_pos c]; exact hb.2.1
    · rw [if_neg c]
      intro g
      rcases List.mem_append.mp g with e | e
      · exact hb.2.1 e
      · exact hbn (List.mem_singleton.mp e)
  · intro x k a cx hx hk hR px fx hn'
    by_cases c : x = b
    · by_cases c2 : k < m
      · exact wPush_r hr h1 x k a cx hx hk (Or.inr c2) px fx hn'
      · have : k = m := by
          rcases hR with e | e
          · exact absurd c e
          · omega
        subst this
        subst c
        have : a = near := by rw [hn] at hn'; omega
        subst this
        rw [fb]
        refine Or.inl ?_
        show (if a = a then w else f a) ≤ _
        rw [if_pos rfl]
        omega
    · exact wPush_r hr h1 x k a cx hx hk (Or.inl c) px fx hn'
  · refine wPush_p hf lo (fun a ca => wE_47 hok.1 hco hD a ca) (hE.2.1.1 fr hf).2 hp cn ?_ h1 h2
    have l := hE.2.2 near b cn hb.1 (hok.sym hb.1 ⟨m, hm, hn⟩).1 pb (by have := lo b hb.1; omega)
    have := lo b hb.1
    omega
  · show 0 ≤ (if i = near then w else f i) ∧ (if i = near then w else f i) ≤ wFar
    have := hbd i hi
    by_cases c : i = near
    · have bn := hq.2.1.1 near cn
      rw [if_pos c]
      omega
    · rw [if_neg c]; exact this
theorem wOS_end (hok : wOk C nb) (hco : ∀ a, C a → co a ≤ 14) (hD : wD C nb co g100 to d) (hf : C fr) (h : wOS C nb co d to fr tk f []) : ∀ a, wGd C (wEe d) fr a → f a = wEe d a := by
  obtain ⟨hq, hr, hp, hb⟩ := h
  exact wEnd_p hok (wE_D hok.1 hco hD) (wE_n1 hok.1 hco hD) wE_0 (wE_47 hok.1 hco hD) hf hq.1 (wLow hok hco hD hq) hr hp
theorem wOS_full (hok : wOk C nb) (h : wOS C nb co d to fr 2304 f (b :: q)) : False := wFull_p hok h.1 h.2.2.1
end W5
/-! THE QUEUE IN THE HEAP -/
def wHp (h : zH) (f : Nat → Int) (q : List Nat) : Prop := (∀ i, i < 48 → h 102 i = (0, f i)) ∧ ∃ (hd : Nat) (z : Int), h 100 3 = (1, z) ∧ h 100 4 = (0, (hd : Int)) ∧ h 100 5 = (0, (((hd + q.length) % 64 : Nat) : Int)) ∧ hd < 64 ∧ (∀ i, i < q.length → h 103 ((hd + i) % 64) = (0, ((q.getD i 0 : Nat) : Int))) ∧ ∀ x, x < 48 → wB z x = decide (x ∈ q)
def mFr (h0 h : zH) : Prop := ∀ a b, ¬ ((a = 100 ∧ 3 ≤ b ∧ b ≤ 5) ∨ a = 102 ∨ a = 103) → h a b = h0 a b
theorem mFr.z {h0 h : zH} {a b : Nat} {v : zV} (ha : (a = 100 ∧ 3 ≤ b ∧ b ≤ 5) ∨ a = 102 ∨ a = 103) (g : mFr h0 h) : mFr h0 (zset h a b v) := fun x y hn => (zset_ne (fun c => hn (by omega))).trans (g x y hn)
theorem wHp_pop {h : zH} {f : Nat → Int} {b hd : Nat} {q : List Nat} {z : Int} (hb : b < 48) (hnd : b ∉ q) (g : wHp h f (b :: q)) (e3 : h 100 3 = (1, z)) (e4 : h 100 4 = (0, (hd : Int))) : wHp (zset (zset h 100 4 (0, (((hd : Int) + 1) % 64))) 100 3 (1, (v64 3 z ((v64 5 ((vS 0 1 ((b : Int)))) (-1)))))) f q := by
  obtain ⟨g1, hd', z', a3, a4, a5, a6, a7, a8⟩ := g
  have ez : z' = z := by rw [e3] at a3; exact (congrArg Prod.snd a3).symm
  have eh : hd' = hd := by
    rw [e4] at a4
    have : (hd : Int) = (hd' : Int) := congrArg Prod.snd a4
    omega
  subst ez eh
  have l : (b :: q).length = q.length + 1 := rfl
  rw [l] at a5 a7
  refine ⟨fun i hi => (zset_ne (by omega)).trans ((zset_ne (by omega)).trans (g1 i hi)), (hd' + 1) % 64, _, zset_same, ?_, ?_, by omega, fun i hi => ?_, fun x hx => ?_⟩
  · refine (zset_ne (by omega)).trans (zset_same.trans ?_)
    rw [show (((hd' + 1) % 64 : Nat) : Int) = ((hd' : Int) + 1) % 64 by omega]
  · refine (zset_ne (by omega)).trans ((zset_ne (by omega)).trans (a5.trans ?_))
    rw [show ((hd' + 1) % 64 + q.length) % 64 = (hd' + (q.length + 1)) % 64 by omega]
  · refine (zset_ne (by omega)).trans ((zset_ne (by omega)).trans ?_)
    rw [show ((hd' + 1) % 64 + i) % 64 = (hd' + (i + 1)) % 64 by omega]
    exact a7 (i + 1) (by omega)
  · rw [wB_clr hb hx, a8 x hx]
    by_cases c : x = b
    · rw [c]
      simp [hnd]
    · simp [c]
theorem wHp_far {h : zH} {f : Nat → Int} {q : List Nat} {near : Nat} {w : Int} (hm : near ∈ q) (g : wHp h f q) : wHp (zset h 102 near (0, w)) (wPush near w (f, q)).1 (wPush near w (f, q)).2 := by
  obtain ⟨g1, hd, z, a3, a4, a5, a6, a7, a8⟩ := g
  have e : (wPush near w (f, q)).2 = q := if_pos hm
  rw [e]
  refine ⟨fun i hi => ?_, hd, z, (zset_ne (by omega)).trans a3, (zset_ne (by omega)).trans a4, (zset_ne (by omega)).trans a5, a6, fun i hi => (zset_ne (by omega)).trans (a7 i hi), a8⟩
  show zset h 102 near (0, w) 102 i = (0, if i = near then w else f i)
  by_cases c : i = near
  · rw [c, if_pos rfl]; exact zset_same
  · rw [if_neg c]; exact (zset_ne (fun e => c e.2)).trans (g1 i hi)
theorem getD_app {q : List Nat} {x i : Nat} (hi : i < q.length) : (q ++ [x]).getD i 0 = q.getD i 0 := by
  simp [List.getD_eq_getElem?_getD, List.getElem?_append_left hi]
theorem getD_app2 {q : List Nat} {x : Nat} : (q ++ [x]).getD q.length 0 = x := by
  simp [List.getD_eq_getElem?_getD]
theorem wHp_push {h : zH} {f : Nat → Int} {q : List Nat} {near tl : Nat} {w z : Int} (hn : near < 48) (hm : near ∉ q) (hl : q.length < 63) (g : wHp h f q) (e3 : h 100 3 = (1, z)) (e5 : h 100 5 = (0, (tl : Int))) : wHp (zset (zset (zset (zset h 102 near (0, w)) 100 3 (1, (v64 4 z ((vS 0 1 ((near : Int))))))) 103 tl (0, (near : Int))) 100 5 (0, (((tl : Int) + 1) % 64))) (wPush near w (f, q)).1 (wPush near w (f, q)).2 := by
  obtain ⟨g1, hd, z', a3, a4, a5, a6, a7, a8⟩ := g
  have ez : z' = z := by rw [e3] at a3; exact (congrArg Prod.snd a3).symm
  have et : tl = (hd + q.length) % 64 := by
    rw [e5] at a5
    have : (tl : Int) = (((hd + q.length) % 64 : Nat) : Int) := congrArg Prod.snd a5
    omega
  subst ez
  have e : (wPush near w (f, q)).2 = q ++ [near] := if_neg hm
  have l : (q ++ [near]).length = q.length + 1 := by simp
  rw [e]
  refine ⟨fun i hi => ?_, hd, _, (zset_ne (by omega)).trans ((zset_ne (by omega)).trans zset_same), (zset_ne (by omega)).trans ((zset_ne (by omega)).trans ((zset_ne (by omega)).trans ((zset_ne (by omega)).trans a4))), zset_same.trans ?_, a6, fun i hi => ?_, fun x hx => ?_⟩
  · refine (zset_ne (by omega)).trans ((zset_ne (by omega)).trans ((zset_ne (by omega)).trans ?_))
    show zset h 102 near (0, w) 102 i = (0, if i = near then w else f i)
    by_cases c : i = near
    · rw [c, if_pos rfl]; exact zset_same
    · rw [if_neg c]; exact (zset_ne (fun e => c e.2)).trans (g1 i hi)
  · rw [l, show (((hd + (q.length + 1)) % 64 : Nat) : Int) = ((tl : Int) + 1) % 64 by omega]
  · rw [l] at hi
    refine (zset_ne (by omega)).trans ?_
    by_cases c : i = q.length
    · rw [c, getD_app2, ← et]
      exact zset_same
    · rw [getD_app (by omega)]
      exact (zset_ne (by omega)).trans ((zset_ne (by omega)).trans ((zset_ne (by omega)).trans (a7 i (by omega))))
  · rw [wB_set hn hx, a8 x hx]
    by_cases c : x = near
    · simp [c]
    · simp [c]
/-! THE ROW IN THE HEAP -/
def tFr (h0 h : zH) : Prop := ∀ a b, ¬ ((a = 100 ∧ 7 ≤ b ∧ b ≤ 8) ∨ a = 104) → h a b = h0 a b
theorem tFr.z {h0 h : zH} {a b : Nat} {v : zV} (ha : (a = 100 ∧ 7 ≤ b ∧ b ≤ 8) ∨ a = 104) (g : tFr h0 h) : tFr h0 (zset h a b v) := fun x y hn => (zset_ne (fun c => hn (by omega))).trans (g x y hn)
theorem tFr.rf {h : zH} : tFr h h := fun _ _ _ => rfl
def tHp (p : Nat → Nat) (n : Nat) (h : zH) : Prop := (∀ i, i ≤ n → h 104 i = (0, ((p i : Nat) : Int))) ∧ h 100 7 = (0, (n : Int)) ∧ ∃ z : Int, h 100 8 = (1, z) ∧ ∀ x, x < 48 → (wB z x = true ↔ ∃ i, 1 ≤ i ∧ i ≤ n ∧ p i = x)
theorem tHp_0 {h : zH} {fr : Nat} {p : Nat → Nat} (hp : p 0 = fr) : tHp p 0 (zset (zset (zset h 100 7 (0, 0)) 104 0 (0, (fr : Int))) 100 8 (1, 0)) := by
  refine ⟨fun i hi => ?_, (zset_ne (by omega)).trans ((zset_ne (by omega)).trans zset_same), 0, zset_same, fun x hx => ?_⟩
  · have : i = 0 := by omega
    subst this
    rw [hp]
    exact (zset_ne (by omega)).trans zset_same
  · rw [wB_0 x hx]
    exact ⟨fun c => absurd c (by decide), fun ⟨i, h1, h2, _⟩ => by omega⟩
theorem tHp_s {h : zH} {p : Nat → Nat} {n : Nat} {z : Int} (hp : p (n + 1) < 48) (g : tHp p n h) (e8 : h 100 8 = (1, z)) : tHp p (n + 1) (zset (zset (zset h 104 (n + 1) (0, ((p (n + 1) : Nat) : Int))) 100 7 (0, ((n + 1 : Nat) : Int))) 100 8 (1, (v64 4 z ((vS 0 1 ((p (n + 1) : Nat) : Int)))))) := by
  obtain ⟨g1, g2, z', g3, g4⟩ := g
  have ez : z' = z := by rw [e8] at g3; exact (congrArg Prod.snd g3).symm
  subst ez
  refine ⟨fun i hi => ?_, (zset_ne (by omega)).trans zset_same, _, zset_same, fun x hx => ?_⟩
  · refine (zset_ne (by omega)).trans ((zset_ne (by omega)).trans ?_)
    by_cases c : i = n + 1
    · rw [c]; exact zset_same
    · exact (zset_ne (fun e => c e.2)).trans (g1 i (by omega))
  · rw [wB_set hp hx, Bool.or_eq_true, decide_eq_true_iff, g4 x hx]
    constructor
    · rintro (⟨i, h1, h2, h3⟩ | c)
      · exact ⟨i, h1, by omega, h3⟩
      · exact ⟨n + 1, by omega, Nat.le_refl _, c.symm⟩
    · rintro ⟨i, h1, h2, h3⟩
      by_cases c : i = n + 1
      · subst c; exact Or.inr h3.symm
      · exact Or.inl ⟨i, h1, by omega, h3⟩
/-! THE TRUE WEIGHTS OF A LAND -/
noncomputable def dW (P : PT) (co : Nat → Int) (to : Nat) : Nat → Int := Classical.choose (wD_ex (C := gIn P) (nb := gNb P) (co := co) (g := g100) (to := to) g100_p (fun _ h => h.1))
theorem dW_ok {P : PT} {co : Nat → Int} {to : Nat} : wD (gIn P) (gNb P) co g100 to (dW P co to) := Classical.choose_spec (wD_ex (C := gIn P) (nb := gNb P) (co := co) (g := g100) (to := to) g100_p (fun _ h => h.1))
noncomputable def yCost (P : PT) (co : Nat → Int) (fr to : Nat) : Int := if dW P co to fr < wFar then dW P co to fr / 100 else -1
noncomputable def yN (P : PT) (co : Nat → Int) (fr to : Nat) : Nat := (dW P co to fr % 100).toNat
noncomputable def yPt (P : PT) (co : Nat → Int) (fr to : Nat) : Nat → Nat := wPt (gNb P) co (dW P co to) fr
def yOK (P : PT) (co : Nat → Int) (fr to : Nat) (g : zH) : Prop := (yCost P co fr to = -1 → g 100 8 = (1, 0)) ∧ (dW P co to fr < wFar → tHp (yPt P co fr to) (yN P co fr to) g)
def wFr (h0 h : zH) : Prop := ∀ a b, ¬ ((a = 100 ∧ 3 ≤ b) ∨ (102 ≤ a ∧ a ≤ 104)) → h a b = h0 a b
def wFr1 (h0 h : zH) : Prop := ∀ a b, ¬ ((a = 100 ∧ 3 ≤ b) ∨ (101 ≤ a ∧ a ≤ 104)) → h a b = h0 a b
theorem yCost_f {P : PT} {co : Nat → Int} {fr to : Nat} (g : gIn P fr) : 0 ≤ yCost P co fr to ↔ dW P co to fr < wFar := by
  unfold yCost
  have b := (dW_ok (P := P) (co := co) (to := to)).2.1.1 fr g
  by_cases c : dW P co to fr < wFar
  · rw [if_pos c]; omega
  · rw [if_neg c]; omega
theorem yCost_n {P : PT} {co : Nat → Int} {fr to : Nat} (g : gIn P fr) : yCost P co fr to = -1 ↔ ¬ 0 ≤ yCost P co fr to := by
  unfold yCost
  have b := (dW_ok (P := P) (co := co) (to := to)).2.1.1 fr g
  by_cases c : dW P co to fr < wFar
  · rw [if_pos c]; omega
  · rw [if_neg c]; omega
/-- the row lies in cells, and is short -/
theorem yPt_ok {P : PT} {j fr to : Nat} (hb : fB P) (g : gIn P fr) (hc : 0 ≤ yCost P (gCo P j) fr to) : yN P (gCo P j) fr to ≤ 47 ∧ ∀ i, i ≤ yN P (gCo P j) fr to → gIn P (yPt P (gCo P j) fr to i) := by
  have ff := (yCost_f g).mp hc
  have hok := gOk hb.1
  have hco : ∀ a, gIn P a → gCo P j a ≤ 14 := fun a ga => (gCo_b hb ga.1).2
  have r := wrank2 hok.1 hco dW_ok g ff
  have e : ((yN P (gCo P j) fr to : Nat) : Int) = dW P (gCo P j) to fr % 100 := by
    unfold yN
    omega
  refine ⟨by omega, fun i hi => (wPt_ok hok hco dW_ok g ff i (by omega)).1⟩
end
section
theorem cb_eq {h : zH} {Q : zR → Prop} {a b : Int} (k : Q (h, some (0, a))) (e : a = b) : Q (h, some (0, b)) := e ▸ k
section CPA
variable {r : Nat} {P : PT} {h : zH}
theorem cP.a6 (g : cP r P h) (k : Nat) (hk : (k : Int) < P 0 3) : h (r + 6) k = (0, P 6 k) := (g.2.2.2.2 k hk).2.2.1
theorem cP.a7 (g : cP r P h) (k : Nat) (hk : (k : Int) < P 0 3) : h (r + 7) k = (0, P 7 k) := (g.2.2.2.2 k hk).2.2.2.1
theorem cP.a8 (g : cP r P h) (k : Nat) (hk : (k : Int) < P 0 3) : h (r + 8) k = (0, P 8 k) := (g.2.2.2.2 k hk).2.2.2.2.1
theorem cP.a9 (g : cP r P h) (k : Nat) (hk : (k : Int) < P 0 3) : h (r + 9) k = (0, P 9 k) := (g.2.2.2.2 k hk).2.2.2.2.2
end CPA
theorem qk_bes_24 {D : zD} {T : zT} (hT : hTab T) (hO : vOK T) {N : Nat} {h : zH} {Q : zR → Prop} {P : PT} {q d : Nat} (hv0 : zHv h) (p0 : h 24 0 = (0, P 0 0)) (p1 : h 24 1 = (0, P 0 1)) (hq : q < 48) (lb : (0 ≤ P 0 0 ∧ P 0 0 ≤ 8) ∧ (0 ≤ P 0 1 ∧ P 0 1 ≤ 6) ∧ (0 ≤ P 0 2 ∧ P 0 2 ≤ 3) ∧ (0 ≤ P 0 3 ∧ P 0 3 ≤ 6))
    (k0 : ((d : Int) = 0) → ((((q : Int) % 8) + 1) < (P 0 0)) → Q (h, some (0, ((q : Int) + 1))))
    (k1 : ((d : Int) = 0) → ((P 0 0) ≤ (((q : Int) % 8) + 1)) → Q (h, some (0, -1)))
    (k2 : ((d : Int) ≠ 0) → ((d : Int) = 1) → (((q : Int) + 8) < ((P 0 1) * 8)) → Q (h, some (0, ((q : Int) + 8))))
    (k3 : ((d : Int) ≠ 0) → ((d : Int) = 1) → (((P 0 1) * 8) ≤ ((q : Int) + 8)) → Q (h, some (0, -1)))
    (k4 : ((d : Int) ≠ 0) → ((d : Int) ≠ 1) → ((d : Int) = 2) → (0 < ((q : Int) % 8)) → Q (h, some (0, ((q : Int) - 1))))
    (k5 : ((d : Int) ≠ 0) → ((d : Int) ≠ 1) → ((d : Int) = 2) → (((q : Int) % 8) ≤ 0) → Q (h, some (0, -1)))
    (k6 : ((d : Int) ≠ 0) → ((d : Int) ≠ 1) → ((d : Int) ≠ 2) → ((q : Int) < 8) → Q (h, some (0, -1)))
    (k7 : ((d : Int) ≠ 0) → ((d : Int) ≠ 1) → ((d : Int) ≠ 2) → (8 ≤ (q : Int)) → Q (h, some (0, ((q : Int) - 8)))) :
    vP D T N 27 0 h [some (2, 24), some (0, (q : Int)), some (0, (d : Int)), none] [] Q := by
  refine v_load (v := (0, (q : Int))) (hz_X2_beside hT _ _ rfl) rfl rfl ?_
  refine v_push (7) (hz_X2_beside hT _ _ rfl) rfl ?_
  refine v_bin (w := ((q : Int) % 8)) (hz_X2_beside hT _ _ rfl) (and7 (by omega) (by omega)) ?_
  refine v_store1 [some (2, 24), some (0, (q : Int)), some (0, (d : Int)), some (0, ((q : Int) % 8))] (hz_X2_beside hT _ _ rfl) ⟨rfl, Nat.ne_of_beq_eq_false rfl⟩ (Nat.le_of_ble_eq_true rfl) rfl ?_
  refine v_load (v := (0, (d : Int))) (hz_X2_beside hT _ _ rfl) rfl rfl ?_
  refine v_sw (hz_X2_beside hT _ _ rfl) ?_
  refine ⟨fun hc1 => ?_, fun hc1 => ?_⟩
  · have hc1 : (d : Int) = 0 := hc1
    refine v_load (v := (0, ((q : Int) % 8))) (hz_X2_beside hT _ _ rfl) rfl rfl ?_
    refine v_push (1) (hz_X2_beside hT _ _ rfl) rfl ?_
    refine v_bin (w := (((q : Int) % 8) + 1)) (hz_X2_beside hT _ _ rfl) (hq_add (by omega) (by omega)) ?_
    refine v_load (v := (2, 24)) (hz_X2_beside hT _ _ rfl) rfl rfl ?_
    refine v_getf (v := (0, (P 0 0))) (r := 24) (hz_X2_beside hT _ _ rfl) rfl rfl (fun _ => p0) ?_
    refine v_ic (hz_X2_beside hT _ _ rfl) (fun hc2 => ?_) (fun hc2 => ?_)
    · have hc2 : (((q : Int) % 8) + 1) < (P 0 0) := hc2
      refine v_load (v := (0, (q : Int))) (hz_X2_beside hT _ _ rfl) rfl rfl ?_
      refine v_push (1) (hz_X2_beside hT _ _ rfl) rfl ?_
      refine v_bin (w := ((q : Int) + 1)) (hz_X2_beside hT _ _ rfl) (hq_add (by omega) (by omega)) ?_
      refine v_goto (hz_X2_beside hT _ _ rfl) ?_
      refine v_ret (hi_X2_beside_49 hT) (Or.inl rfl) ?_
      exact k0 hc1 hc2
    · have hc2 : (P 0 0) ≤ (((q : Int) % 8) + 1) := Int.not_lt.mp hc2
      refine v_push (-1) (hz_X2_beside hT _ _ rfl) rfl ?_
      refine v_ret (hi_X2_beside_49 hT) (Or.inl rfl) ?_
      exact k1 hc1 hc2
  refine ⟨fun hc3 => ?_, fun hc3 => ?_⟩
  · have hc3 : (d : Int) = 1 := hc3
    refine v_load (v := (0, (q : Int))) (hz_X2_beside hT _ _ rfl) rfl rfl ?_
    refine v_push (8) (hz_X2_beside hT _ _ rfl) rfl ?_
    refine v_bin (w := ((q : Int) + 8)) (hz_X2_beside hT _ _ rfl) (hq_add (by omega) (by omega)) ?_
    refine v_load (v := (2, 24)) (hz_X2_beside hT _ _ rfl) rfl rfl ?_
    refine v_getf (v := (0, (P 0 1))) (r := 24) (hz_X2_beside hT _ _ rfl) rfl rfl (fun _ => p1) ?_
    refine v_push (8) (hz_X2_beside hT _ _ rfl) rfl ?_
    refine v_bin (w := ((P 0 1) * 8)) (hz_X2_beside hT _ _ rfl) (hq_mul (by omega) (by omega)) ?_
    refine v_ic (hz_X2_beside hT _ _ rfl) (fun hc4 => ?_) (fun hc4 => ?_)
    · have hc4 : ((q : Int) + 8) < ((P 0 1) * 8) := hc4
      refine v_load (v := (0, (q : Int))) (hz_X2_beside hT _ _ rfl) rfl rfl ?_
      refine v_push (8) (hz_X2_beside hT _ _ rfl) rfl ?_
      refine v_bin (w := ((q : Int) + 8)) (hz_X2_beside hT _ _ rfl) (hq_add (by omega) (by omega)) ?_
      refine v_goto (hz_X2_beside hT _ _ rfl) ?_
      refine v_ret (hi_X2_beside_72 hT) (Or.inl rfl) ?_
      exact k2 hc1 hc3 hc4
    · have hc4 : ((P 0 1) * 8) ≤ ((q : Int) + 8) := Int.not_lt.mp hc4
      refine v_push (-1) (hz_X2_beside hT _ _ rfl) rfl ?_
      refine v_ret (hi_X2_beside_72 hT) (Or.inl rfl) ?_
      exact k3 hc1 hc3 hc4
  refine ⟨fun hc5 => ?_, fun hc5 => ?_⟩
  · have hc5 : (d : Int) = 2 := hc5
    refine v_load (v := (0, ((q : Int) % 8))) (hz_X2_beside hT _ _ rfl) rfl rfl ?_
    refine v_if (hz_X2_beside hT _ _ rfl) (fun hc6 => ?_) (fun hc6 => ?_)
    · have hc6 : 0 < ((q : Int) % 8) := hc6
      refine v_load (v := (0, (q : Int))) (hz_X2_beside hT _ _ rfl) rfl rfl ?_
      refine v_push (1) (hz_X2_beside hT _ _ rfl) rfl ?_
      refine v_bin (w := ((q : Int) - 1)) (hz_X2_beside hT _ _ rfl) (hq_sub (by omega) (by omega)) ?_
      refine v_goto (hz_X2_beside hT _ _ rfl) ?_
      refine v_ret (hi_X2_beside_84 hT) (Or.inl rfl) ?_
      exact k4 hc1 hc3 hc5 hc6
    · have hc6 : ((q : Int) % 8) ≤ 0 := Int.not_lt.mp hc6
      refine v_push (-1) (hz_X2_beside hT _ _ rfl) rfl ?_
      refine v_ret (hi_X2_beside_84 hT) (Or.inl rfl) ?_
      exact k5 hc1 hc3 hc5 hc6
  show vP _ _ _ _ _ _ _ _ _
  refine v_load (v := (0, (q : Int))) (hz_X2_beside hT _ _ rfl) rfl rfl ?_
  refine v_push (8) (hz_X2_beside hT _ _ rfl) rfl ?_
  refine v_ic (hz_X2_beside hT _ _ rfl) (fun hc7 => ?_) (fun hc7 => ?_)
  · have hc7 : (q : Int) < 8 := hc7
    refine v_push (-1) (hz_X2_beside hT _ _ rfl) rfl ?_
    refine v_ret (hi_X2_beside_99 hT) (Or.inl rfl) ?_
    exact k6 hc1 hc3 hc5 hc7
  · have hc7 : 8 ≤ (q : Int) := Int.not_lt.mp hc7
    refine v_load (v := (0, (q : Int))) (hz_X2_beside hT _ _ rfl) rfl rfl ?_
    refine v_push (8) (hz_X2_beside hT _ _ rfl) rfl ?_
    refine v_bin (w := ((q : Int) - 8)) (hz_X2_beside hT _ _ rfl) (hq_sub (by omega) (by omega)) ?_
    refine v_goto (hz_X2_beside hT _ _ rfl) ?_
    refine v_ret (hi_X2_beside_99 hT) (Or.inl rfl) ?_
    exact k7 hc1 hc3 hc5 hc7
theorem cb_bes_24 {D : zD} {T : zT} (hT : hTab T) (hO : vOK T) {N : Nat} {h : zH} {Q : zR → Prop} {P : PT} (x y : Int) (q d : Nat) (ex : x = (q : Int)) (ey : y = (d : Int)) (gq : gIn P q) (hd : d < 4) (p0 : h 24 0 = (0, P 0 0)) (p1 : h 24 1 = (0, P 0 1)) (lb : lB P) (k1 : gNb P q d = -1 → Q (h, some (0, -1))) (k2 : ∀ q2 : Nat, gNb P q d = (q2 : Int) → gIn P q2 → Q (h, some (0, (q2 : Int)))) : vP D T N 27 0 h [some (2, 24), some (0, x), some (0, y), none] [] Q := by
  subst ex ey
  have hq := gq.1
  have k : Q (h, some (0, gNb P q d)) := by
    rcases (gOk lb).2 q d gq hd with e | ⟨q2, g2, e, _⟩
    · rw [e]; exact k1 e
    · rw [e]; exact k2 q2 e g2
  clear k1 k2
  refine vP_hv (fun hv => qk_bes_24 hT hO hv p0 p1 hq lb ?_ ?_ ?_ ?_ ?_ ?_ ?_ ?_) <;> (intros; exact cb_eq k (by unfold gNb cBs; omega))
theorem qk_isC_24 {D : zD} {T : zT} (hT : hTab T) (hO : vOK T) {N : Nat} {h : zH} {Q : zR → Prop} {P : PT} {q : Nat} (hv0 : zHv h) (p0 : h 24 0 = (0, P 0 0)) (p1 : h 24 1 = (0, P 0 1)) (hq : q < 48)
    (k0 : ((q : Int) < 0) → Q (h, some (0, 0)))
    (k1 : (0 ≤ (q : Int)) → (((q : Int) % 8) < 0) → Q (h, some (0, 0)))
    (k2 : (0 ≤ (q : Int)) → (0 ≤ ((q : Int) % 8)) → (((q : Int) % 8) < (P 0 0)) → (((q : Int) / 8) < 0) → Q (h, some (0, 0)))
    (k3 : (0 ≤ (q : Int)) → (0 ≤ ((q : Int) % 8)) → (((q : Int) % 8) < (P 0 0)) → (0 ≤ ((q : Int) / 8)) → (((q : Int) / 8) < (P 0 1)) → Q (h, some (0, 1)))
    (k4 : (0 ≤ (q : Int)) → (0 ≤ ((q : Int) % 8)) → (((q : Int) % 8) < (P 0 0)) → (0 ≤ ((q : Int) / 8)) → ((P 0 1) ≤ ((q : Int) / 8)) → Q (h, some (0, 0)))
    (k5 : (0 ≤ (q : Int)) → (0 ≤ ((q : Int) % 8)) → ((P 0 0) ≤ ((q : Int) % 8)) → Q (h, some (0, 0))) :
    vP D T N 46 0 h [some (2, 24), some (0, (q : Int))] [] Q := by
  refine v_load (v := (0, (q : Int))) (hz_X2_isCell hT _ _ rfl) rfl rfl ?_
  refine v_if (hz_X2_isCell hT _ _ rfl) (fun hc1 => ?_) (fun hc1 => ?_)
  · have hc1 : (q : Int) < 0 := hc1
    refine v_push (0) (hi_X2_isCell_23 hT) rfl ?_
    refine v_ret (hi_X2_isCell_24 hT) (Or.inl rfl) ?_
    exact k0 hc1
  · have hc1 : 0 ≤ (q : Int) := Int.not_lt.mp hc1
    refine v_load (v := (2, 24)) (hz_X2_isCell hT _ _ rfl) rfl rfl ?_
    refine v_load (v := (0, (q : Int))) (hz_X2_isCell hT _ _ rfl) rfl rfl ?_
    refine v_call (w := 1) [some (0, (q : Int))] hO (hz_X2_isCell hT _ _ rfl) rfl rfl ?_
    refine v_load (v := (0, (q : Int))) (hi_X2_xOf_0 hT) rfl rfl ?_
    refine v_push (7) (hi_X2_xOf_1 hT) rfl ?_
    refine v_bin (w := ((q : Int) % 8)) (hi_X2_xOf_3 hT) (and7 (by omega) (by omega)) ?_
    refine v_ret (hi_X2_xOf_4 hT) (Or.inl rfl) ?_
    show vP D T N 46 9 h [some (2, 24), some (0, (q : Int))] [(0, ((q : Int) % 8)), (2, 24)] _
    refine v_load (v := (0, (q : Int))) (hz_X2_isCell hT _ _ rfl) rfl rfl ?_
    refine v_call (w := 1) [some (0, (q : Int))] hO (hz_X2_isCell hT _ _ rfl) rfl rfl ?_
    refine v_load (v := (0, (q : Int))) (hi_X2_yOf_0 hT) rfl rfl ?_
    refine v_push (3) (hi_X2_yOf_1 hT) rfl ?_
    refine v_bin (w := ((q : Int) / 8)) (hi_X2_yOf_2 hT) (shr3 (by omega) (by omega)) ?_
    refine v_ret (hi_X2_yOf_3 hT) (Or.inl rfl) ?_
    show vP D T N 46 13 h [some (2, 24), some (0, (q : Int))] [(0, ((q : Int) / 8)), (0, ((q : Int) % 8)), (2, 24)] _
    refine v_call (w := 3) [some (2, 24), some (0, ((q : Int) % 8)), some (0, ((q : Int) / 8))] hO (hz_X2_isCell hT _ _ rfl) rfl rfl ?_
    refine v_load (v := (0, ((q : Int) % 8))) (hi_X2_hasCell_0 hT) rfl rfl ?_
    refine v_if (hi_X2_hasCell_1 hT) (fun hc2 => ?_) (fun hc2 => ?_)
    · have hc2 : ((q : Int) % 8) < 0 := hc2
      refine v_push (0) (hi_X2_hasCell_28 hT) rfl ?_
      refine v_ret (hi_X2_hasCell_29 hT) (Or.inl rfl) ?_
      show vP D T N 46 16 h [some (2, 24), some (0, (q : Int))] [(0, 0)] _
      refine v_if (hi_X2_isCell_16 hT) (fun _ => ?_) (fun hc3 => absurd (show (0 : Int) = 0 from (by decide)) hc3)
      refine v_push (0) (hi_X2_isCell_23 hT) rfl ?_
      refine v_ret (hi_X2_isCell_24 hT) (Or.inl rfl) ?_
      exact k1 hc1 hc2
    · have hc2 : 0 ≤ ((q : Int) % 8) := Int.not_lt.mp hc2
      refine v_load (v := (0, ((q : Int) % 8))) (hi_X2_hasCell_4 hT) rfl rfl ?_
      refine v_load (v := (2, 24)) (hi_X2_hasCell_5 hT) rfl rfl ?_
      refine v_getf (v := (0, (P 0 0))) (r := 24) (hi_X2_hasCell_6 hT) rfl rfl (fun _ => p0) ?_
      refine v_ic (hi_X2_hasCell_9 hT) (fun hc4 => ?_) (fun hc4 => ?_)
      · have hc4 : ((q : Int) % 8) < (P 0 0) := hc4
        refine v_load (v := (0, ((q : Int) / 8))) (hi_X2_hasCell_12 hT) rfl rfl ?_
        refine v_if (hi_X2_hasCell_13 hT) (fun hc5 => ?_) (fun hc5 => ?_)
        · have hc5 : ((q : Int) / 8) < 0 := hc5
          refine v_push (0) (hi_X2_hasCell_28 hT) rfl ?_
          refine v_ret (hi_X2_hasCell_29 hT) (Or.inl rfl) ?_
          show vP D T N 46 16 h [some (2, 24), some (0, (q : Int))] [(0, 0)] _
          refine v_if (hi_X2_isCell_16 hT) (fun _ => ?_) (fun hc6 => absurd (show (0 : Int) = 0 from (by decide)) hc6)
          refine v_push (0) (hi_X2_isCell_23 hT) rfl ?_
          refine v_ret (hi_X2_isCell_24 hT) (Or.inl rfl) ?_
          exact k2 hc1 hc2 hc4 hc5
        · have hc5 : 0 ≤ ((q : Int) / 8) := Int.not_lt.mp hc5
          refine v_load (v := (0, ((q : Int) / 8))) (hi_X2_hasCell_16 hT) rfl rfl ?_
          refine v_load (v := (2, 24)) (hi_X2_hasCell_17 hT) rfl rfl ?_
          refine v_getf (v := (0, (P 0 1))) (r := 24) (hi_X2_hasCell_18 hT) rfl rfl (fun _ => p1) ?_
          refine v_ic (hi_X2_hasCell_21 hT) (fun hc7 => ?_) (fun hc7 => ?_)
          · have hc7 : ((q : Int) / 8) < (P 0 1) := hc7
            refine v_push (1) (hi_X2_hasCell_24 hT) rfl ?_
            refine v_goto (hi_X2_hasCell_25 hT) ?_
            refine v_ret (hi_X2_hasCell_29 hT) (Or.inl rfl) ?_
            show vP D T N 46 16 h [some (2, 24), some (0, (q : Int))] [(0, 1)] _
            refine v_if (hi_X2_isCell_16 hT) (fun hc8 => absurd (show (1 : Int) = 0 from hc8) (by decide)) (fun _ => ?_)
            refine v_push (1) (hz_X2_isCell hT _ _ rfl) rfl ?_
            refine v_goto (hz_X2_isCell hT _ _ rfl) ?_
            refine v_ret (hi_X2_isCell_24 hT) (Or.inl rfl) ?_
            exact k3 hc1 hc2 hc4 hc5 hc7
          · have hc7 : (P 0 1) ≤ ((q : Int) / 8) := Int.not_lt.mp hc7
            refine v_push (0) (hi_X2_hasCell_28 hT) rfl ?_
            refine v_ret (hi_X2_hasCell_29 hT) (Or.inl rfl) ?_
            show vP D T N 46 16 h [some (2, 24), some (0, (q : Int))] [(0, 0)] _
            refine v_if (hi_X2_isCell_16 hT) (fun _ => ?_) (fun hc9 => absurd (show (0 : Int) = 0 from (by decide)) hc9)
            refine v_push (0) (hi_X2_isCell_23 hT) rfl ?_
            refine v_ret (hi_X2_isCell_24 hT) (Or.inl rfl) ?_
            exact k4 hc1 hc2 hc4 hc5 hc7
      · have hc4 : (P 0 0) ≤ ((q : Int) % 8) := Int.not_lt.mp hc4
        refine v_push (0) (hi_X2_hasCell_28 hT) rfl ?_
        refine v_ret (hi_X2_hasCell_29 hT) (Or.inl rfl) ?_
        show vP D T N 46 16 h [some (2, 24), some (0, (q : Int))] [(0, 0)] _
        refine v_if (hi_X2_isCell_16 hT) (fun _ => ?_) (fun hc10 => absurd (show (0 : Int) = 0 from (by decide)) hc10)
        refine v_push (0) (hi_X2_isCell_23 hT) rfl ?_
        refine v_ret (hi_X2_isCell_24 hT) (Or.inl rfl) ?_
        exact k5 hc1 hc2 hc4
theorem cb_isC_24 {D : zD} {T : zT} (hT : hTab T) (hO : vOK T) {N : Nat} {h : zH} {Q : zR → Prop} {P : PT} (x : Int) (q : Nat) (ex : x = (q : Int)) (hq : q < 48) (p0 : h 24 0 = (0, P 0 0)) (p1 : h 24 1 = (0, P 0 1)) (lb : lB P) (k1 : gIn P q → Q (h, some (0, 1))) (k2 : ¬ gIn P q → Q (h, some (0, 0))) : vP D T N 46 0 h [some (2, 24), some (0, x)] [] Q := by
  subst ex
  have k : Q (h, some (0, gIx P q)) := by
    by_cases c : gIn P q
    · rw [gIx_y c]; exact k1 c
    · rw [gIx_n hq c]; exact k2 c
  clear k1 k2
  refine vP_hv (fun hv => qk_isC_24 hT hO hv p0 p1 hq ?_ ?_ ?_ ?_ ?_ ?_) <;> (intros; exact cb_eq k (by unfold gIx; omega))
theorem qk_st_24 {D : zD} {T : zT} (hT : hTab T) (hO : vOK T) {N : Nat} {h : zH} {Q : zR → Prop} {j q : Nat} (hv0 : zHv h) (hj : j < 3) (hq : q < 48)
    (k0 : (0 ≤ (((j : Int) * 48) + (q : Int))) → ((((j : Int) * 48) + (q : Int)) < 144) → Q (h, some (0, (h 27 ((((j : Int) * 48) + (q : Int))).toNat).2))) :
    vP D T N 56 0 h [some (2, 24), some (0, (j : Int)), some (0, (q : Int))] [] Q := by
  refine v_load (v := (2, 24)) (hz_X2_stateOf hT _ _ rfl) rfl rfl ?_
  refine v_getR (c := 27) (r := 24) (hz_X2_stateOf hT _ _ rfl) rfl rfl rfl ?_
  refine v_load (v := (0, (j : Int))) (hz_X2_stateOf hT _ _ rfl) rfl rfl ?_
  refine v_push (48) (hz_X2_stateOf hT _ _ rfl) rfl ?_
  refine v_bin (w := ((j : Int) * 48)) (hz_X2_stateOf hT _ _ rfl) (hq_mul (by omega) (by omega)) ?_
  refine v_load (v := (0, (q : Int))) (hz_X2_stateOf hT _ _ rfl) rfl rfl ?_
  refine v_bin (w := (((j : Int) * 48) + (q : Int))) (hz_X2_stateOf hT _ _ rfl) (hq_add (by omega) (by omega)) ?_
  refine v_ald (t := 0) (r := 27) (hz_X2_stateOf hT _ _ rfl) rfl rfl rfl (fun ha1 hb2 => ?_)
  refine v_ret (hz_X2_stateOf hT _ _ rfl) (Or.inl rfl) ?_
  exact k0 ha1 hb2
theorem cb_st_24 {D : zD} {T : zT} (hT : hTab T) (hO : vOK T) {N : Nat} {h : zH} {Q : zR → Prop} {P : PT} (x y : Int) (j q : Nat) (ex : x = (j : Int)) (ey : y = (q : Int)) (hj : j < 3) (hq : q < 48) (a3 : ∀ i, i < 144 → h 27 i = (0, P 3 i)) (k : Q (h, some (0, P 3 (48 * j + q)))) : vP D T N 56 0 h [some (2, 24), some (0, x), some (0, y)] [] Q := by
  subst ex ey
  refine vP_hv (fun hv => qk_st_24 hT hO hv hj hq (fun _ _ => ?_))
  rw [show ((j : Int) * 48 + (q : Int)).toNat = 48 * j + q from by omega, a3 _ (by omega)]
  exact k
theorem qk_gr_24 {D : zD} {T : zT} (hT : hTab T) (hO : vOK T) {N : Nat} {h : zH} {Q : zR → Prop} {P : PT} {q : Nat} (hv0 : zHv h) (hq : q < 48) (a1 : ∀ i, i < 48 → h 25 i = (0, P 1 i)) (a2 : ∀ i, i < 48 → h 26 i = (0, P 2 i)) (b2 : 0 ≤ P 2 q ∧ P 2 q ≤ 9) (bz : 0 ≤ zat D 2 (P 1 q).toNat ∧ zat D 2 (P 1 q).toNat ≤ 5)
    (k0 : (0 ≤ (q : Int)) → ((q : Int) < 48) → ((P 1 q) = 3) → Q (h, some (0, 0)))
    (k1 : (0 ≤ (q : Int)) → ((q : Int) < 48) → ((P 1 q) ≠ 3) → (0 ≤ (P 1 q)) → ((P 1 q) < (zlen D 2 : Int)) → Q (h, some (0, ((zat D 2 ((P 1 q)).toNat) + (P 2 q))))) :
    vP D T N 38 0 h [some (2, 24), some (0, (q : Int))] [] Q := by
  refine v_load (v := (2, 24)) (hz_X2_groundCost hT _ _ rfl) rfl rfl ?_
  refine v_getR (c := 25) (r := 24) (hz_X2_groundCost hT _ _ rfl) rfl rfl rfl ?_
  refine v_load (v := (0, (q : Int))) (hz_X2_groundCost hT _ _ rfl) rfl rfl ?_
  refine v_aldB (t := 0) (r := 25) (w := (P 1 q)) (hz_X2_groundCost hT _ _ rfl) rfl rfl rfl (fun _ _ => (congrArg Prod.snd (a1 q (by omega)))) (fun ha1 hb2 => ?_)
  refine v_push (3) (hz_X2_groundCost hT _ _ rfl) rfl ?_
  refine v_ic (hz_X2_groundCost hT _ _ rfl) (fun hc3 => ?_) (fun hc3 => ?_)
  · have hc3 : (P 1 q) = 3 := hc3
    refine v_push (0) (hz_X2_groundCost hT _ _ rfl) rfl ?_
    refine v_goto (hz_X2_groundCost hT _ _ rfl) ?_
    refine v_ret (hi_X2_groundCost_31 hT) (Or.inl rfl) ?_
    exact k0 ha1 hb2 hc3
  · have hc3 : (P 1 q) ≠ 3 := hc3
    refine v_push (2) (hz_X2_groundCost hT _ _ rfl) rfl ?_
    refine v_load (v := (2, 24)) (hz_X2_groundCost hT _ _ rfl) rfl rfl ?_
    refine v_getR (c := 25) (r := 24) (hz_X2_groundCost hT _ _ rfl) rfl rfl rfl ?_
    refine v_load (v := (0, (q : Int))) (hz_X2_groundCost hT _ _ rfl) rfl rfl ?_
    refine v_aldB (t := 0) (r := 25) (w := (P 1 q)) (hz_X2_groundCost hT _ _ rfl) rfl rfl rfl (fun _ _ => (congrArg Prod.snd (a1 q (by omega)))) (fun ha4 hb5 => ?_)
    refine v_aldS (j := 2) (hz_X2_groundCost hT _ _ rfl) rfl (fun ha6 hb7 => ?_)
    refine v_load (v := (2, 24)) (hz_X2_groundCost hT _ _ rfl) rfl rfl ?_
    refine v_getR (c := 26) (r := 24) (hz_X2_groundCost hT _ _ rfl) rfl rfl rfl ?_
    refine v_load (v := (0, (q : Int))) (hz_X2_groundCost hT _ _ rfl) rfl rfl ?_
    refine v_aldB (t := 0) (r := 26) (w := (P 2 q)) (hz_X2_groundCost hT _ _ rfl) rfl rfl rfl (fun _ _ => (congrArg Prod.snd (a2 q (by omega)))) (fun ha8 hb9 => ?_)
    refine v_bin (w := ((zat D 2 ((P 1 q)).toNat) + (P 2 q))) (hz_X2_groundCost hT _ _ rfl) (hq_add (by omega) (by omega)) ?_
    refine v_ret (hi_X2_groundCost_31 hT) (Or.inl rfl) ?_
    exact k1 ha1 hb2 hc3 ha6 hb7
theorem cb_gr_24 {D : zD} {T : zT} (hT : hTab T) (hO : vOK T) {N : Nat} {h : zH} {Q : zR → Prop} {P : PT} (x : Int) (q : Nat) (ex : x = (q : Int)) (hq : q < 48) (hb : fB P) (a1 : ∀ i, i < 48 → h 25 i = (0, P 1 i)) (a2 : ∀ i, i < 48 → h 26 i = (0, P 2 i)) (k : Q (h, some (0, gGr P q))) : vP D T N 38 0 h [some (2, 24), some (0, x)] [] Q := by
  subst ex
  refine vP_hv (fun hv => qk_gr_24 hT hO hv hq a1 a2 (hb.2.1 q hq).2 (zat2b D _) ?_ ?_)
  · intro _ _ c
    exact cb_eq k (if_pos c)
  · intro _ _ c d1 d2
    exact cb_eq k ((if_neg c).trans (congrArg (fun z => z + P 2 q) (zat2 D d1 d2).symm))
theorem qk_cr_24 {D : zD} {T : zT} (hT : hTab T) (hO : vOK T) {N : Nat} {h : zH} {Q : zR → Prop} {P : PT} {q : Nat} (hv0 : zHv h) (hq : q < 48) (a1 : ∀ i, i < 48 → h 25 i = (0, P 1 i)) (a2 : ∀ i, i < 48 → h 26 i = (0, P 2 i)) (b2 : 0 ≤ P 2 q ∧ P 2 q ≤ 9) (bz : 0 ≤ zat D 2 (P 1 q).toNat ∧ zat D 2 (P 1 q).toNat ≤ 5)
    (k0 : (0 ≤ (q : Int)) → ((q : Int) < 48) → (0 ≤ (P 1 q)) → ((P 1 q) < (zlen D 2 : Int)) → Q (h, some (0, ((zat D 2 ((P 1 q)).toNat) + (P 2 q))))) :
    vP D T N 33 0 h [some (2, 24), some (0, (q : Int))] [] Q := by
  refine v_push (2) (hz_X2_crumbsOf hT _ _ rfl) rfl ?_
  refine v_load (v := (2, 24)) (hz_X2_crumbsOf hT _ _ rfl) rfl rfl ?_
  refine v_getR (c := 25) (r := 24) (hz_X2_crumbsOf hT _ _ rfl) rfl rfl rfl ?_
  refine v_load (v := (0, (q : Int))) (hz_X2_crumbsOf hT _ _ rfl) rfl rfl ?_
  refine v_aldB (t := 0) (r := 25) (w := (P 1 q)) (hz_X2_crumbsOf hT _ _ rfl) rfl rfl rfl (fun _ _ => (congrArg Prod.snd (a1 q (by omega)))) (fun ha1 hb2 => ?_)
  refine v_aldS (j := 2) (hz_X2_crumbsOf hT _ _ rfl) rfl (fun ha3 hb4 => ?_)
  refine v_load (v := (2, 24)) (hz_X2_crumbsOf hT _ _ rfl) rfl rfl ?_
  refine v_getR (c := 26) (r := 24) (hz_X2_crumbsOf hT _ _ rfl) rfl rfl rfl ?_
  refine v_load (v := (0, (q : Int))) (hz_X2_crumbsOf hT _ _ rfl) rfl rfl ?_
  refine v_aldB (t := 0) (r := 26) (w := (P 2 q)) (hz_X2_crumbsOf hT _ _ rfl) rfl rfl rfl (fun _ _ => (congrArg Prod.snd (a2 q (by omega)))) (fun ha5 hb6 => ?_)
  refine v_bin (w := ((zat D 2 ((P 1 q)).toNat) + (P 2 q))) (hz_X2_crumbsOf hT _ _ rfl) (hq_add (by omega) (by omega)) ?_
  refine v_ret (hz_X2_crumbsOf hT _ _ rfl) (Or.inl rfl) ?_
  exact k0 ha1 hb2 ha3 hb4
theorem cb_cr_24 {D : zD} {T : zT} (hT : hTab T) (hO : vOK T) {N : Nat} {h : zH} {Q : zR → Prop} {P : PT} (x : Int) (q : Nat) (ex : x = (q : Int)) (hq : q < 48) (hb : fB P) (a1 : ∀ i, i < 48 → h 25 i = (0, P 1 i)) (a2 : ∀ i, i < 48 → h 26 i = (0, P 2 i)) (k : Q (h, some (0, gCr P q))) : vP D T N 33 0 h [some (2, 24), some (0, x)] [] Q := by
  subst ex
  refine vP_hv (fun hv => qk_cr_24 hT hO hv hq a1 a2 (hb.2.1 q hq).2 (zat2b D _) ?_)
  intro _ _ d1 d2
  exact cb_eq k (congrArg (fun z => z + P 2 q) (zat2 D d1 d2).symm)
theorem qk_sh_24 {D : zD} {T : zT} (hT : hTab T) (hO : vOK T) {N : Nat} {h : zH} {Q : zR → Prop} {P : PT} {j q : Nat} (hv0 : zHv h) (hj : j < 3) (hq : q < 48) (hb : fB P) (a1 : ∀ i, i < 48 → h 25 i = (0, P 1 i)) (a2 : ∀ i, i < 48 → h 26 i = (0, P 2 i)) (a3 : ∀ i, i < 144 → h 27 i = (0, P 3 i)) (b2 : 0 ≤ P 2 q ∧ P 2 q ≤ 9)
    (k0 : ((P 3 (48 * j + q)) = 0) → Q (h, some (0, (gGr P q))))
    (k1 : ((P 3 (48 * j + q)) ≠ 0) → ((P 3 (48 * j + q)) = 2) → (0 ≤ (q : Int)) → ((q : Int) < 48) → Q (h, some (0, (5 + (P 2 q)))))
    (k2 : ((P 3 (48 * j + q)) ≠ 0) → ((P 3 (48 * j + q)) ≠ 2) → Q (h, some (0, 0))) :
    vP D T N 53 0 h [some (2, 24), some (0, (j : Int)), some (0, (q : Int))] [] Q := by
  refine v_load (v := (2, 24)) (hz_X2_shownCost hT _ _ rfl) rfl rfl ?_
  refine v_load (v := (0, (j : Int))) (hz_X2_shownCost hT _ _ rfl) rfl rfl ?_
  refine v_load (v := (0, (q : Int))) (hz_X2_shownCost hT _ _ rfl) rfl rfl ?_
  refine v_call (w := 3) [some (2, 24), some (0, (j : Int)), some (0, (q : Int))] hO (hz_X2_shownCost hT _ _ rfl) rfl rfl (cb_st_24 hT hO ((j : Int)) ((q : Int)) j q rfl rfl (by omega) (by omega) a3 ?_)
  show vP D T N 53 6 h [some (2, 24), some (0, (j : Int)), some (0, (q : Int))] [(0, (P 3 (48 * j + q)))] _
  refine v_sw (hz_X2_shownCost hT _ _ rfl) ?_
  refine ⟨fun hc1 => ?_, fun hc1 => ?_⟩
  · have hc1 : (P 3 (48 * j + q)) = 0 := hc1
    refine v_load (v := (2, 24)) (hz_X2_shownCost hT _ _ rfl) rfl rfl ?_
    refine v_load (v := (0, (q : Int))) (hz_X2_shownCost hT _ _ rfl) rfl rfl ?_
    refine v_call (w := 2) [some (2, 24), some (0, (q : Int))] hO (hz_X2_shownCost hT _ _ rfl) rfl rfl (cb_gr_24 hT hO ((q : Int)) q rfl (by omega) hb a1 a2 ?_)
    show vP D T N 53 37 h [some (2, 24), some (0, (j : Int)), some (0, (q : Int))] [(0, (gGr P q))] _
    refine v_ret (hz_X2_shownCost hT _ _ rfl) (Or.inl rfl) ?_
    exact k0 hc1
  refine ⟨fun hc2 => ?_, fun hc2 => ?_⟩
  · have hc2 : (P 3 (48 * j + q)) = 2 := hc2
    refine v_push (5) (hz_X2_shownCost hT _ _ rfl) rfl ?_
    refine v_load (v := (2, 24)) (hz_X2_shownCost hT _ _ rfl) rfl rfl ?_
    refine v_getR (c := 26) (r := 24) (hz_X2_shownCost hT _ _ rfl) rfl rfl rfl ?_
    refine v_load (v := (0, (q : Int))) (hz_X2_shownCost hT _ _ rfl) rfl rfl ?_
    refine v_aldB (t := 0) (r := 26) (w := (P 2 q)) (hz_X2_shownCost hT _ _ rfl) rfl rfl rfl (fun _ _ => (congrArg Prod.snd (a2 q (by omega)))) (fun ha3 hb4 => ?_)
    refine v_bin (w := (5 + (P 2 q))) (hz_X2_shownCost hT _ _ rfl) (hq_add (by omega) (by omega)) ?_
    refine v_ret (hz_X2_shownCost hT _ _ rfl) (Or.inl rfl) ?_
    exact k1 hc1 hc2 ha3 hb4
  show vP _ _ _ _ _ _ _ _ _
  refine v_push (0) (hz_X2_shownCost hT _ _ rfl) rfl ?_
  refine v_ret (hz_X2_shownCost hT _ _ rfl) (Or.inl rfl) ?_
  exact k2 hc1 hc2
theorem cb_sh_24 {D : zD} {T : zT} (hT : hTab T) (hO : vOK T) {N : Nat} {h : zH} {Q : zR → Prop} {P : PT} (x y : Int) (j : Nat) (ex : x = (j : Int)) (hj : j < 3) (q : Nat) (ey : y = (q : Int)) (hq : q < 48) (hb : fB P) (a1 : ∀ i, i < 48 → h 25 i = (0, P 1 i)) (a2 : ∀ i, i < 48 → h 26 i = (0, P 2 i)) (a3 : ∀ i, i < 144 → h 27 i = (0, P 3 i)) (k : Q (h, some (0, gSh P j q))) : vP D T N 53 0 h [some (2, 24), some (0, x), some (0, y)] [] Q := by
  subst ex ey
  refine vP_hv (fun hv => qk_sh_24 hT hO hv hj hq hb a1 a2 a3 (hb.2.1 q hq).2 ?_ ?_ ?_)
  · intro c
    exact cb_eq k (if_pos c)
  · intro c1 c2 _ _
    exact cb_eq k ((if_neg c1).trans (if_pos c2))
  · intro c1 c2
    exact cb_eq k ((if_neg c1).trans (if_neg c2))
end
