section
/-! mark(), back() on both sides -/
theorem lI.ty {D : zD} {qs : List aQ} {h : zH} (hZ : lI aG1 D Fl0 qs h) : aTyped aTy1 h := by
  obtain ⟨q, -, ρ, g⟩ := hZ
  exact g.2.1
theorem lI.hv {D : zD} {qs : List aQ} {h : zH} (hZ : lI aG1 D Fl0 qs h) : zHv h := zHv_of hZ.ty
theorem lI.run {D : zD} {qs : List aQ} {h : zH} (hZ : lI aG1 D Fl0 qs h) {d mi : Nat} {as : List zV} {r : zR} {Q : zR → Prop} (w : Nat) (hr : zRun D TLw d mi 0 (h, zargs 0 as, []) r) (k : ∀ N, vP D TLw N mi 0 h (vargs w as) [] Q) : Q r := by
  rw [zargs_vL w] at hr
  exact vP_run hr hZ.hv k
theorem hv126 {h : zH} (hv : zHv h) {x : Nat} (hx : x < 2750) : h 126 x = (0, (h 126 x).2) := hv.eta (by
  unfold vCode
  show (if x < 2750 then some 0 else none) = some 0
  rw [if_pos hx])
theorem hv128 {h : zH} (hv : zHv h) {x : Nat} (hx : x < 30) : h 128 x = (1, (h 128 x).2) := Prod.ext (hv.1 128 x 1 (by
  unfold vCode
  show (if x < 30 then some 1 else none) = some 1
  rw [if_pos hx]) (by decide)) rfl
theorem zHv.seti {h : zH} (hv : zHv h) {r k : Nat} {z : Int} (hc : vCode r k = some 0) (hr : (vRefs.all fun x => !(x.1 == r && x.2.1 == k)) = true) : zHv (zset h r k (0, z)) := hv.set hc (fun _ => rfl) (fun x hx e => by
  have := List.all_eq_true.mp hr x hx
  rw [e.1, e.2, beq_self_eq_true, beq_self_eq_true] at this
  exact absurd this (by decide))
theorem zHv.m01 {h : zH} (hv : zHv h) : zHv (zset (zset h 121 1 (0, 0)) 121 0 (0, 0)) := (hv.seti (by decide +kernel) (by decide +kernel)).seti (by decide +kernel) (by decide +kernel)
theorem zHv.m23 {h : zH} {z : Int} (hv : zHv h) : zHv (zset (zset (zset h 121 1 (0, 0)) 121 0 (0, 0)) 121 23 (0, z)) := hv.m01.seti (by decide +kernel) (by decide +kernel)
theorem zHv.m10 {h : zH} {z : Int} (hv : zHv h) : zHv (zset h 0 10 (0, z)) := hv.seti (by decide +kernel) (by decide +kernel)
theorem CpF.K {f t : Nat} {h g0 g : zH} (hf : f < 4) (ht : t < 4) (hv : zHv h) (hg : zHv g) (e1 : ∀ k, g 126 k = g0 126 k) (e2 : ∀ k, g 128 k = g0 128 k) (c : CpF f t h g0) : bK f t h g := by
  obtain ⟨c1, c2, _⟩ := c
  refine ⟨fun j hj => ?_, fun k hk => ?_⟩
  · have : j < 276 := by
      rcases hj with e | e | e | e <;> omega
    rw [hv126 hg (by omega), e1, c1 j (by omega)]
    exact (hv126 hv (by omega)).symm
  · rw [hv128 hg (by omega), e2, c2 k hk]
    exact (hv128 hv (by omega)).symm
theorem cx_mark {D : zD} {T : zT} (hT : hTab T) (hO : vOK T) {N : Nat} {h : zH} {c m : Nat} (hc : c = 24 ∨ c = 39) (hm : m < 3) (e7 : h 0 7 = (2, (c : Int))) (em : h 0 10 = (0, (m : Int))) : vP D T N 165 0 h [some (2, 0)] [] (fun x => x = (zset (zset (cpLand h c (55 + 15 * m)) 0 10 (0, (m : Int) + 1)) 0 0 (0, 0), some (0, (m : Int) + 1))) := by
  have : m = 0 ∨ m = 1 ∨ m = 2 := by omega
  rcases hc with rfl | rfl <;> rcases this with rfl | rfl | rfl
  · exact vP_hv (fun hv => qc_mark_24_0 hT hO hv e7 em rfl)
  · exact vP_hv (fun hv => qc_mark_24_1 hT hO hv e7 em rfl)
  · exact vP_hv (fun hv => qc_mark_24_2 hT hO hv e7 em rfl)
  · exact vP_hv (fun hv => qc_mark_39_0 hT hO hv e7 em rfl)
  · exact vP_hv (fun hv => qc_mark_39_1 hT hO hv e7 em rfl)
  · exact vP_hv (fun hv => qc_mark_39_2 hT hO hv e7 em rfl)
theorem cx_back {D : zD} {T : zT} (hT : hTab T) (hO : vOK T) {N : Nat} {h : zH} {c m : Nat} (hc : c = 24 ∨ c = 39) (hm : m < 3) (e7 : h 0 7 = (2, (c : Int))) (em : h 0 10 = (0, (m : Int) + 1)) : vP D T N 144 0 h [some (2, 0)] [] (fun x => x = (zset (cpLand (zset h 0 10 (0, (m : Int))) (55 + 15 * m) c) 0 0 (0, 0), some (0, (m : Int)))) := by
  have : m = 0 ∨ m = 1 ∨ m = 2 := by omega
  rcases hc with rfl | rfl <;> rcases this with rfl | rfl | rfl
  · exact vP_hv (fun hv => qc_back_24_0 hT hO hv e7 em rfl)
  · exact vP_hv (fun hv => qc_back_24_1 hT hO hv e7 em rfl)
  · exact vP_hv (fun hv => qc_back_24_2 hT hO hv e7 em rfl)
  · exact vP_hv (fun hv => qc_back_39_0 hT hO hv e7 em rfl)
  · exact vP_hv (fun hv => qc_back_39_1 hT hO hv e7 em rfl)
  · exact vP_hv (fun hv => qc_back_39_2 hT hO hv e7 em rfl)
theorem rx_mark {D : zD} {T : zT} (hT : hTab T) (hO : vOK T) {N : Nat} {h : zH} {m : Nat} (hm : m < 3) (em : h 121 23 = (0, (m : Int))) : vP D T N 276 0 h [some (2, 121)] [] (fun x => zHv x.1 ∧ CpF 0 (m + 1) (zset (zset (zset h 121 1 (0, 0)) 121 0 (0, 0)) 121 23 (0, (m : Int) + 1)) x.1) := by
  have : m = 0 ∨ m = 1 ∨ m = 2 := by omega
  refine vP_mono hO (fun r hv q => ⟨hv, q⟩) ?_
  rcases this with rfl | rfl | rfl
  · exact vP_hv (fun hv => qr_mark_0 hT hO hv em (fun g f => f))
  · exact vP_hv (fun hv => qr_mark_1 hT hO hv em (fun g f => f))
  · exact vP_hv (fun hv => qr_mark_2 hT hO hv em (fun g f => f))
theorem rx_back {D : zD} {T : zT} (hT : hTab T) (hO : vOK T) {N : Nat} {h : zH} {m : Nat} (hm : m < 3) (em : h 121 23 = (0, (m : Int) + 1)) : vP D T N 199 0 h [some (2, 121)] [] (fun x => zHv x.1 ∧ ∃ g, CpF (m + 1) 0 (zset (zset h 121 1 (0, 0)) 121 0 (0, 0)) g ∧ x.1 = zset g 121 23 (0, (m : Int))) := by
  have : m = 0 ∨ m = 1 ∨ m = 2 := by omega
  refine vP_mono hO (fun r hv q => ⟨hv, q⟩) ?_
  rcases this with rfl | rfl | rfl
  · exact vP_hv (fun hv => qr_back_0 hT hO hv em (fun g f => ⟨g, f, rfl⟩))
  · exact vP_hv (fun hv => qr_back_1 hT hO hv em (fun g f => ⟨g, f, rfl⟩))
  · exact vP_hv (fun hv => qr_back_2 hT hO hv em (fun g f => ⟨g, f, rfl⟩))
theorem lZ.b010 {D : zD} {h : zH} (hZ : lZ D h) : h 0 10 = (0, (h 0 10).2) ∧ 0 ≤ (h 0 10).2 ∧ (h 0 10).2 ≤ 3 := by
  have b := hZ.bd (r := 0) (lo := 10) (hi := 10) (k := 0) (a := 0) (b := 3) ty_0 rfl (by decide +kernel) 10 (Nat.le_refl _) (Nat.le_refl _)
  exact ⟨Prod.ext b.1 rfl, b.2⟩
theorem zHv.e23 {h : zH} (hv : zHv h) : h 121 23 = (0, (h 121 23).2) := hv.eta (by decide +kernel)
theorem lRk_mark {D : zD} (_ : ∀ i, -2147483648 ≤ D.2 i ∧ D.2 i ≤ 2147483647) {h h1 h2 : zH} {v1 v2 : Int} (hZ : lZ D h) (hZ1 : lI aG1 D Fl0 lQk h1) (hR : lR h) (z1 : zRun D TLw 614 165 0 (h, zargs 0 [(2, 0)], []) (h1, some (0, v1))) (f1 : aFr lM_165 h h1) (z2 : zRun D TLw 614 276 0 (h1, zargs 0 [(2, 121)], []) (h2, some (0, v2))) (f2 : aFr lM_276 h1 h2) : lR h2 ∧ True := by
  refine ⟨?_, trivial⟩
  have hR' := hR
  obtain ⟨hT, hF, hM, r, c, s1, s2, s3, hL⟩ := hR'
  obtain ⟨t10, b0, b3⟩ := hZ.b010
  have c2 : c = 24 ∨ c = 39 := by
    rcases s1 with ⟨_, e⟩ | ⟨_, e⟩
    · exact Or.inr e
    · exact Or.inl e
  have k23 : h1 121 23 = h 121 23 := f1.keep (S := [(121, 23, 23)]) (by decide +kernel) ⟨(121, 23, 23), by decide, rfl, by decide, by decide⟩
  obtain ⟨m, hm⟩ : ∃ m : Nat, (h 0 10).2 = (m : Int) := ⟨(h 0 10).2.toNat, by omega⟩
  have r23 : h1 121 23 = (0, (m : Int)) := by rw [hZ1.hv.e23, k23, ← hM.1, hm]
  rw [hm] at t10
  by_cases h3 : m = 3
  · subst h3
    have a1 := hZ.run 1 z1 (Q := fun x => x = (zset h 0 0 (0, 7), some (0, -1))) (fun N => vP_hv (fun hv => qc_mark3 TLw_T vOK_T hv t10 rfl))
    have a2 := hZ1.run 1 z2 (Q := fun x => x = (zset (zset (zset h1 121 1 (0, 0)) 121 0 (0, 0)) 121 0 (0, 7), some (0, -1))) (fun N => vP_hv (fun hv => qr_mark3 TLw_T vOK_T hv r23 rfl))
    have a1' : h1 = zset h 0 0 (0, 7) := congrArg Prod.fst a1
    have a2' : h2 = zset (zset (zset h1 121 1 (0, 0)) 121 0 (0, 0)) 121 0 (0, 7) := congrArg Prod.fst a2
    refine hR.off (M := [(0, 0, 0), (121, 0, 1)]) (by decide +kernel) (fun a b hn => ?_)
    have n1 : ¬ (a = 121 ∧ b ≤ 1) := fun e => hn ⟨(121, 0, 1), by decide, e.1.symm, Nat.zero_le _, e.2⟩
    rw [a2', zset_ne (fun c => n1 (by omega)), zset_ne (fun c => n1 (by omega)), zset_ne (fun c => n1 (by omega)), a1']
    exact zset_ne (fun e => hn ⟨(0, 0, 0), by decide, e.1.symm, Nat.zero_le _, Nat.le_of_eq e.2⟩)
  · have hm3 : m < 3 := by omega
    have a1 := congrArg Prod.fst (hZ.run 1 z1 (Q := fun x => x = (zset (zset (cpLand h c (55 + 15 * m)) 0 10 (0, (m : Int) + 1)) 0 0 (0, 0), some (0, (m : Int) + 1))) (fun N => cx_mark TLw_T vOK_T c2 hm3 s2 t10))
    have a1 : h1 = zset (zset (cpLand h c (55 + 15 * m)) 0 10 (0, (m : Int) + 1)) 0 0 (0, 0) := a1
    obtain ⟨hv2, a2⟩ := hZ1.run 1 z2 (Q := fun x => zHv x.1 ∧ CpF 0 (m + 1) (zset (zset (zset h1 121 1 (0, 0)) 121 0 (0, 0)) 121 23 (0, (m : Int) + 1)) x.1) (fun N => rx_mark TLw_T vOK_T hm3 r23)
    have hv2 : zHv h2 := hv2
    have a2 : CpF 0 (m + 1) (zset (zset (zset h1 121 1 (0, 0)) 121 0 (0, 0)) 121 23 (0, (m : Int) + 1)) h2 := a2
    have hd : c + 15 ≤ 55 + 15 * m ∨ (55 + 15 * m) + 15 ≤ c := by omega
    have q1 : ∀ a k, ¬ (a = 0 ∧ (k = 0 ∨ k = 10)) → h1 a k = cpLand h c (55 + 15 * m) a k := fun a k hn => by
      rw [a1, zset_ne (fun c => hn (by omega)), zset_ne (fun c => hn (by omega))]
    have q2 : ∀ a k, ¬ (a = 121 ∧ (k ≤ 1 ∨ k = 23)) → ¬ (a = 126 ∧ 550 * (m + 1) ≤ k ∧ k < 550 * (m + 1) + 550) → ¬ (a = 128 ∧ 6 * (m + 1) ≤ k ∧ k < 6 * (m + 1) + 6) → h2 a k = h1 a k := fun a k n1 n2 n3 => by
      rw [a2.2.2 a k (fun c => by rcases c with c | c; exact n2 c; exact n3 c), zset_ne (fun c => n1 (by omega)), zset_ne (fun c => n1 (by omega)), zset_ne (fun c => n1 (by omega))]
    have q3 : ∀ a k, ¬ (a = 0 ∧ (k = 0 ∨ k = 10)) → ¬ (55 + 15 * m ≤ a ∧ a ≤ 55 + 15 * m + 14) → ¬ (a = 121 ∧ (k ≤ 1 ∨ k = 23)) → ¬ (a = 126 ∧ 550 * (m + 1) ≤ k ∧ k < 550 * (m + 1) + 550) → ¬ (a = 128 ∧ 6 * (m + 1) ≤ k ∧ k < 6 * (m + 1) + 6) → h2 a k = h a k := fun a k n1 n2 n3 n4 n5 => ((q2 a k n3 n4 n5).trans (q1 a k n1)).trans (cpLand_ne hd a k n2)
    have kk : ∀ x, x + 14 < 55 + 15 * m ∨ 55 + 15 * m + 14 < x → 1 ≤ x → x + 10 < 121 → cK x x h h2 := fun x hx x1 x2 => by
      refine ⟨fun k _ => q3 _ _ ?_ ?_ ?_ ?_ ?_, fun k _ => q3 _ _ ?_ ?_ ?_ ?_ ?_, fun k _ => q3 _ _ ?_ ?_ ?_ ?_ ?_, fun k _ => ⟨q3 _ _ ?_ ?_ ?_ ?_ ?_, q3 _ _ ?_ ?_ ?_ ?_ ?_, q3 _ _ ?_ ?_ ?_ ?_ ?_⟩, q3 _ _ ?_ ?_ ?_ ?_ ?_⟩ <;> omega
    have bb : ∀ b, b < 4 → b ≠ m + 1 → bK b b h h2 := fun b hb hne => by
      refine ⟨fun j hj => q3 _ _ ?_ ?_ ?_ ?_ ?_, fun k _ => q3 _ _ ?_ ?_ ?_ ?_ ?_⟩
      all_goals first | omega | (have : j < 276 := (by rcases hj with e | e | e | e <;> omega); omega)
    refine ⟨hT.of (q3 _ _ (by omega) (by omega) (by omega) (by omega) (by omega)) (fun q _ => q3 _ _ (by omega) (by omega) (by omega) (by omega) (by omega)) (q3 _ _ (by omega) (by omega) (by omega) (by omega) (by omega)) (fun q _ => q3 _ _ (by omega) (by omega) (by omega) (by omega) (by omega)), ?_, ⟨?_, fun m' hm' hq => ?_⟩, r, c, s1, (q3 _ _ (by omega) (by omega) (by omega) (by omega) (by omega)).trans s2, (q3 _ _ (by omega) (by omega) (by omega) (by omega) (by omega)).trans s3, hL.tr (kk c (by omega) (by omega) (by omega)) (bb 0 (by decide) (by omega))⟩
    · unfold lFa at hF ⊢
      rw [q3 10 9 (by omega) (by omega) (by omega) (by omega) (by omega), q3 10 10 (by omega) (by omega) (by omega) (by omega) (by omega), q3 121 10 (by omega) (by omega) (by omega) (by omega) (by omega), q3 121 11 (by omega) (by omega) (by omega) (by omega) (by omega)]
      exact hF
    · have e1 : h2 0 10 = (0, (m : Int) + 1) := by
        rw [q2 0 10 (by omega) (by omega) (by omega), a1, zset_ne (by omega), zset_same]
      have e2 : h2 121 23 = (0, (m : Int) + 1) := by
        rw [a2.2.2 121 23 (fun c => by omega), zset_same]
      rw [e1, e2]
    · have e1 : h2 0 10 = (0, (m : Int) + 1) := by
        rw [q2 0 10 (by omega) (by omega) (by omega), a1, zset_ne (by omega), zset_same]
      rw [e1] at hq
      have hq : (m' : Int) < (m : Int) + 1 := hq
      by_cases em : m' = m
      · subst em
        refine hL.tr (c' := 55 + 15 * m') (b' := m' + 1) ?_ ?_
        · have k1 := cpLand_K hZ.hv s1.ob hd
          refine k1.trans ⟨fun k _ => ?_, fun k _ => ?_, fun k _ => ?_, fun k _ => ⟨?_, ?_, ?_⟩, ?_⟩ <;> exact (q2 _ _ (by omega) (by omega) (by omega)).trans (q1 _ _ (by omega))
        · have hb1 : bK 0 0 h (zset (zset (zset h1 121 1 (0, 0)) 121 0 (0, 0)) 121 23 (0, (m' : Int) + 1)) := by
            refine ⟨fun j hj => ?_, fun k _ => ?_⟩ <;> (rw [zset_ne (by omega), zset_ne (by omega), zset_ne (by omega), q1 _ _ (by omega)]; exact cpLand_ne hd _ _ (by omega))
          have hvm : zHv (zset (zset (zset h1 121 1 (0, 0)) 121 0 (0, 0)) 121 23 (0, (m' : Int) + 1)) := zHv.m23 hZ1.hv
          exact hb1.trans (CpF.K (by decide) (by omega) hvm hv2 (fun _ => rfl) (fun _ => rfl) a2)
      · exact (hM.2 m' hm' (by omega)).tr (kk _ (by omega) (by omega) (by omega)) (bb _ (by omega) (by omega))
theorem lRk_back {D : zD} (_ : ∀ i, -2147483648 ≤ D.2 i ∧ D.2 i ≤ 2147483647) {h h1 h2 : zH} {v1 v2 : Int} (hZ : lZ D h) (hZ1 : lI aG1 D Fl0 lQb h1) (hR : lR h) (z1 : zRun D TLw 614 144 0 (h, zargs 0 [(2, 0)], []) (h1, some (0, v1))) (f1 : aFr lM_144 h h1) (z2 : zRun D TLw 614 199 0 (h1, zargs 0 [(2, 121)], []) (h2, some (0, v2))) (f2 : aFr lM_199 h1 h2) : lR h2 ∧ True := by
  refine ⟨?_, trivial⟩
  have hR' := hR
  obtain ⟨hT, hF, hM, r, c, s1, s2, s3, hL⟩ := hR'
  obtain ⟨t10, b0, b3⟩ := hZ.b010
  have c2 : c = 24 ∨ c = 39 := by
    rcases s1 with ⟨_, e⟩ | ⟨_, e⟩
    · exact Or.inr e
    · exact Or.inl e
  have k23 : h1 121 23 = h 121 23 := f1.keep (S := [(121, 23, 23)]) (by decide +kernel) ⟨(121, 23, 23), by decide, rfl, by decide, by decide⟩
  by_cases h0 : (h 0 10).2 = 0
  · rw [h0] at t10
    have r23 : h1 121 23 = (0, 0) := by rw [hZ1.hv.e23, k23, ← hM.1, h0]
    have a1 := hZ.run 1 z1 (Q := fun x => x = (zset h 0 0 (0, 8), some (0, -1))) (fun N => vP_hv (fun hv => qc_back0 TLw_T vOK_T hv t10 rfl))
    have a2 := hZ1.run 1 z2 (Q := fun x => x = (zset (zset (zset h1 121 1 (0, 0)) 121 0 (0, 0)) 121 0 (0, 8), some (0, -1))) (fun N => vP_hv (fun hv => qr_back0 TLw_T vOK_T hv r23 rfl))
    have a1' : h1 = zset h 0 0 (0, 8) := congrArg Prod.fst a1
    have a2' : h2 = zset (zset (zset h1 121 1 (0, 0)) 121 0 (0, 0)) 121 0 (0, 8) := congrArg Prod.fst a2
    refine hR.off (M := [(0, 0, 0), (121, 0, 1)]) (by decide +kernel) (fun a b hn => ?_)
    have n1 : ¬ (a = 121 ∧ b ≤ 1) := fun e => hn ⟨(121, 0, 1), by decide, e.1.symm, Nat.zero_le _, e.2⟩
    rw [a2', zset_ne (fun c => n1 (by omega)), zset_ne (fun c => n1 (by omega)), zset_ne (fun c => n1 (by omega)), a1']
    exact zset_ne (fun e => hn ⟨(0, 0, 0), by decide, e.1.symm, Nat.zero_le _, Nat.le_of_eq e.2⟩)
  · obtain ⟨m, hm⟩ : ∃ m : Nat, (h 0 10).2 = (m : Int) + 1 := ⟨((h 0 10).2 - 1).toNat, by omega⟩
    have r23 : h1 121 23 = (0, (m : Int) + 1) := by rw [hZ1.hv.e23, k23, ← hM.1, hm]
    rw [hm] at t10
    have hm3 : m < 3 := by omega
    have a1 := congrArg Prod.fst (hZ.run 1 z1 (Q := fun x => x = (zset (cpLand (zset h 0 10 (0, (m : Int))) (55 + 15 * m) c) 0 0 (0, 0), some (0, (m : Int)))) (fun N => cx_back TLw_T vOK_T c2 hm3 s2 t10))
    have a1 : h1 = zset (cpLand (zset h 0 10 (0, (m : Int))) (55 + 15 * m) c) 0 0 (0, 0) := a1
    obtain ⟨hv2, g, a2, a3⟩ := hZ1.run 1 z2 (Q := fun x => zHv x.1 ∧ ∃ g, CpF (m + 1) 0 (zset (zset h1 121 1 (0, 0)) 121 0 (0, 0)) g ∧ x.1 = zset g 121 23 (0, (m : Int))) (fun N => rx_back TLw_T vOK_T hm3 r23)
    have hv2 : zHv h2 := hv2
    have a3 : h2 = zset g 121 23 (0, (m : Int)) := a3
    have hd : 55 + 15 * m + 15 ≤ c ∨ c + 15 ≤ 55 + 15 * m := by omega
    have q0 : ∀ a k, ¬ (a = 0 ∧ (k = 0 ∨ k = 10)) → zset h 0 10 (0, (m : Int)) a k = h a k := fun a k hn => zset_ne (fun c => hn (by omega))
    have q1 : ∀ a k, ¬ (a = 0 ∧ (k = 0 ∨ k = 10)) → h1 a k = cpLand (zset h 0 10 (0, (m : Int))) (55 + 15 * m) c a k := fun a k hn => by
      rw [a1, zset_ne (fun c => hn (by omega))]
    have qg : ∀ a k, ¬ (a = 121 ∧ k = 23) → h2 a k = g a k := fun a k hn => by rw [a3, zset_ne hn]
    have q2 : ∀ a k, ¬ (a = 121 ∧ (k ≤ 1 ∨ k = 23)) → ¬ (a = 126 ∧ k < 550) → ¬ (a = 128 ∧ k < 6) → h2 a k = h1 a k := fun a k n1 n2 n3 => by
      rw [qg a k (fun c => n1 (by omega)), a2.2.2 a k (fun c => by omega), zset_ne (fun c => n1 (by omega)), zset_ne (fun c => n1 (by omega))]
    have q3 : ∀ a k, ¬ (a = 0 ∧ (k = 0 ∨ k = 10)) → ¬ (c ≤ a ∧ a ≤ c + 14) → ¬ (a = 121 ∧ (k ≤ 1 ∨ k = 23)) → ¬ (a = 126 ∧ k < 550) → ¬ (a = 128 ∧ k < 6) → h2 a k = h a k := fun a k n1 n2 n3 n4 n5 => (((q2 a k n3 n4 n5).trans (q1 a k n1)).trans (cpLand_ne hd a k n2)).trans (q0 a k n1)
    have kk : ∀ x, 55 ≤ x → x + 10 < 121 → cK x x h h2 := fun x x1 x2 => by
      refine ⟨fun k _ => q3 _ _ ?_ ?_ ?_ ?_ ?_, fun k _ => q3 _ _ ?_ ?_ ?_ ?_ ?_, fun k _ => q3 _ _ ?_ ?_ ?_ ?_ ?_, fun k _ => ⟨q3 _ _ ?_ ?_ ?_ ?_ ?_, q3 _ _ ?_ ?_ ?_ ?_ ?_, q3 _ _ ?_ ?_ ?_ ?_ ?_⟩, q3 _ _ ?_ ?_ ?_ ?_ ?_⟩ <;> omega
    have bb : ∀ b, b < 4 → 1 ≤ b → bK b b h h2 := fun b hb hne => by
      refine ⟨fun j hj => q3 _ _ ?_ ?_ ?_ ?_ ?_, fun k _ => q3 _ _ ?_ ?_ ?_ ?_ ?_⟩ <;> omega
    have e1 : h2 0 10 = (0, (m : Int)) := by
      rw [q2 0 10 (by omega) (by omega) (by omega), a1, zset_ne (by omega), cpLand_ne hd 0 10 (by omega), zset_same]
    have e2 : h2 121 23 = (0, (m : Int)) := by rw [a3, zset_same]
    have hL' := hM.2 m hm3 (by omega)
    refine ⟨hT.of (q3 _ _ (by omega) (by omega) (by omega) (by omega) (by omega)) (fun q _ => q3 _ _ (by omega) (by omega) (by omega) (by omega) (by omega)) (q3 _ _ (by omega) (by omega) (by omega) (by omega) (by omega)) (fun q _ => q3 _ _ (by omega) (by omega) (by omega) (by omega) (by omega)), ?_, ⟨?_, fun m' hm' hq => ?_⟩, r, c, s1, (q3 _ _ (by omega) (by omega) (by omega) (by omega) (by omega)).trans s2, (q3 _ _ (by omega) (by omega) (by omega) (by omega) (by omega)).trans s3, ?_⟩
    · unfold lFa at hF ⊢
      rw [q3 10 9 (by omega) (by omega) (by omega) (by omega) (by omega), q3 10 10 (by omega) (by omega) (by omega) (by omega) (by omega), q3 121 10 (by omega) (by omega) (by omega) (by omega) (by omega), q3 121 11 (by omega) (by omega) (by omega) (by omega) (by omega)]
      exact hF
    · rw [e1, e2]
    · rw [e1] at hq
      have hq : (m' : Int) < (m : Int) := hq
      exact (hM.2 m' hm' (by omega)).tr (kk _ (by omega) (by omega)) (bb _ (by omega) (by omega))
    · refine hL'.tr ?_ ?_
      · have k0 : cK (55 + 15 * m) (55 + 15 * m) h (zset h 0 10 (0, (m : Int))) := by
          refine ⟨fun k _ => ?_, fun k _ => ?_, fun k _ => ?_, fun k _ => ⟨?_, ?_, ?_⟩, ?_⟩ <;> exact q0 _ _ (by omega)
        have k1 := cpLand_K (h := zset h 0 10 (0, (m : Int))) (zHv.m10 hZ.hv) (mOb hm3) hd
        refine (k0.trans k1).trans ⟨fun k _ => ?_, fun k _ => ?_, fun k _ => ?_, fun k _ => ⟨?_, ?_, ?_⟩, ?_⟩ <;> exact (q2 _ _ (by omega) (by omega) (by omega)).trans (q1 _ _ (by omega))
      · have hb1 : bK (m + 1) (m + 1) h (zset (zset h1 121 1 (0, 0)) 121 0 (0, 0)) := by
          refine ⟨fun j hj => ?_, fun k _ => ?_⟩ <;> (rw [zset_ne (by omega), zset_ne (by omega), q1 _ _ (by omega), cpLand_ne hd _ _ (by omega)]; exact q0 _ _ (by omega))
        have hvm : zHv (zset (zset h1 121 1 (0, 0)) 121 0 (0, 0)) := zHv.m01 hZ1.hv
        exact hb1.trans (CpF.K (by omega) (by decide) hvm hv2 (fun _ => qg _ _ (by omega)) (fun _ => qg _ _ (by omega)) a2)
end
section
/-! arrivals(): what it leaves of both LANDS -/
theorem vRn_k {D : zD} {T : zT} {N mi pc : Nat} {h : zH} {l : List (Option zV)} {S : List zV} {Q : zR → Prop} {h0 : zH} (H : vP D T N mi pc h l S (fun r => r.2 = none ∧ (∀ j, r.1 127 j = h0 127 j) ∧ oH 127 121 21 r.1)) (k : ∀ g, ((∀ j, g 127 j = h0 127 j) ∧ oH 127 121 21 g) → Q (g, none)) : vP D T N mi pc h l S Q := vP_Q (fun r hr => by
  obtain ⟨g, v⟩ := r
  obtain ⟨e, a⟩ := hr
  have e : v = none := e
  subst e
  exact k g a) H
theorem vFr_k {D : zD} {T : zT} {N mi pc : Nat} {h : zH} {l : List (Option zV)} {S : List zV} {Q : zR → Prop} {h0 : zH} (H : vP D T N mi pc h l S (fun r => r.2 = some (0, 1) ∧ ∀ j, r.1 126 j = h0 126 j)) (k : ∀ g, (∀ j, g 126 j = h0 126 j) → Q (g, some (0, 1))) : vP D T N mi pc h l S Q := vP_Q (fun r hr => by
  obtain ⟨g, v⟩ := r
  obtain ⟨e, a⟩ := hr
  have e : v = some (0, 1) := e
  subst e
  exact k g a) H
theorem oH.seti {u r0 k0 : Nat} {h : zH} (g : oH u r0 k0 h) {r k : Nat} {z : Int} : oH u r0 k0 (zset h r k (0, z)) := fun a b hc hn => by
  by_cases e : a = r ∧ b = k
  · obtain ⟨rfl, rfl⟩ := e
    rw [zset_same]
    exact oV_0
  · rw [zset_ne e]
    exact g a b hc hn
theorem qr_frac0 {D : zD} {T : zT} (hT : hTab T) (hO : vOK T) {N : Nat} {h : zH} {Q : zR → Prop} (t b : Int) (hv0 : zHv h)
    (k0 : vP D T N 230 9 h [some (2, 121), some (1, t), none, some (1, b), none, some (1, (if 0 < t then t else (-Int64.ofInt t).toInt)), none, some (1, b), none, none, none] [] Q) :
    vP D T N 230 0 h [some (2, 121), some (1, t), none, some (1, b), none, none, none, none, none, none, none] [] Q := by
  refine v_load (v := (1, t)) (hz_X12_fraction hT _ _ rfl) rfl rfl ?_
  refine v_abs (hz_X12_fraction hT _ _ rfl) ?_
  refine v_store2 [some (2, 121), some (1, t), none, some (1, b), none, some (1, (if 0 < t then t else (-Int64.ofInt t).toInt)), none, none, none, none, none] (hz_X12_fraction hT _ _ rfl) (Nat.le_of_ble_eq_true rfl) rfl ?_
  refine v_load (v := (1, b)) (hz_X12_fraction hT _ _ rfl) rfl rfl ?_
  refine v_store2 [some (2, 121), some (1, t), none, some (1, b), none, some (1, (if 0 < t then t else (-Int64.ofInt t).toInt)), none, some (1, b), none, none, none] (hz_X12_fraction hT _ _ rfl) (Nat.le_of_ble_eq_true rfl) rfl ?_
  exact k0 
theorem qr_frac9 {D : zD} {T : zT} (hT : hTab T) (hO : vOK T) {N : Nat} {h : zH} {Q : zR → Prop} (t b x y : Int) (o1 o2 : Option zV) (hv0 : zHv h)
    (k0 : (y = 0) → (x ≠ 0) → (x ≠ 0) → Q (zset (zset h 121 2 (1, ((zd64 0 (Int64.ofInt t) (Int64.ofInt x)).toInt))) 121 3 (1, ((zd64 0 (Int64.ofInt b) (Int64.ofInt x)).toInt)), some (0, 1)))
    (k1 : (y ≠ 0) → (y ≠ 0) → vP D T N 230 9 h [some (2, 121), some (1, t), none, some (1, b), none, some (1, y), none, some (1, ((zd64 1 (Int64.ofInt x) (Int64.ofInt y)).toInt)), none, some (1, ((zd64 1 (Int64.ofInt x) (Int64.ofInt y)).toInt)), none] [] Q) :
    vP D T (N + 1) 230 9 h [some (2, 121), some (1, t), none, some (1, b), none, some (1, x), none, some (1, y), none, o1, o2] [] Q := by
  refine v_loadS (v := (1, y)) (hz_X12_fraction hT _ _ rfl) rfl rfl ?_
  refine v_push (0) (hz_X12_fraction hT _ _ rfl) rfl ?_
  refine v_lif (hz_X12_fraction hT _ _ rfl) (hz_X12_fraction hT _ _ rfl) (fun hc1 => ?_) (fun hc1 => ?_)
  · have hc1 : y = 0 := hc1
    refine v_load (v := (2, 121)) (hz_X12_fraction hT _ _ rfl) rfl rfl ?_
    refine v_load (v := (1, t)) (hz_X12_fraction hT _ _ rfl) rfl rfl ?_
    refine v_load (v := (1, x)) (hz_X12_fraction hT _ _ rfl) rfl rfl ?_
    refine v_div64 (w := ((zd64 0 (Int64.ofInt t) (Int64.ofInt x)).toInt)) (hz_X12_fraction hT _ _ rfl) (fun _ => rfl) (fun hc2 => ?_)
    refine v_putf (r := 121) hO (hz_X12_fraction hT _ _ rfl) rfl (fun hf3 => ?_)
    refine v_load (v := (2, 121)) (hz_X12_fraction hT _ _ rfl) rfl rfl ?_
    refine v_load (v := (1, b)) (hz_X12_fraction hT _ _ rfl) rfl rfl ?_
    refine v_load (v := (1, x)) (hz_X12_fraction hT _ _ rfl) rfl rfl ?_
    refine v_div64 (w := ((zd64 0 (Int64.ofInt b) (Int64.ofInt x)).toInt)) (hz_X12_fraction hT _ _ rfl) (fun _ => rfl) (fun hc4 => ?_)
    refine v_putf (r := 121) hO (hz_X12_fraction hT _ _ rfl) rfl (fun hf5 => ?_)
    refine v_push (1) (hz_X12_fraction hT _ _ rfl) rfl ?_
    refine v_ret (hz_X12_fraction hT _ _ rfl) (Or.inl rfl) ?_
    exact k0 hc1 hc2 hc4
  · have hc1 : y ≠ 0 := hc1
    refine v_load (v := (1, x)) (hz_X12_fraction hT _ _ rfl) rfl rfl ?_
    refine v_load (v := (1, y)) (hz_X12_fraction hT _ _ rfl) rfl rfl ?_
    refine v_div64 (w := ((zd64 1 (Int64.ofInt x) (Int64.ofInt y)).toInt)) (hz_X12_fraction hT _ _ rfl) (fun _ => rfl) (fun hc6 => ?_)
    refine v_store2 [some (2, 121), some (1, t), none, some (1, b), none, some (1, x), none, some (1, y), none, some (1, ((zd64 1 (Int64.ofInt x) (Int64.ofInt y)).toInt)), none] (hz_X12_fraction hT _ _ rfl) (Nat.le_of_ble_eq_true rfl) rfl ?_
    refine v_load (v := (1, y)) (hz_X12_fraction hT _ _ rfl) rfl rfl ?_
    refine v_store2 [some (2, 121), some (1, t), none, some (1, b), none, some (1, y), none, some (1, y), none, some (1, ((zd64 1 (Int64.ofInt x) (Int64.ofInt y)).toInt)), none] (hz_X12_fraction hT _ _ rfl) (Nat.le_of_ble_eq_true rfl) rfl ?_
    refine v_load (v := (1, ((zd64 1 (Int64.ofInt x) (Int64.ofInt y)).toInt))) (hz_X12_fraction hT _ _ rfl) rfl rfl ?_
    refine v_store2 [some (2, 121), some (1, t), none, some (1, b), none, some (1, y), none, some (1, ((zd64 1 (Int64.ofInt x) (Int64.ofInt y)).toInt)), none, some (1, ((zd64 1 (Int64.ofInt x) (Int64.ofInt y)).toInt)), none] (hz_X12_fraction hT _ _ rfl) (Nat.le_of_ble_eq_true rfl) rfl ?_
    refine v_goto (hz_X12_fraction hT _ _ rfl) ?_
    exact k1 hc1 hc6
theorem qr_arr0 {D : zD} {T : zT} (hT : hTab T) (hO : vOK T) {N : Nat} {h : zH} {Q : zR → Prop} (k sd mn : Int) (hv0 : zHv h) (b3 : 0 ≤ (h 126 3).2 ∧ (h 126 3).2 ≤ 6)
    (k0 : (k < 0) → Q (zset (zset (zset h 121 1 (0, 0)) 121 0 (0, 0)) 121 0 (0, 2), some (0, 0)))
    (k1 : (0 ≤ k) → (((h 126 3).2 - 1) < k) → Q (zset (zset (zset h 121 1 (0, 0)) 121 0 (0, 0)) 121 0 (0, 2), some (0, 0)))
    (k2 : (0 ≤ k) → (k ≤ ((h 126 3).2 - 1)) → (mn < 1) → Q (zset (zset (zset h 121 1 (0, 0)) 121 0 (0, 0)) 121 0 (0, 5), some (0, 0)))
    (k3 : (0 ≤ k) → (k ≤ ((h 126 3).2 - 1)) → (1 ≤ mn) → (20 < mn) → Q (zset (zset (zset h 121 1 (0, 0)) 121 0 (0, 0)) 121 0 (0, 5), some (0, 0)))
    (k4 : (0 ≤ k) → (k ≤ ((h 126 3).2 - 1)) → (1 ≤ mn) → (mn ≤ 20) → (sd < 0) → Q (zset (zset (zset h 121 1 (0, 0)) 121 0 (0, 0)) 121 0 (0, 5), some (0, 0)))
    (k5 : (0 ≤ k) → (k ≤ ((h 126 3).2 - 1)) → (1 ≤ mn) → (mn ≤ 20) → (0 ≤ sd) → ((10000 - mn) < sd) → Q (zset (zset (zset h 121 1 (0, 0)) 121 0 (0, 0)) 121 0 (0, 5), some (0, 0)))
    (k6 : (0 ≤ k) → (k ≤ ((h 126 3).2 - 1)) → (1 ≤ mn) → (mn ≤ 20) → (0 ≤ sd) → (sd ≤ (10000 - mn)) → ((h 126 275).2 = 0) → Q (zset (zset (zset h 121 1 (0, 0)) 121 0 (0, 0)) 121 0 (0, 8), some (0, 0)))
    (k7 : (0 ≤ k) → (k ≤ ((h 126 3).2 - 1)) → (1 ≤ mn) → (mn ≤ 20) → (0 ≤ sd) → (sd ≤ (10000 - mn)) → ((h 126 275).2 ≠ 0) → vP D T N 196 78 (zset (zset h 121 1 (0, 0)) 121 0 (0, 0)) [some (2, 121), some (0, k), some (0, sd), some (0, mn), some (0, 0), none, none] [] Q) :
    vP D T N 196 0 h [some (2, 121), some (0, k), some (0, sd), some (0, mn), none, none, none] [] Q := by
  refine v_load (v := (2, 121)) (hz_X12_arrivals hT _ _ rfl) rfl rfl ?_
  refine v_push (0) (hz_X12_arrivals hT _ _ rfl) rfl ?_
  refine v_putf (r := 121) hO (hz_X12_arrivals hT _ _ rfl) rfl (fun hf1 => ?_)
  refine v_load (v := (2, 121)) (hz_X12_arrivals hT _ _ rfl) rfl rfl ?_
  refine v_push (0) (hz_X12_arrivals hT _ _ rfl) rfl ?_
  refine v_putf (r := 121) hO (hz_X12_arrivals hT _ _ rfl) rfl (fun hf2 => ?_)
  refine v_load (v := (2, 121)) (hz_X12_arrivals hT _ _ rfl) rfl rfl ?_
  refine v_load (v := (0, k)) (hz_X12_arrivals hT _ _ rfl) rfl rfl ?_
  refine v_call (w := 2) [some (2, 121), some (0, k)] hO (hz_X12_arrivals hT _ _ rfl) rfl rfl ?_
  refine v_load (v := (0, k)) (hz_X12_isCompanyAt hT _ _ rfl) rfl rfl ?_
  refine v_i2l (hz_X12_isCompanyAt hT _ _ rfl) ?_
  refine v_push (0) (hz_X12_isCompanyAt hT _ _ rfl) rfl ?_
  refine v_load (v := (2, 121)) (hz_X12_isCompanyAt hT _ _ rfl) rfl rfl ?_
  refine v_getR (c := 126) (r := 121) (hz_X12_isCompanyAt hT _ _ rfl) rfl rfl rfl ?_
  refine v_push (3) (hz_X12_isCompanyAt hT _ _ rfl) rfl ?_
  refine v_aldE (t := 0) (r := 126) (w := (h 126 3).2) (hz_X12_isCompanyAt hT _ _ rfl) rfl rfl rfl (congrArg Prod.snd (Eq.trans (zset_ne (fun c => absurd c.1 (by decide))) (zset_ne (fun c => absurd c.1 (by decide))))) (fun ha3 hb4 => ?_)
  refine v_push (1) (hz_X12_isCompanyAt hT _ _ rfl) rfl ?_
  refine v_bin (w := ((h 126 3).2 - 1)) (hz_X12_isCompanyAt hT _ _ rfl) (hq_sub (by omega) (by omega)) ?_
  refine v_i2l (hz_X12_isCompanyAt hT _ _ rfl) ?_
  refine v_call (w := 6) [some (1, k), none, some (1, 0), none, some (1, ((h 126 3).2 - 1)), none] hO (hz_X12_isCompanyAt hT _ _ rfl) rfl rfl ?_
  refine v_load (v := (1, k)) (hz_X12_isIn hT _ _ rfl) rfl rfl ?_
  refine v_load (v := (1, 0)) (hz_X12_isIn hT _ _ rfl) rfl rfl ?_
  refine v_lif (hz_X12_isIn hT _ _ rfl) (hz_X12_isIn hT _ _ rfl) (fun hc5 => ?_) (fun hc5 => ?_)
  · have hc5 : k < 0 := hc5
    refine v_push (0) (hz_X12_isIn hT _ _ rfl) rfl ?_
    refine v_ret (hz_X12_isIn hT _ _ rfl) (Or.inl rfl) ?_
    show vP D T N 246 15 (zset (zset h 121 1 (0, 0)) 121 0 (0, 0)) [some (2, 121), some (0, k)] [(0, 0)] _
    refine v_ret (hz_X12_isCompanyAt hT _ _ rfl) (Or.inl rfl) ?_
    show vP D T N 196 15 (zset (zset h 121 1 (0, 0)) 121 0 (0, 0)) [some (2, 121), some (0, k), some (0, sd), some (0, mn), none, none, none] [(0, 0)] _
    refine v_if (hz_X12_arrivals hT _ _ rfl) (fun _ => ?_) (fun hc6 => absurd (show (0 : Int) = 0 from (by omega)) hc6)
    refine v_load (v := (2, 121)) (hz_X12_arrivals hT _ _ rfl) rfl rfl ?_
    refine v_push (2) (hz_X12_arrivals hT _ _ rfl) rfl ?_
    refine v_call (w := 2) [some (2, 121), some (0, 2)] hO (hz_X12_arrivals hT _ _ rfl) rfl rfl ?_
    refine v_load (v := (2, 121)) (hz_X12_no hT _ _ rfl) rfl rfl ?_
    refine v_load (v := (0, 2)) (hz_X12_no hT _ _ rfl) rfl rfl ?_
    refine v_putf (r := 121) hO (hz_X12_no hT _ _ rfl) rfl (fun hf7 => ?_)
    refine v_push (0) (hz_X12_no hT _ _ rfl) rfl ?_
    refine v_ret (hz_X12_no hT _ _ rfl) (Or.inl rfl) ?_
    show vP D T N 196 23 (zset (zset (zset h 121 1 (0, 0)) 121 0 (0, 0)) 121 0 (0, 2)) [some (2, 121), some (0, k), some (0, sd), some (0, mn), none, none, none] [(0, 0)] _
    refine v_ret (hz_X12_arrivals hT _ _ rfl) (Or.inl rfl) ?_
    exact k0 hc5
  · have hc5 : 0 ≤ k := Int.not_lt.mp hc5
    refine v_load (v := (1, k)) (hz_X12_isIn hT _ _ rfl) rfl rfl ?_
    refine v_load (v := (1, ((h 126 3).2 - 1))) (hz_X12_isIn hT _ _ rfl) rfl rfl ?_
    refine v_lif (hz_X12_isIn hT _ _ rfl) (hz_X12_isIn hT _ _ rfl) (fun hc8 => ?_) (fun hc8 => ?_)
    · have hc8 : ((h 126 3).2 - 1) < k := hc8
      refine v_push (0) (hz_X12_isIn hT _ _ rfl) rfl ?_
      refine v_ret (hz_X12_isIn hT _ _ rfl) (Or.inl rfl) ?_
      show vP D T N 246 15 (zset (zset h 121 1 (0, 0)) 121 0 (0, 0)) [some (2, 121), some (0, k)] [(0, 0)] _
      refine v_ret (hz_X12_isCompanyAt hT _ _ rfl) (Or.inl rfl) ?_
      show vP D T N 196 15 (zset (zset h 121 1 (0, 0)) 121 0 (0, 0)) [some (2, 121), some (0, k), some (0, sd), some (0, mn), none, none, none] [(0, 0)] _
      refine v_if (hz_X12_arrivals hT _ _ rfl) (fun _ => ?_) (fun hc9 => absurd (show (0 : Int) = 0 from (by omega)) hc9)
      refine v_load (v := (2, 121)) (hz_X12_arrivals hT _ _ rfl) rfl rfl ?_
      refine v_push (2) (hz_X12_arrivals hT _ _ rfl) rfl ?_
      refine v_call (w := 2) [some (2, 121), some (0, 2)] hO (hz_X12_arrivals hT _ _ rfl) rfl rfl ?_
      refine v_load (v := (2, 121)) (hz_X12_no hT _ _ rfl) rfl rfl ?_
      refine v_load (v := (0, 2)) (hz_X12_no hT _ _ rfl) rfl rfl ?_
      refine v_putf (r := 121) hO (hz_X12_no hT _ _ rfl) rfl (fun hf10 => ?_)
      refine v_push (0) (hz_X12_no hT _ _ rfl) rfl ?_
      refine v_ret (hz_X12_no hT _ _ rfl) (Or.inl rfl) ?_
      show vP D T N 196 23 (zset (zset (zset h 121 1 (0, 0)) 121 0 (0, 0)) 121 0 (0, 2)) [some (2, 121), some (0, k), some (0, sd), some (0, mn), none, none, none] [(0, 0)] _
      refine v_ret (hz_X12_arrivals hT _ _ rfl) (Or.inl rfl) ?_
      exact k1 hc5 hc8
    · have hc8 : k ≤ ((h 126 3).2 - 1) := Int.not_lt.mp hc8
      refine v_push (1) (hz_X12_isIn hT _ _ rfl) rfl ?_
      refine v_goto (hz_X12_isIn hT _ _ rfl) ?_
      refine v_ret (hz_X12_isIn hT _ _ rfl) (Or.inl rfl) ?_
      show vP D T N 246 15 (zset (zset h 121 1 (0, 0)) 121 0 (0, 0)) [some (2, 121), some (0, k)] [(0, 1)] _
      refine v_ret (hz_X12_isCompanyAt hT _ _ rfl) (Or.inl rfl) ?_
      show vP D T N 196 15 (zset (zset h 121 1 (0, 0)) 121 0 (0, 0)) [some (2, 121), some (0, k), some (0, sd), some (0, mn), none, none, none] [(0, 1)] _
      refine v_if (hz_X12_arrivals hT _ _ rfl) (fun hc11 => absurd (show (1 : Int) = 0 from hc11) (by omega)) (fun _ => ?_)
      refine v_load (v := (0, mn)) (hz_X12_arrivals hT _ _ rfl) rfl rfl ?_
      refine v_i2l (hz_X12_arrivals hT _ _ rfl) ?_
      refine v_push (1) (hz_X12_arrivals hT _ _ rfl) rfl ?_
      refine v_push (20) (hz_X12_arrivals hT _ _ rfl) rfl ?_
      refine v_call (w := 6) [some (1, mn), none, some (1, 1), none, some (1, 20), none] hO (hz_X12_arrivals hT _ _ rfl) rfl rfl ?_
      refine v_load (v := (1, mn)) (hz_X12_isIn hT _ _ rfl) rfl rfl ?_
      refine v_load (v := (1, 1)) (hz_X12_isIn hT _ _ rfl) rfl rfl ?_
      refine v_lif (hz_X12_isIn hT _ _ rfl) (hz_X12_isIn hT _ _ rfl) (fun hc12 => ?_) (fun hc12 => ?_)
      · have hc12 : mn < 1 := hc12
        refine v_push (0) (hz_X12_isIn hT _ _ rfl) rfl ?_
        refine v_ret (hz_X12_isIn hT _ _ rfl) (Or.inl rfl) ?_
        show vP D T N 196 33 (zset (zset h 121 1 (0, 0)) 121 0 (0, 0)) [some (2, 121), some (0, k), some (0, sd), some (0, mn), none, none, none] [(0, 0)] _
        refine v_if (hz_X12_arrivals hT _ _ rfl) (fun _ => ?_) (fun hc13 => absurd (show (0 : Int) = 0 from (by omega)) hc13)
        refine v_load (v := (2, 121)) (hz_X12_arrivals hT _ _ rfl) rfl rfl ?_
        refine v_push (5) (hz_X12_arrivals hT _ _ rfl) rfl ?_
        refine v_call (w := 2) [some (2, 121), some (0, 5)] hO (hz_X12_arrivals hT _ _ rfl) rfl rfl ?_
        refine v_load (v := (2, 121)) (hz_X12_no hT _ _ rfl) rfl rfl ?_
        refine v_load (v := (0, 5)) (hz_X12_no hT _ _ rfl) rfl rfl ?_
        refine v_putf (r := 121) hO (hz_X12_no hT _ _ rfl) rfl (fun hf14 => ?_)
        refine v_push (0) (hz_X12_no hT _ _ rfl) rfl ?_
        refine v_ret (hz_X12_no hT _ _ rfl) (Or.inl rfl) ?_
        show vP D T N 196 56 (zset (zset (zset h 121 1 (0, 0)) 121 0 (0, 0)) 121 0 (0, 5)) [some (2, 121), some (0, k), some (0, sd), some (0, mn), none, none, none] [(0, 0)] _
        refine v_ret (hz_X12_arrivals hT _ _ rfl) (Or.inl rfl) ?_
        exact k2 hc5 hc8 hc12
      · have hc12 : 1 ≤ mn := Int.not_lt.mp hc12
        refine v_load (v := (1, mn)) (hz_X12_isIn hT _ _ rfl) rfl rfl ?_
        refine v_load (v := (1, 20)) (hz_X12_isIn hT _ _ rfl) rfl rfl ?_
        refine v_lif (hz_X12_isIn hT _ _ rfl) (hz_X12_isIn hT _ _ rfl) (fun hc15 => ?_) (fun hc15 => ?_)
        · have hc15 : 20 < mn := hc15
          refine v_push (0) (hz_X12_isIn hT _ _ rfl) rfl ?_
          refine v_ret (hz_X12_isIn hT _ _ rfl) (Or.inl rfl) ?_
          show vP D T N 196 33 (zset (zset h 121 1 (0, 0)) 121 0 (0, 0)) [some (2, 121), some (0, k), some (0, sd), some (0, mn), none, none, none] [(0, 0)] _
          refine v_if (hz_X12_arrivals hT _ _ rfl) (fun _ => ?_) (fun hc16 => absurd (show (0 : Int) = 0 from (by omega)) hc16)
          refine v_load (v := (2, 121)) (hz_X12_arrivals hT _ _ rfl) rfl rfl ?_
          refine v_push (5) (hz_X12_arrivals hT _ _ rfl) rfl ?_
          refine v_call (w := 2) [some (2, 121), some (0, 5)] hO (hz_X12_arrivals hT _ _ rfl) rfl rfl ?_
          refine v_load (v := (2, 121)) (hz_X12_no hT _ _ rfl) rfl rfl ?_
          refine v_load (v := (0, 5)) (hz_X12_no hT _ _ rfl) rfl rfl ?_
          refine v_putf (r := 121) hO (hz_X12_no hT _ _ rfl) rfl (fun hf17 => ?_)
          refine v_push (0) (hz_X12_no hT _ _ rfl) rfl ?_
          refine v_ret (hz_X12_no hT _ _ rfl) (Or.inl rfl) ?_
          show vP D T N 196 56 (zset (zset (zset h 121 1 (0, 0)) 121 0 (0, 0)) 121 0 (0, 5)) [some (2, 121), some (0, k), some (0, sd), some (0, mn), none, none, none] [(0, 0)] _
          refine v_ret (hz_X12_arrivals hT _ _ rfl) (Or.inl rfl) ?_
          exact k3 hc5 hc8 hc12 hc15
        · have hc15 : mn ≤ 20 := Int.not_lt.mp hc15
          refine v_push (1) (hz_X12_isIn hT _ _ rfl) rfl ?_
          refine v_goto (hz_X12_isIn hT _ _ rfl) ?_
          refine v_ret (hz_X12_isIn hT _ _ rfl) (Or.inl rfl) ?_
          show vP D T N 196 33 (zset (zset h 121 1 (0, 0)) 121 0 (0, 0)) [some (2, 121), some (0, k), some (0, sd), some (0, mn), none, none, none] [(0, 1)] _
          refine v_if (hz_X12_arrivals hT _ _ rfl) (fun hc18 => absurd (show (1 : Int) = 0 from hc18) (by omega)) (fun _ => ?_)
          refine v_load (v := (0, sd)) (hz_X12_arrivals hT _ _ rfl) rfl rfl ?_
          refine v_i2l (hz_X12_arrivals hT _ _ rfl) ?_
          refine v_push (0) (hz_X12_arrivals hT _ _ rfl) rfl ?_
          refine v_push (10000) (hz_X12_arrivals hT _ _ rfl) rfl ?_
          refine v_load (v := (0, mn)) (hz_X12_arrivals hT _ _ rfl) rfl rfl ?_
          refine v_bin (w := (10000 - mn)) (hz_X12_arrivals hT _ _ rfl) (hq_sub (by omega) (by omega)) ?_
          refine v_i2l (hz_X12_arrivals hT _ _ rfl) ?_
          refine v_call (w := 6) [some (1, sd), none, some (1, 0), none, some (1, (10000 - mn)), none] hO (hz_X12_arrivals hT _ _ rfl) rfl rfl ?_
          refine v_load (v := (1, sd)) (hz_X12_isIn hT _ _ rfl) rfl rfl ?_
          refine v_load (v := (1, 0)) (hz_X12_isIn hT _ _ rfl) rfl rfl ?_
          refine v_lif (hz_X12_isIn hT _ _ rfl) (hz_X12_isIn hT _ _ rfl) (fun hc19 => ?_) (fun hc19 => ?_)
          · have hc19 : sd < 0 := hc19
            refine v_push (0) (hz_X12_isIn hT _ _ rfl) rfl ?_
            refine v_ret (hz_X12_isIn hT _ _ rfl) (Or.inl rfl) ?_
            show vP D T N 196 48 (zset (zset h 121 1 (0, 0)) 121 0 (0, 0)) [some (2, 121), some (0, k), some (0, sd), some (0, mn), none, none, none] [(0, 0)] _
            refine v_if (hz_X12_arrivals hT _ _ rfl) (fun _ => ?_) (fun hc20 => absurd (show (0 : Int) = 0 from (by omega)) hc20)
            refine v_load (v := (2, 121)) (hz_X12_arrivals hT _ _ rfl) rfl rfl ?_
            refine v_push (5) (hz_X12_arrivals hT _ _ rfl) rfl ?_
            refine v_call (w := 2) [some (2, 121), some (0, 5)] hO (hz_X12_arrivals hT _ _ rfl) rfl rfl ?_
            refine v_load (v := (2, 121)) (hz_X12_no hT _ _ rfl) rfl rfl ?_
            refine v_load (v := (0, 5)) (hz_X12_no hT _ _ rfl) rfl rfl ?_
            refine v_putf (r := 121) hO (hz_X12_no hT _ _ rfl) rfl (fun hf21 => ?_)
            refine v_push (0) (hz_X12_no hT _ _ rfl) rfl ?_
            refine v_ret (hz_X12_no hT _ _ rfl) (Or.inl rfl) ?_
            show vP D T N 196 56 (zset (zset (zset h 121 1 (0, 0)) 121 0 (0, 0)) 121 0 (0, 5)) [some (2, 121), some (0, k), some (0, sd), some (0, mn), none, none, none] [(0, 0)] _
            refine v_ret (hz_X12_arrivals hT _ _ rfl) (Or.inl rfl) ?_
            exact k4 hc5 hc8 hc12 hc15 hc19
          · have hc19 : 0 ≤ sd := Int.not_lt.mp hc19
            refine v_load (v := (1, sd)) (hz_X12_isIn hT _ _ rfl) rfl rfl ?_
            refine v_load (v := (1, (10000 - mn))) (hz_X12_isIn hT _ _ rfl) rfl rfl ?_
            refine v_lif (hz_X12_isIn hT _ _ rfl) (hz_X12_isIn hT _ _ rfl) (fun hc22 => ?_) (fun hc22 => ?_)
            · have hc22 : (10000 - mn) < sd := hc22
              refine v_push (0) (hz_X12_isIn hT _ _ rfl) rfl ?_
              refine v_ret (hz_X12_isIn hT _ _ rfl) (Or.inl rfl) ?_
              show vP D T N 196 48 (zset (zset h 121 1 (0, 0)) 121 0 (0, 0)) [some (2, 121), some (0, k), some (0, sd), some (0, mn), none, none, none] [(0, 0)] _
              refine v_if (hz_X12_arrivals hT _ _ rfl) (fun _ => ?_) (fun hc23 => absurd (show (0 : Int) = 0 from (by omega)) hc23)
              refine v_load (v := (2, 121)) (hz_X12_arrivals hT _ _ rfl) rfl rfl ?_
              refine v_push (5) (hz_X12_arrivals hT _ _ rfl) rfl ?_
              refine v_call (w := 2) [some (2, 121), some (0, 5)] hO (hz_X12_arrivals hT _ _ rfl) rfl rfl ?_
              refine v_load (v := (2, 121)) (hz_X12_no hT _ _ rfl) rfl rfl ?_
              refine v_load (v := (0, 5)) (hz_X12_no hT _ _ rfl) rfl rfl ?_
              refine v_putf (r := 121) hO (hz_X12_no hT _ _ rfl) rfl (fun hf24 => ?_)
              refine v_push (0) (hz_X12_no hT _ _ rfl) rfl ?_
              refine v_ret (hz_X12_no hT _ _ rfl) (Or.inl rfl) ?_
              show vP D T N 196 56 (zset (zset (zset h 121 1 (0, 0)) 121 0 (0, 0)) 121 0 (0, 5)) [some (2, 121), some (0, k), some (0, sd), some (0, mn), none, none, none] [(0, 0)] _
              refine v_ret (hz_X12_arrivals hT _ _ rfl) (Or.inl rfl) ?_
              exact k5 hc5 hc8 hc12 hc15 hc19 hc22
            · have hc22 : sd ≤ (10000 - mn) := Int.not_lt.mp hc22
              refine v_push (1) (hz_X12_isIn hT _ _ rfl) rfl ?_
              refine v_goto (hz_X12_isIn hT _ _ rfl) ?_
              refine v_ret (hz_X12_isIn hT _ _ rfl) (Or.inl rfl) ?_
              show vP D T N 196 48 (zset (zset h 121 1 (0, 0)) 121 0 (0, 0)) [some (2, 121), some (0, k), some (0, sd), some (0, mn), none, none, none] [(0, 1)] _
              refine v_if (hz_X12_arrivals hT _ _ rfl) (fun hc25 => absurd (show (1 : Int) = 0 from hc25) (by omega)) (fun _ => ?_)
              refine v_load (v := (2, 121)) (hz_X12_arrivals hT _ _ rfl) rfl rfl ?_
              refine v_getR (c := 126) (r := 121) (hz_X12_arrivals hT _ _ rfl) rfl rfl rfl ?_
              refine v_push (275) (hz_X12_arrivals hT _ _ rfl) rfl ?_
              refine v_aldE (t := 0) (r := 126) (w := (h 126 275).2) (hz_X12_arrivals hT _ _ rfl) rfl rfl rfl (congrArg Prod.snd (Eq.trans (zset_ne (fun c => absurd c.1 (by decide))) (zset_ne (fun c => absurd c.1 (by decide))))) (fun ha26 hb27 => ?_)
              refine v_if (hz_X12_arrivals hT _ _ rfl) (fun hc28 => ?_) (fun hc28 => ?_)
              · have hc28 : (h 126 275).2 = 0 := hc28
                refine v_load (v := (2, 121)) (hz_X12_arrivals hT _ _ rfl) rfl rfl ?_
                refine v_push (8) (hz_X12_arrivals hT _ _ rfl) rfl ?_
                refine v_call (w := 2) [some (2, 121), some (0, 8)] hO (hz_X12_arrivals hT _ _ rfl) rfl rfl ?_
                refine v_load (v := (2, 121)) (hz_X12_no hT _ _ rfl) rfl rfl ?_
                refine v_load (v := (0, 8)) (hz_X12_no hT _ _ rfl) rfl rfl ?_
                refine v_putf (r := 121) hO (hz_X12_no hT _ _ rfl) rfl (fun hf29 => ?_)
                refine v_push (0) (hz_X12_no hT _ _ rfl) rfl ?_
                refine v_ret (hz_X12_no hT _ _ rfl) (Or.inl rfl) ?_
                show vP D T N 196 74 (zset (zset (zset h 121 1 (0, 0)) 121 0 (0, 0)) 121 0 (0, 8)) [some (2, 121), some (0, k), some (0, sd), some (0, mn), none, none, none] [(0, 0)] _
                refine v_ret (hz_X12_arrivals hT _ _ rfl) (Or.inl rfl) ?_
                exact k6 hc5 hc8 hc12 hc15 hc19 hc22 hc28
              · have hc28 : (h 126 275).2 ≠ 0 := hc28
                refine v_push (0) (hz_X12_arrivals hT _ _ rfl) rfl ?_
                refine v_store1 [some (2, 121), some (0, k), some (0, sd), some (0, mn), some (0, 0), none, none] (hz_X12_arrivals hT _ _ rfl) ⟨rfl, Nat.ne_of_beq_eq_false rfl⟩ (Nat.le_of_ble_eq_true rfl) rfl ?_
                exact k7 hc5 hc8 hc12 hc15 hc19 hc22 hc28
theorem qr_arr78 {D : zD} {T : zT} (hT : hTab T) (hO : vOK T) {N : Nat} {h : zH} {Q : zR → Prop} (k sd mn x : Int) (o1 o2 : Option zV) (hv0 : zHv h) (bx : 0 ≤ x ∧ x ≤ 275)
    (k0 : (x < 275) → (0 ≤ x) → (x < 2750) → vP D T N 196 78 (zset h 127 x.toNat (0, (h 126 x.toNat).2)) [some (2, 121), some (0, k), some (0, sd), some (0, mn), some (0, (x + 1)), o1, o2] [] Q)
    (k1 : (275 ≤ x) → vP D T N 196 112 h [some (2, 121), some (0, k), some (0, sd), some (0, mn), some (0, 0), some (0, 0), o2] [] Q) :
    vP D T (N + 1) 196 78 h [some (2, 121), some (0, k), some (0, sd), some (0, mn), some (0, x), o1, o2] [] Q := by
  refine v_loadS (v := (0, x)) (hz_X12_arrivals hT _ _ rfl) rfl rfl ?_
  refine v_push (275) (hz_X12_arrivals hT _ _ rfl) rfl ?_
  refine v_ic (hz_X12_arrivals hT _ _ rfl) (fun hc1 => ?_) (fun hc1 => ?_)
  · have hc1 : x < 275 := hc1
    refine v_load (v := (2, 121)) (hz_X12_arrivals hT _ _ rfl) rfl rfl ?_
    refine v_getR (c := 127) (r := 121) (hz_X12_arrivals hT _ _ rfl) rfl rfl rfl ?_
    refine v_load (v := (0, x)) (hz_X12_arrivals hT _ _ rfl) rfl rfl ?_
    refine v_load (v := (2, 121)) (hz_X12_arrivals hT _ _ rfl) rfl rfl ?_
    refine v_getR (c := 126) (r := 121) (hz_X12_arrivals hT _ _ rfl) rfl rfl rfl ?_
    refine v_load (v := (0, x)) (hz_X12_arrivals hT _ _ rfl) rfl rfl ?_
    refine v_ald (t := 0) (r := 126) (hz_X12_arrivals hT _ _ rfl) rfl rfl rfl (fun ha2 hb3 => ?_)
    refine v_ast (r := 127) (hz_X12_arrivals hT _ _ rfl) rfl rfl (fun ha4 hb5 hf6 => ?_)
    refine v_iinc (x := x) (u := 1) (w := (x + 1)) [some (2, 121), some (0, k), some (0, sd), some (0, mn), some (0, (x + 1)), o1, o2] (hz_X12_arrivals hT _ _ rfl) rfl rfl (Nat.le_of_ble_eq_true rfl) (vz_inc (by omega) (by omega)) rfl ?_
    refine v_goto (hz_X12_arrivals hT _ _ rfl) ?_
    exact k0 hc1 ha2 hb3
  · have hc1 : 275 ≤ x := Int.not_lt.mp hc1
    refine v_push (0) (hz_X12_arrivals hT _ _ rfl) rfl ?_
    refine v_store1 [some (2, 121), some (0, k), some (0, sd), some (0, mn), some (0, 0), o1, o2] (hz_X12_arrivals hT _ _ rfl) ⟨rfl, Nat.ne_of_beq_eq_false rfl⟩ (Nat.le_of_ble_eq_true rfl) rfl ?_
    refine v_push (0) (hz_X12_arrivals hT _ _ rfl) rfl ?_
    refine v_store1 [some (2, 121), some (0, k), some (0, sd), some (0, mn), some (0, 0), some (0, 0), o2] (hz_X12_arrivals hT _ _ rfl) ⟨rfl, Nat.ne_of_beq_eq_false rfl⟩ (Nat.le_of_ble_eq_true rfl) rfl ?_
    exact k1 hc1
theorem qr_arr112 {D : zD} {T : zT} (hT : hTab T) (hO : vOK T) {N : Nat} {h : zH} {Q : zR → Prop} (k sd mn n i : Int) (o2 : Option zV) (hv0 : zHv h) (bk : 0 ≤ k ∧ k ≤ 6) (bsd : 0 ≤ sd ∧ sd ≤ 10000) (bn : 0 ≤ n ∧ n ≤ 20) (bi : 0 ≤ i ∧ i ≤ 20) (hU : oH 127 121 21 h) (hRn : ∀ (N : Nat) (s : Int) (g : zH), oH 127 121 21 g → vP D T N 308 0 g [some (2, 121), some (0, s)] [] (fun r => r.2 = none ∧ (∀ j, r.1 127 j = g 127 j) ∧ oH 127 121 21 r.1)) (hFr : ∀ (N : Nat) (t b : Int) (g : zH), vP D T N 230 0 g [some (2, 121), some (1, t), none, some (1, b), none, none, none, none, none, none, none] [] (fun r => r.2 = some (0, 1) ∧ ∀ j, r.1 126 j = g 126 j))
    (k0 : (i < mn) → ∀ (g2 : zH), ((∀ j, g2 127 j = h 127 j) ∧ oH 127 121 21 g2) → (0 ≤ (245 + k)) → ((245 + k) < 2750) → (0 ≤ (251 + k)) → ((251 + k) < 2750) → ((g2 126 ((245 + k)).toNat).2 = (g2 126 ((251 + k)).toNat).2) → vP D T N 196 162 g2 [some (2, 121), some (0, k), some (0, sd), some (0, mn), some (0, (n + 1)), some (0, i), some (0, 0)] [] Q)
    (k1 : (i < mn) → ∀ (g2 : zH), ((∀ j, g2 127 j = h 127 j) ∧ oH 127 121 21 g2) → (0 ≤ (245 + k)) → ((245 + k) < 2750) → (0 ≤ (251 + k)) → ((251 + k) < 2750) → ((g2 126 ((245 + k)).toNat).2 ≠ (g2 126 ((251 + k)).toNat).2) → vP D T N 196 162 g2 [some (2, 121), some (0, k), some (0, sd), some (0, mn), some (0, (n + 0)), some (0, i), some (0, 0)] [] Q)
    (k2 : (mn ≤ i) → ∀ (g8 : zH), ((∀ j, g8 126 j = h 126 j)) → Q (g8, some (0, 1))) :
    vP D T N 196 112 h [some (2, 121), some (0, k), some (0, sd), some (0, mn), some (0, n), some (0, i), o2] [] Q := by
  refine v_load (v := (0, i)) (hz_X12_arrivals hT _ _ rfl) rfl rfl ?_
  refine v_load (v := (0, mn)) (hz_X12_arrivals hT _ _ rfl) rfl rfl ?_
  refine v_ic (hz_X12_arrivals hT _ _ rfl) (fun hc1 => ?_) (fun hc1 => ?_)
  · have hc1 : i < mn := hc1
    refine v_load (v := (2, 121)) (hz_X12_arrivals hT _ _ rfl) rfl rfl ?_
    refine v_load (v := (0, sd)) (hz_X12_arrivals hT _ _ rfl) rfl rfl ?_
    refine v_load (v := (0, i)) (hz_X12_arrivals hT _ _ rfl) rfl rfl ?_
    refine v_bin (w := (sd + i)) (hz_X12_arrivals hT _ _ rfl) (hq_add (by omega) (by omega)) ?_
    refine v_call (w := 2) [some (2, 121), some (0, (sd + i))] hO (hz_X12_arrivals hT _ _ rfl) rfl rfl (vRn_k (hRn _ ((sd + i)) _ hU) (fun g2 u2 => ?_))
    · show vP D T N 196 126 g2 [some (2, 121), some (0, k), some (0, sd), some (0, mn), some (0, n), some (0, i), o2] [] _
      refine vP_hv (fun hv2 => ?_)
      refine v_load (v := (0, n)) (hz_X12_arrivals hT _ _ rfl) rfl rfl ?_
      refine v_load (v := (2, 121)) (hz_X12_arrivals hT _ _ rfl) rfl rfl ?_
      refine v_getR (c := 126) (r := 121) (hz_X12_arrivals hT _ _ rfl) rfl rfl rfl ?_
      refine v_push (245) (hz_X12_arrivals hT _ _ rfl) rfl ?_
      refine v_load (v := (0, k)) (hz_X12_arrivals hT _ _ rfl) rfl rfl ?_
      refine v_bin (w := (245 + k)) (hz_X12_arrivals hT _ _ rfl) (hq_add (by omega) (by omega)) ?_
      refine v_ald (t := 0) (r := 126) (hz_X12_arrivals hT _ _ rfl) rfl rfl rfl (fun ha3 hb4 => ?_)
      refine v_load (v := (2, 121)) (hz_X12_arrivals hT _ _ rfl) rfl rfl ?_
      refine v_getR (c := 126) (r := 121) (hz_X12_arrivals hT _ _ rfl) rfl rfl rfl ?_
      refine v_push (251) (hz_X12_arrivals hT _ _ rfl) rfl ?_
      refine v_load (v := (0, k)) (hz_X12_arrivals hT _ _ rfl) rfl rfl ?_
      refine v_bin (w := (251 + k)) (hz_X12_arrivals hT _ _ rfl) (hq_add (by omega) (by omega)) ?_
      refine v_ald (t := 0) (r := 126) (hz_X12_arrivals hT _ _ rfl) rfl rfl rfl (fun ha5 hb6 => ?_)
      refine v_ic (hz_X12_arrivals hT _ _ rfl) (fun hc7 => ?_) (fun hc7 => ?_)
      · have hc7 : (g2 126 ((245 + k)).toNat).2 = (g2 126 ((251 + k)).toNat).2 := hc7
        refine v_push (1) (hz_X12_arrivals hT _ _ rfl) rfl ?_
        refine v_goto (hz_X12_arrivals hT _ _ rfl) ?_
        refine v_bin (w := (n + 1)) (hz_X12_arrivals hT _ _ rfl) (hq_add (by omega) (by omega)) ?_
        refine v_store1 [some (2, 121), some (0, k), some (0, sd), some (0, mn), some (0, (n + 1)), some (0, i), o2] (hz_X12_arrivals hT _ _ rfl) ⟨rfl, Nat.ne_of_beq_eq_false rfl⟩ (Nat.le_of_ble_eq_true rfl) rfl ?_
        refine v_push (0) (hz_X12_arrivals hT _ _ rfl) rfl ?_
        refine v_store1 [some (2, 121), some (0, k), some (0, sd), some (0, mn), some (0, (n + 1)), some (0, i), some (0, 0)] (hz_X12_arrivals hT _ _ rfl) ⟨rfl, Nat.ne_of_beq_eq_false rfl⟩ (Nat.le_of_ble_eq_true rfl) rfl ?_
        exact k0 hc1 g2 u2 ha3 hb4 ha5 hb6 hc7
      · have hc7 : (g2 126 ((245 + k)).toNat).2 ≠ (g2 126 ((251 + k)).toNat).2 := hc7
        refine v_push (0) (hz_X12_arrivals hT _ _ rfl) rfl ?_
        refine v_bin (w := (n + 0)) (hz_X12_arrivals hT _ _ rfl) (hq_add (by omega) (by omega)) ?_
        refine v_store1 [some (2, 121), some (0, k), some (0, sd), some (0, mn), some (0, (n + 0)), some (0, i), o2] (hz_X12_arrivals hT _ _ rfl) ⟨rfl, Nat.ne_of_beq_eq_false rfl⟩ (Nat.le_of_ble_eq_true rfl) rfl ?_
        refine v_push (0) (hz_X12_arrivals hT _ _ rfl) rfl ?_
        refine v_store1 [some (2, 121), some (0, k), some (0, sd), some (0, mn), some (0, (n + 0)), some (0, i), some (0, 0)] (hz_X12_arrivals hT _ _ rfl) ⟨rfl, Nat.ne_of_beq_eq_false rfl⟩ (Nat.le_of_ble_eq_true rfl) rfl ?_
        exact k1 hc1 g2 u2 ha3 hb4 ha5 hb6 hc7
  · have hc1 : mn ≤ i := Int.not_lt.mp hc1
    refine v_load (v := (2, 121)) (hz_X12_arrivals hT _ _ rfl) rfl rfl ?_
    refine v_load (v := (0, n)) (hz_X12_arrivals hT _ _ rfl) rfl rfl ?_
    refine v_i2l (hz_X12_arrivals hT _ _ rfl) ?_
    refine v_load (v := (0, mn)) (hz_X12_arrivals hT _ _ rfl) rfl rfl ?_
    refine v_i2l (hz_X12_arrivals hT _ _ rfl) ?_
    refine v_call (w := 11) [some (2, 121), some (1, n), none, some (1, mn), none, none, none, none, none, none, none] hO (hz_X12_arrivals hT _ _ rfl) rfl rfl (vFr_k (hFr _ n mn _) (fun g8 u8 => ?_))
    · show vP D T N 196 205 g8 [some (2, 121), some (0, k), some (0, sd), some (0, mn), some (0, n), some (0, i), o2] [(0, 1)] _
      refine vP_hv (fun hv8 => ?_)
      refine v_ret (hz_X12_arrivals hT _ _ rfl) (Or.inl rfl) ?_
      exact k2 hc1 g8 u8
theorem qr_arr162 {D : zD} {T : zT} (hT : hTab T) (hO : vOK T) {N : Nat} {h : zH} {Q : zR → Prop} (k sd mn n i x : Int) (hv0 : zHv h) (bi : 0 ≤ i ∧ i ≤ 20) (bx : 0 ≤ x ∧ x ≤ 275)
    (k0 : (x < 275) → (0 ≤ x) → (x < 2750) → vP D T N 196 162 (zset h 126 x.toNat (0, (h 127 x.toNat).2)) [some (2, 121), some (0, k), some (0, sd), some (0, mn), some (0, n), some (0, i), some (0, (x + 1))] [] Q)
    (k1 : (275 ≤ x) → vP D T N 196 112 h [some (2, 121), some (0, k), some (0, sd), some (0, mn), some (0, n), some (0, (i + 1)), some (0, x)] [] Q) :
    vP D T (N + 1) 196 162 h [some (2, 121), some (0, k), some (0, sd), some (0, mn), some (0, n), some (0, i), some (0, x)] [] Q := by
  refine v_loadS (v := (0, x)) (hz_X12_arrivals hT _ _ rfl) rfl rfl ?_
  refine v_push (275) (hz_X12_arrivals hT _ _ rfl) rfl ?_
  refine v_ic (hz_X12_arrivals hT _ _ rfl) (fun hc1 => ?_) (fun hc1 => ?_)
  · have hc1 : x < 275 := hc1
    refine v_load (v := (2, 121)) (hz_X12_arrivals hT _ _ rfl) rfl rfl ?_
    refine v_getR (c := 126) (r := 121) (hz_X12_arrivals hT _ _ rfl) rfl rfl rfl ?_
    refine v_load (v := (0, x)) (hz_X12_arrivals hT _ _ rfl) rfl rfl ?_
    refine v_load (v := (2, 121)) (hz_X12_arrivals hT _ _ rfl) rfl rfl ?_
    refine v_getR (c := 127) (r := 121) (hz_X12_arrivals hT _ _ rfl) rfl rfl rfl ?_
    refine v_load (v := (0, x)) (hz_X12_arrivals hT _ _ rfl) rfl rfl ?_
    refine v_ald (t := 0) (r := 127) (hz_X12_arrivals hT _ _ rfl) rfl rfl rfl (fun ha2 hb3 => ?_)
    refine v_ast (r := 126) (hz_X12_arrivals hT _ _ rfl) rfl rfl (fun ha4 hb5 hf6 => ?_)
    refine v_iinc (x := x) (u := 1) (w := (x + 1)) [some (2, 121), some (0, k), some (0, sd), some (0, mn), some (0, n), some (0, i), some (0, (x + 1))] (hz_X12_arrivals hT _ _ rfl) rfl rfl (Nat.le_of_ble_eq_true rfl) (vz_inc (by omega) (by omega)) rfl ?_
    refine v_goto (hz_X12_arrivals hT _ _ rfl) ?_
    exact k0 hc1 ha2 hb5
  · have hc1 : 275 ≤ x := Int.not_lt.mp hc1
    refine v_iinc (x := i) (u := 1) (w := (i + 1)) [some (2, 121), some (0, k), some (0, sd), some (0, mn), some (0, n), some (0, (i + 1)), some (0, x)] (hz_X12_arrivals hT _ _ rfl) rfl rfl (Nat.le_of_ble_eq_true rfl) (vz_inc (by omega) (by omega)) rfl ?_
    refine v_goto (hz_X12_arrivals hT _ _ rfl) ?_
    exact k1 hc1
theorem rx_frac {D : zD} {T : zT} (hT : hTab T) (hO : vOK T) {N : Nat} {h : zH} (t b : Int) : vP D T N 230 0 h [some (2, 121), some (1, t), none, some (1, b), none, none, none, none, none, none, none] [] (fun r => r.2 = some (0, 1) ∧ ∀ j, r.1 126 j = h 126 j) := by
  refine vP_hv (fun hv => qr_frac0 hT hO t b hv ?_)
  refine vP_loop (fun h' l => ∃ (x y : Int) (o1 o2 : Option zV), l = [some (2, 121), some (1, t), none, some (1, b), none, some (1, x), none, some (1, y), none, o1, o2] ∧ h' = h) ?_ N _ _ ⟨_, _, _, _, rfl, rfl⟩
  rintro N h' l ⟨x, y, o1, o2, rfl, rfl⟩ ih
  refine vP_hv (fun hv => qr_frac9 hT hO t b x y o1 o2 hv ?_ ?_)
  · intro _ _ _
    exact ⟨rfl, fun j => by dsimp only; rw [zset_ne (by omega), zset_ne (by omega)]⟩
  · intro _ _
    exact ih _ _ ⟨_, _, _, _, rfl, rfl⟩
def rArC (k sd mn : Int) (h : zH) : Prop := 0 ≤ k ∧ k ≤ (h 126 3).2 - 1 ∧ 1 ≤ mn ∧ mn ≤ 20 ∧ 0 ≤ sd ∧ sd ≤ 10000 - mn ∧ (h 126 275).2 ≠ 0
def rAr (k sd mn : Int) (h : zH) (x : zR) : Prop := (¬ rArC k sd mn h ∧ x.2 = some (0, 0) ∧ ∀ j, x.1 126 j = h 126 j) ∨ (rArC k sd mn h ∧ x.2 = some (0, 1) ∧ ∀ j, j < 275 → x.1 126 j = h 126 j)
theorem rx_arr_loop {D : zD} {T : zT} (hT : hTab T) (hO : vOK T) {h : zH} {k sd mn : Int} (hRn : ∀ (N : Nat) (s : Int) (g : zH), oH 127 121 21 g → vP D T N 308 0 g [some (2, 121), some (0, s)] [] (fun r => r.2 = none ∧ (∀ j, r.1 127 j = g 127 j) ∧ oH 127 121 21 r.1)) (hv0 : zHv h) (hC : rArC k sd mn h) (b3 : (h 126 3).2 ≤ 6) : ∀ N, (∀ h' n i o, (0 ≤ n ∧ n ≤ i) → i ≤ mn → oH 127 121 21 h' → (∀ j, j < 275 → h' 127 j = h 126 j) → (∀ j, j < 275 → h' 126 j = h 126 j) → vP D T N 196 112 h' [some (2, 121), some (0, k), some (0, sd), some (0, mn), some (0, n), some (0, i), o] [] (rAr k sd mn h)) ∧ (∀ h' n i (x : Nat), (0 ≤ n ∧ n ≤ i + 1) → 0 ≤ i → i < mn → x ≤ 275 → oH 127 121 21 h' → (∀ j, j < 275 → h' 127 j = h 126 j) → (∀ j, j < x → h' 126 j = h 126 j) → vP D T N 196 162 h' [some (2, 121), some (0, k), some (0, sd), some (0, mn), some (0, n), some (0, i), some (0, (x : Int))] [] (rAr k sd mn h)) := by
  have hC' := hC
  obtain ⟨c1, c2, c3, c4, c5, c6, c7⟩ := hC'
  intro N
  induction N with
  | zero => exact ⟨fun _ _ _ _ _ _ _ _ _ _ n _ hn => absurd hn (Nat.not_lt_zero _), fun _ _ _ _ _ _ _ _ _ _ _ _ n _ hn => absurd hn (Nat.not_lt_zero _)⟩
  | succ N ih =>
    have B : ∀ h' n i (x : Nat), (0 ≤ n ∧ n ≤ i + 1) → 0 ≤ i → i < mn → x ≤ 275 → oH 127 121 21 h' → (∀ j, j < 275 → h' 127 j = h 126 j) → (∀ j, j < x → h' 126 j = h 126 j) → vP D T (N + 1) 196 162 h' [some (2, 121), some (0, k), some (0, sd), some (0, mn), some (0, n), some (0, i), some (0, (x : Int))] [] (rAr k sd mn h) := by
      intro h' n i x hn hi him hx hU hk h1
      refine vP_hv (fun hv => qr_arr162 hT hO k sd mn n i x hv ⟨hi, by omega⟩ ⟨by omega, by omega⟩ ?_ ?_)
      · intro q1 q2 q3
        refine ih.2 _ n i (x + 1) hn hi him (by omega) hU.seti (fun j hj => by rw [zset_ne (by omega)]; exact hk j hj) (fun j hj => ?_)
        by_cases e : j = x
        · subst e
          rw [Int.toNat_natCast, zset_same, hk j (by omega)]
          exact (hv126 hv0 (by omega)).symm
        · rw [Int.toNat_natCast, zset_ne (fun c => e c.2)]
          exact h1 j (by omega)
      · intro q1
        exact ih.1 _ n (i + 1) _ (by omega) (by omega) hU hk (fun j hj => h1 j (by omega))
    refine ⟨?_, B⟩
    intro h' n i o hn him hU hk h1
    refine vP_hv (fun hv => qr_arr112 hT hO k sd mn n i o hv ⟨by omega, by omega⟩ ⟨by omega, by omega⟩ ⟨by omega, by omega⟩ ⟨by omega, by omega⟩ hU hRn (fun N t b g => rx_frac hT hO t b) ?_ ?_ ?_)
    · intro q1 g u _ _ _ _ _
      exact B g (n + 1) i 0 (by omega) (by omega) q1 (by omega) u.2 (fun j hj => (u.1 j).trans (hk j hj)) (fun j hj => absurd hj (Nat.not_lt_zero _))
    · intro q1 g u _ _ _ _ _
      exact B g (n + 0) i 0 (by omega) (by omega) q1 (by omega) u.2 (fun j hj => (u.1 j).trans (hk j hj)) (fun j hj => absurd hj (Nat.not_lt_zero _))
    · intro q1 g u
      exact Or.inr ⟨hC, rfl, fun j hj => (u j).trans (h1 j hj)⟩
theorem rx_arr {D : zD} {T : zT} (hT : hTab T) (hO : vOK T) {N : Nat} {h : zH} {k sd mn : Int} (hRn : ∀ (N : Nat) (s : Int) (g : zH), oH 127 121 21 g → vP D T N 308 0 g [some (2, 121), some (0, s)] [] (fun r => r.2 = none ∧ (∀ j, r.1 127 j = g 127 j) ∧ oH 127 121 21 r.1)) (hv0 : zHv h) (hU : oH 127 121 21 h) (b3 : 0 ≤ (h 126 3).2 ∧ (h 126 3).2 ≤ 6) : vP D T N 196 0 h [some (2, 121), some (0, k), some (0, sd), some (0, mn), none, none, none] [] (rAr k sd mn h) := by
  have z3 : ∀ v, ∀ j, zset (zset (zset h 121 1 (0, 0)) 121 0 (0, 0)) 121 0 v 126 j = h 126 j := fun v j => (zset_ne (by omega)).trans ((zset_ne (by omega)).trans (zset_ne (by omega)))
  refine qr_arr0 hT hO k sd mn hv0 b3 ?_ ?_ ?_ ?_ ?_ ?_ ?_ ?_
  · intro c1
    exact Or.inl ⟨fun ⟨a1, a2, a3, a4, a5, a6, a7⟩ => by omega, rfl, z3 (0, 2)⟩
  · intro c1 c2
    exact Or.inl ⟨fun ⟨a1, a2, a3, a4, a5, a6, a7⟩ => by omega, rfl, z3 (0, 2)⟩
  · intro c1 c2 c3
    exact Or.inl ⟨fun ⟨a1, a2, a3, a4, a5, a6, a7⟩ => by omega, rfl, z3 (0, 5)⟩
  · intro c1 c2 c3 c4
    exact Or.inl ⟨fun ⟨a1, a2, a3, a4, a5, a6, a7⟩ => by omega, rfl, z3 (0, 5)⟩
  · intro c1 c2 c3 c4 c5
    exact Or.inl ⟨fun ⟨a1, a2, a3, a4, a5, a6, a7⟩ => by omega, rfl, z3 (0, 5)⟩
  · intro c1 c2 c3 c4 c5 c6
    exact Or.inl ⟨fun ⟨a1, a2, a3, a4, a5, a6, a7⟩ => by omega, rfl, z3 (0, 5)⟩
  · intro c1 c2 c3 c4 c5 c6 c7
    exact Or.inl ⟨fun ⟨a1, a2, a3, a4, a5, a6, a7⟩ => a7 c7, rfl, z3 (0, 8)⟩
  · intro c1 c2 c3 c4 c5 c6 c7
    have hC : rArC k sd mn h := ⟨c1, c2, c3, c4, c5, c6, c7⟩
    have e0 : ∀ j, zset (zset h 121 1 (0, 0)) 121 0 (0, 0) 126 j = h 126 j := fun j => (zset_ne (by omega)).trans (zset_ne (by omega))
    have u0 : oH 127 121 21 (zset (zset h 121 1 (0, 0)) 121 0 (0, 0)) := hU.seti.seti
    refine vP_loop (fun h' l => ∃ (x : Nat) (o1 o2 : Option zV), l = [some (2, 121), some (0, k), some (0, sd), some (0, mn), some (0, (x : Int)), o1, o2] ∧ x ≤ 275 ∧ oH 127 121 21 h' ∧ (∀ j, j < x → h' 127 j = h 126 j) ∧ ∀ j, h' 126 j = h 126 j) ?_ N _ _ ⟨0, none, none, rfl, by decide, u0, fun j hj => absurd hj (Nat.not_lt_zero _), e0⟩
    rintro N h' l ⟨x, o1, o2, rfl, hx, hu, h1, h2⟩ ih
    refine vP_hv (fun hv => qr_arr78 hT hO k sd mn x o1 o2 hv ⟨by omega, by omega⟩ ?_ ?_)
    · intro q1 q2 q3
      refine ih _ _ ⟨x + 1, o1, o2, rfl, by omega, hu.seti, fun j hj => ?_, fun j => (zset_ne (by omega)).trans (h2 j)⟩
      by_cases e : j = x
      · subst e
        rw [Int.toNat_natCast, zset_same, h2 j]
        exact (hv126 hv0 (by omega)).symm
      · rw [Int.toNat_natCast, zset_ne (fun c => e c.2)]
        exact h1 j (by omega)
    · intro q1
      exact (rx_arr_loop hT hO hRn hv0 hC b3.2 _).1 h' 0 0 o2 ⟨by decide, by decide⟩ (by omega) hu (fun j hj => h1 j (by omega)) (fun j _ => h2 j)
/-! the machine's code never takes the cell `kept` outside arrivals() -/
noncomputable def gC (S : List (Nat × Nat)) (ci k0 : Nat) : Bool := S.all fun q => match x_nth zMT q.1 with
  | some t => t.all fun l => l.all fun o => match o with
    | some i => guI ci k0 i
    | none => true
  | none => false
theorem guOK_of {S : List (Nat × Nat)} {ci k : Nat} (h : gC S ci k = true) : guOK (inS S) ci k TLw := by
  intro mi pc i hS hi
  obtain ⟨q, hq, hb⟩ := List.any_eq_true.mp hS
  rw [Bool.and_eq_true] at hb
  have e1 : q.1 = mi := eq_of_beq hb.1
  have hc := List.all_eq_true.mp h q hq
  have hc : (match x_nth zMT q.1 with
    | some t => t.all fun l => l.all fun o => match o with
      | some i => guI ci k i
      | none => true
    | none => false) = true := hc
  have hne : mi ≠ 341 := fun e => by
    rw [e1, e, show x_nth zMT 341 = none from rfl] at hc
    cases hc
  unfold TLw at hi
  rw [if_neg hne] at hi
  have hi : (match x_nth zMT mi with
    | some t => z_at t pc
    | none => none) = some i := hi
  rw [e1] at hc
  cases ht : x_nth zMT mi with
  | none => rw [ht] at hi; cases hi
  | some t =>
    rw [ht] at hi hc
    have hc : (t.all fun l => l.all fun o => match o with
      | some i => guI ci k i
      | none => true) = true := hc
    have hi : z_at t pc = some i := hi
    unfold z_at at hi
    rw [x_nth_eq] at hi
    cases hl : t[Nat.div pc 16]? with
    | none => rw [hl] at hi; cases hi
    | some l =>
      rw [hl] at hi
      have hi : (match x_nth l (Nat.mod pc 16) with
        | some r => r
        | none => none) = some i := hi
      rw [x_nth_eq] at hi
      cases ho : l[Nat.mod pc 16]? with
      | none => rw [ho] at hi; cases hi
      | some o =>
        rw [ho] at hi
        have hi : o = some i := hi
        have h1 := List.all_eq_true.mp (List.all_eq_true.mp hc l (List.mem_of_getElem? hl)) o (List.mem_of_getElem? ho)
        rw [hi] at h1
        exact h1
def sRuns : List (Nat × Nat) := [(197, 0), (200, 0), (203, 0), (206, 0), (212, 0), (215, 0), (219, 0), (220, 0), (221, 0), (222, 0), (223, 0), (224, 0), (231, 0), (232, 0), (240, 0), (244, 0), (252, 0), (261, 0), (271, 0), (275, 0), (280, 0), (281, 0), (308, 0), (313, 0), (314, 0), (317, 0), (323, 0), (324, 0), (333, 0), (336, 0)]
theorem rn_fw : fwOK (inS sRuns) 99 0 TLw := fwOK_of (by decide +kernel)
theorem rn_gu : guOK (inS sRuns) 12 21 TLw := guOK_of (by decide +kernel)
theorem oLo_vL {u : Nat} {a b : zV} (h1 : oV u a) (h2 : oV u b) : oLo u (vL [some a, some b]) := fun i v h => by
  match i, h with
  | 0, h => cases h; exact h1
  | 1, h => cases h; exact h2
  | i + 2, h => cases h
theorem rx_runs {D : zD} (N : Nat) (s : Int) (g : zH) (hU : oH 127 121 21 g) : vP D TLw N 308 0 g [some (2, 121), some (0, s)] [] (fun r => r.2 = none ∧ (∀ j, r.1 127 j = g 127 j) ∧ oH 127 121 21 r.1) := by
  refine vP_Q (fun r hr => ⟨hr.1, hr.2.2, hr.2.1⟩) (vP_and (vP_rt (b := 0) zt_X12_runs rfl (by decide +kernel) (by decide)) (vP_un (u := 127) (k0 := 21) (r0 := 121) (w := 48) rfl vOK_T rn_fw rn_gu (by decide) hU (oLo_vL (fun e => absurd e.2 (by decide)) oV_0) oS_nil))
/-- which places name the cell -/
noncomputable def rOut (u : Int) (r0 k0 a b : Nat) : Bool := (match vCode a b with
  | some c => !(Nat.beq c 4)
  | none => true) || ((Nat.beq a r0 && Nat.beq b k0) || (match a_at aTy1 a with
  | some l => (match a_uniF (Int.ofNat b) (Int.ofNat b) l with
    | some t => Nat.beq t.1 2 && a_all (fun c => !(@decide (c = u) (a_decEqZ _ _))) t.2.2.2
    | none => false)
  | none => false))
theorem rOut_all : (a_allN (fun a => a_allN (fun b => rOut 127 121 21 a b) 0 64) 0 137) = true := by decide +kernel
theorem rOut_allc : (a_allN (fun a => a_allN (fun b => rOut 126 121 20 a b) 0 64) 0 137) = true := by decide +kernel
noncomputable def vLen (a : Nat) : Bool := match zShape[a]? with
  | some (.inl q) => !(Nat.beq (zcode q.1) 4) || Nat.ble q.2 64
  | some (.inr q) => (match vFt[q.1]? with
    | some l => Nat.ble l.length 64
    | none => true)
  | none => true
theorem vLen_all : a_allN vLen 0 137 = true := by decide +kernel
theorem vCode_lt {a b : Nat} (hc : vCode a b = some 4) : a < 137 ∧ b < 64 := by
  have hlen : zShape.length = 137 := rfl
  unfold vCode at hc
  cases hs : zShape[a]? with
  | none => rw [hs] at hc; cases hc
  | some s =>
    have ha : a < 137 := hlen ▸ (List.getElem?_eq_some_iff.mp hs).1
    refine ⟨ha, ?_⟩
    have hb := a_allN_ok vLen_all a ha
    rw [Nat.zero_add] at hb
    unfold vLen at hb
    rw [hs] at hb hc
    match s, hb, hc with
    | .inl q, hb, hc =>
      have hc : (if b < q.2 then some (zcode q.1) else none) = some 4 := hc
      have hb : (!(Nat.beq (zcode q.1) 4) || Nat.ble q.2 64) = true := hb
      by_cases hk : b < q.2
      · rw [if_pos hk] at hc
        have e : zcode q.1 = 4 := Option.some.inj hc
        rw [e] at hb
        have : q.2 ≤ 64 := Nat.le_of_ble_eq_true hb
        omega
      · rw [if_neg hk] at hc
        cases hc
    | .inr q, hb, hc =>
      have hc : (match vFt[q.1]? with
        | some l => l[b]?
        | none => none) = some 4 := hc
      have hb : (match vFt[q.1]? with
        | some l => Nat.ble l.length 64
        | none => true) = true := hb
      cases hf : vFt[q.1]? with
      | none => rw [hf] at hc; cases hc
      | some l =>
        rw [hf] at hb hc
        have h1 : b < l.length := (List.getElem?_eq_some_iff.mp hc).1
        have h2 : l.length ≤ 64 := Nat.le_of_ble_eq_true hb
        omega
theorem lI.out {D : zD} {qs : List aQ} {h : zH} (hZ : lI aG1 D Fl0 qs h) : oH 127 121 21 h := by
  intro a b hc hn
  obtain ⟨ha, hb⟩ := vCode_lt hc
  have h1 := a_allN_ok rOut_all a ha
  rw [Nat.zero_add] at h1
  have h2 := a_allN_ok h1 b hb
  rw [Nat.zero_add] at h2
  unfold rOut at h2
  rw [hc] at h2
  have h2 : ((Nat.beq a 121 && Nat.beq b 21) || (match a_at aTy1 a with
    | some l => (match a_uniF (Int.ofNat b) (Int.ofNat b) l with
      | some t => Nat.beq t.1 2 && a_all (fun c => !(@decide (c = 127) (a_decEqZ _ _))) t.2.2.2
      | none => false)
    | none => false)) = true := h2
  rw [Bool.or_eq_true, Bool.and_eq_true] at h2
  rcases h2 with e | e
  · exact absurd ⟨Nat.eq_of_beq_eq_true e.1, Nat.eq_of_beq_eq_true e.2⟩ hn
  · cases hl : a_at aTy1 a with
    | none => rw [hl] at e; cases e
    | some l =>
      rw [hl] at e
      have e : (match a_uniF (Int.ofNat b) (Int.ofNat b) l with
        | some t => Nat.beq t.1 2 && a_all (fun c => !(@decide (c = 127) (a_decEqZ _ _))) t.2.2.2
        | none => false) = true := e
      cases hu : a_uniF (Int.ofNat b) (Int.ofNat b) l with
      | none => rw [hu] at e; cases e
      | some t =>
        rw [hu] at e
        have e : (Nat.beq t.1 2 && a_all (fun c => !(@decide (c = 127) (a_decEqZ _ _))) t.2.2.2) = true := e
        rw [Bool.and_eq_true] at e
        have hat := a_uniF_ok (j := b) hu (hZ.ty a l hl) (Int.le_refl _) (Int.le_refl _)
        unfold atin at hat
        rw [Nat.eq_of_beq_eq_true e.1] at hat
        obtain ⟨c, hc', hv⟩ := (hat : ∃ c ∈ t.2.2.2, h a b = if c = -1 then (4, 0) else (2, c))
        have hne := a_all_ok e.2 c hc'
        rw [Bool.not_eq_true'] at hne
        have hne : c ≠ 127 := fun q => by
          rw [a_decT q] at hne
          cases hne
        rw [hv]
        split
        · exact oV_t (by decide)
        · exact fun q => hne (by have := q.2; omega)
theorem lI.outc {D : zD} {qs : List aQ} {h : zH} (hZ : lI aG1 D Fl0 qs h) : oH 126 121 20 h := by
  intro a b hc hn
  obtain ⟨ha, hb⟩ := vCode_lt hc
  have h1 := a_allN_ok rOut_allc a ha
  rw [Nat.zero_add] at h1
  have h2 := a_allN_ok h1 b hb
  rw [Nat.zero_add] at h2
  unfold rOut at h2
  rw [hc] at h2
  have h2 : ((Nat.beq a 121 && Nat.beq b 20) || (match a_at aTy1 a with
    | some l => (match a_uniF (Int.ofNat b) (Int.ofNat b) l with
      | some t => Nat.beq t.1 2 && a_all (fun c => !(@decide (c = 126) (a_decEqZ _ _))) t.2.2.2
      | none => false)
    | none => false)) = true := h2
  rw [Bool.or_eq_true, Bool.and_eq_true] at h2
  rcases h2 with e | e
  · exact absurd ⟨Nat.eq_of_beq_eq_true e.1, Nat.eq_of_beq_eq_true e.2⟩ hn
  · cases hl : a_at aTy1 a with
    | none => rw [hl] at e; cases e
    | some l =>
      rw [hl] at e
      have e : (match a_uniF (Int.ofNat b) (Int.ofNat b) l with
        | some t => Nat.beq t.1 2 && a_all (fun c => !(@decide (c = 126) (a_decEqZ _ _))) t.2.2.2
        | none => false) = true := e
      cases hu : a_uniF (Int.ofNat b) (Int.ofNat b) l with
      | none => rw [hu] at e; cases e
      | some t =>
        rw [hu] at e
        have e : (Nat.beq t.1 2 && a_all (fun c => !(@decide (c = 126) (a_decEqZ _ _))) t.2.2.2) = true := e
        rw [Bool.and_eq_true] at e
        have hat := a_uniF_ok (j := b) hu (hZ.ty a l hl) (Int.le_refl _) (Int.le_refl _)
        unfold atin at hat
        rw [Nat.eq_of_beq_eq_true e.1] at hat
        obtain ⟨c, hc', hv⟩ := (hat : ∃ c ∈ t.2.2.2, h a b = if c = -1 then (4, 0) else (2, c))
        have hne := a_all_ok e.2 c hc'
        rw [Bool.not_eq_true'] at hne
        have hne : c ≠ 126 := fun q => by
          rw [a_decT q] at hne
          cases hne
        rw [hv]
        split
        · exact oV_t (by decide)
        · exact fun q => hne (by have := q.2; omega)
end
section
theorem lQA_of {D : zD} {h : zH} (hZ : lZ D h) (e7 : h 0 7 = (2, ((24 : Nat) : Int))) (e8 : h 0 8 = (2, ((39 : Nat) : Int))) : lI aG1 D Fl0 lQA h := by
  obtain ⟨q, hq, ρ, g⟩ := hZ
  have hq : q = lQ_0 ∨ q = lQ_1 ∨ q = lQ_2 ∨ q = lQ_3 := by simpa only [lQs, List.mem_cons, List.not_mem_nil, or_false] using hq
  rcases hq with rfl | rfl | rfl | rfl
  · exact ⟨lQA_0, List.mem_cons_self, ρ, ⟨g.1, g.2.1, List.forall_mem_cons.mpr ⟨⟨Nat.zero_le _, (show (0 : Int) ≤ 7 from by decide), Nat.zero_le _, e7⟩, List.forall_mem_cons.mpr ⟨⟨Nat.zero_le _, (show (0 : Int) ≤ 8 from by decide), Nat.zero_le _, e8⟩, g.2.2.1⟩⟩, g.2.2.2.1, g.2.2.2.2.1, g.2.2.2.2.2⟩⟩
  · exact ⟨lQA_1, (List.mem_cons_of_mem _ List.mem_cons_self), ρ, ⟨g.1, g.2.1, List.forall_mem_cons.mpr ⟨⟨Nat.zero_le _, (show (0 : Int) ≤ 7 from by decide), Nat.zero_le _, e7⟩, List.forall_mem_cons.mpr ⟨⟨Nat.zero_le _, (show (0 : Int) ≤ 8 from by decide), Nat.zero_le _, e8⟩, g.2.2.1⟩⟩, g.2.2.2.1, g.2.2.2.2.1, g.2.2.2.2.2⟩⟩
  · exact ⟨lQA_2, (List.mem_cons_of_mem _ (List.mem_cons_of_mem _ List.mem_cons_self)), ρ, ⟨g.1, g.2.1, List.forall_mem_cons.mpr ⟨⟨Nat.zero_le _, (show (0 : Int) ≤ 7 from by decide), Nat.zero_le _, e7⟩, List.forall_mem_cons.mpr ⟨⟨Nat.zero_le _, (show (0 : Int) ≤ 8 from by decide), Nat.zero_le _, e8⟩, g.2.2.1⟩⟩, g.2.2.2.1, g.2.2.2.2.1, g.2.2.2.2.2⟩⟩
  · exact ⟨lQA_3, (List.mem_cons_of_mem _ (List.mem_cons_of_mem _ (List.mem_cons_of_mem _ List.mem_cons_self))), ρ, ⟨g.1, g.2.1, List.forall_mem_cons.mpr ⟨⟨Nat.zero_le _, (show (0 : Int) ≤ 7 from by decide), Nat.zero_le _, e7⟩, List.forall_mem_cons.mpr ⟨⟨Nat.zero_le _, (show (0 : Int) ≤ 8 from by decide), Nat.zero_le _, e8⟩, g.2.2.1⟩⟩, g.2.2.2.1, g.2.2.2.2.1, g.2.2.2.2.2⟩⟩
theorem lQB_of {D : zD} {h : zH} (hZ : lZ D h) (e7 : h 0 7 = (2, ((39 : Nat) : Int))) (e8 : h 0 8 = (2, ((24 : Nat) : Int))) : lI aG1 D Fl0 lQB h := by
  obtain ⟨q, hq, ρ, g⟩ := hZ
  have hq : q = lQ_0 ∨ q = lQ_1 ∨ q = lQ_2 ∨ q = lQ_3 := by simpa only [lQs, List.mem_cons, List.not_mem_nil, or_false] using hq
  rcases hq with rfl | rfl | rfl | rfl
  · exact ⟨lQB_0, List.mem_cons_self, ρ, ⟨g.1, g.2.1, List.forall_mem_cons.mpr ⟨⟨Nat.zero_le _, (show (0 : Int) ≤ 7 from by decide), Nat.zero_le _, e7⟩, List.forall_mem_cons.mpr ⟨⟨Nat.zero_le _, (show (0 : Int) ≤ 8 from by decide), Nat.zero_le _, e8⟩, g.2.2.1⟩⟩, g.2.2.2.1, g.2.2.2.2.1, g.2.2.2.2.2⟩⟩
  · exact ⟨lQB_1, (List.mem_cons_of_mem _ List.mem_cons_self), ρ, ⟨g.1, g.2.1, List.forall_mem_cons.mpr ⟨⟨Nat.zero_le _, (show (0 : Int) ≤ 7 from by decide), Nat.zero_le _, e7⟩, List.forall_mem_cons.mpr ⟨⟨Nat.zero_le _, (show (0 : Int) ≤ 8 from by decide), Nat.zero_le _, e8⟩, g.2.2.1⟩⟩, g.2.2.2.1, g.2.2.2.2.1, g.2.2.2.2.2⟩⟩
  · exact ⟨lQB_2, (List.mem_cons_of_mem _ (List.mem_cons_of_mem _ List.mem_cons_self)), ρ, ⟨g.1, g.2.1, List.forall_mem_cons.mpr ⟨⟨Nat.zero_le _, (show (0 : Int) ≤ 7 from by decide), Nat.zero_le _, e7⟩, List.forall_mem_cons.mpr ⟨⟨Nat.zero_le _, (show (0 : Int) ≤ 8 from by decide), Nat.zero_le _, e8⟩, g.2.2.1⟩⟩, g.2.2.2.1, g.2.2.2.2.1, g.2.2.2.2.2⟩⟩
  · exact ⟨lQB_3, (List.mem_cons_of_mem _ (List.mem_cons_of_mem _ (List.mem_cons_of_mem _ List.mem_cons_self))), ρ, ⟨g.1, g.2.1, List.forall_mem_cons.mpr ⟨⟨Nat.zero_le _, (show (0 : Int) ≤ 7 from by decide), Nat.zero_le _, e7⟩, List.forall_mem_cons.mpr ⟨⟨Nat.zero_le _, (show (0 : Int) ≤ 8 from by decide), Nat.zero_le _, e8⟩, g.2.2.1⟩⟩, g.2.2.2.1, g.2.2.2.2.1, g.2.2.2.2.2⟩⟩
theorem arr_b {D : zD} (hD : ∀ i, -2147483648 ≤ D.2 i ∧ D.2 i ≤ 2147483647) {h h1 : zH} {x y z : Nat} {v1 : Int} {M : aM} {qs : List aQ} (hck : a_all (lCk (aG0 aG1) sLaw 614 143 0 [0, 0, 0] 0 M lQs) qs = true) (hI : lI aG1 D Fl0 qs h) (z1 : zRun D TLw 614 143 0 (h, zargs 0 [(2, 0), (0, D.2 x), (0, D.2 y), (0, D.2 z)], []) (h1, some (0, v1))) : aFr M h h1 := by
  obtain ⟨g, w, zr, _, f⟩ := lCallZ hD hck hI (bs := [(0, D.2 x), (0, D.2 y), (0, D.2 z)]) ⟨⟨rfl, hD _⟩, ⟨rfl, hD _⟩, ⟨rfl, hD _⟩, trivial⟩
  have e := zRun_det z1 zr
  have e1 : h1 = g := congrArg Prod.fst e
  rw [e1]
  exact f
abbrev tpX (c : Nat) : aM := tp0 ++ (cLs c ++ (cLs 55 ++ (cLs 70 ++ (cLs 85 ++ bAll))))
theorem tpX_m {c m : Nat} (hm : m < 3) : ∀ e ∈ cLs (55 + 15 * m), e ∈ tpX c := by
  have : m = 0 ∨ m = 1 ∨ m = 2 := by omega
  rcases this with rfl | rfl | rfl
  · exact fun e he => List.mem_append_right _ (List.mem_append_right _ (List.mem_append_left _ he))
  · exact fun e he => List.mem_append_right _ (List.mem_append_right _ (List.mem_append_right _ (List.mem_append_left _ he)))
  · exact fun e he => List.mem_append_right _ (List.mem_append_right _ (List.mem_append_right _ (List.mem_append_right _ (List.mem_append_left _ he))))
theorem lR_arr {h h1 h2 : zH} {r c : Nat} (hR : lR h) (s1 : lSw r c) (s2 : h 0 7 = (2, (c : Int))) (k1 : ∀ a k, aIn (tpX c) a k → h1 a k = h a k) (k2 : ∀ a k, aIn (tp0 ++ (cAll ++ (bLs 1 ++ (bLs 2 ++ (bLs 3 ++ [(126, 275, 275), (128, 0, 5)]))))) a k → h2 a k = h1 a k) (k3 : ∀ j, j < 275 → h2 126 j = h1 126 j) : lR h2 := by
  obtain ⟨hT, hF, hM, r', c', t1, t2, t3, hL⟩ := hR
  have ec : c' = c := by
    rw [s2] at t2
    have := congrArg Prod.snd t2
    have : (c : Int) = (c' : Int) := this
    omega
  subst ec
  have h0 : ∀ a k, aIn tp0 a k → h2 a k = h a k := fun a k ⟨e, he, x⟩ => (k2 a k ⟨e, List.mem_append_left _ he, x⟩).trans (k1 a k ⟨e, List.mem_append_left _ he, x⟩)
  have kc : ∀ d, cOb d → (∀ e ∈ cLs d, e ∈ tpX c') → cK d d h h2 := fun d hd hx => (cK_S k1 hx).trans (cK_S k2 (fun e he => List.mem_append_right _ (List.mem_append_left _ (cAll_in hd e he))))
  have kb1 : ∀ b, b < 4 → bK b b h h1 := fun b hb => bK_S k1 (fun e he => List.mem_append_right _ (List.mem_append_right _ (List.mem_append_right _ (List.mem_append_right _ (List.mem_append_right _ (bAll_in hb e he))))))
  have kb2 : ∀ m, m < 3 → bK (m + 1) (m + 1) h1 h2 := fun m hm => by
    have : m = 0 ∨ m = 1 ∨ m = 2 := by omega
    rcases this with rfl | rfl | rfl
    · exact bK_S k2 (fun e he => List.mem_append_right _ (List.mem_append_right _ (List.mem_append_left _ he)))
    · exact bK_S k2 (fun e he => List.mem_append_right _ (List.mem_append_right _ (List.mem_append_right _ (List.mem_append_left _ he))))
    · exact bK_S k2 (fun e he => List.mem_append_right _ (List.mem_append_right _ (List.mem_append_right _ (List.mem_append_right _ (List.mem_append_left _ he)))))
  have kb0 : bK 0 0 h1 h2 := by
    refine ⟨fun j hj => ?_, fun k hk => k2 _ _ ⟨(128, 0, 5), ?_, rfl, Nat.zero_le _, (show 6 * 0 + k ≤ 5 from by omega)⟩⟩
    · rw [show 550 * 0 + j = j by omega]
      rcases hj with e | e | e | e
      · exact k3 j (by omega)
      · exact k3 j (by omega)
      · exact k3 j (by omega)
      · exact k2 _ _ ⟨(126, 275, 275), by decide, rfl, (show 275 ≤ j from by omega), (show j ≤ 275 from by omega)⟩
    · decide
  refine ⟨hT.of (h0 _ _ ⟨(10, 1, 1), by decide, rfl, by decide, by decide⟩) (fun q hq => h0 _ _ ⟨(11, 0, 899), by decide, rfl, Nat.zero_le _, hq⟩) (h0 _ _ ⟨(121, 8, 8), by decide, rfl, by decide, by decide⟩) (fun q hq => h0 _ _ ⟨(125, 0, 899), by decide, rfl, Nat.zero_le _, hq⟩), hF.of h0, hM.of (h0 _ _ ⟨(0, 10, 10), by decide, rfl, by decide, by decide⟩) (h0 _ _ ⟨(121, 23, 23), by decide, rfl, by decide, by decide⟩) (fun m hm => kc _ (mOb hm) (tpX_m hm)) (fun m hm => (kb1 _ (by omega)).trans (kb2 m hm)), r', c', t1, (h0 _ _ ⟨(0, 7, 8), by decide, rfl, by decide, by decide⟩).trans t2, (h0 _ _ ⟨(0, 7, 8), by decide, rfl, by decide, by decide⟩).trans t3, hL.tr (kc c' t1.ob (fun e he => List.mem_append_right _ (List.mem_append_left _ he))) ((kb1 0 (by decide)).trans kb0)⟩
theorem arr_r {D : zD} {h1 h2 : zH} {a b c v2 : Int} (hZ1 : lZ D h1) (b3 : 0 ≤ (h1 126 3).2 ∧ (h1 126 3).2 ≤ 6) (z2 : zRun D TLw 614 196 0 (h1, zargs 0 [(2, 121), (0, a), (0, b), (0, c)], []) (h2, some (0, v2))) : rAr a b c h1 (h2, some (0, v2)) := hZ1.run 7 z2 (Q := rAr a b c h1) (fun N => vP_hv (fun hv => rx_arr TLw_T vOK_T rx_runs hv (lI.out (show lI aG1 D Fl0 lQs h1 from hZ1)) b3))
theorem lRk_arrivals {D : zD} (hD : ∀ i, -2147483648 ≤ D.2 i ∧ D.2 i ≤ 2147483647) {h h1 h2 : zH} {x y z : Nat} {v1 v2 : Int} (hZ : lZ D h) (hZ1 : lZ D h1) (hR : lR h) (z1 : zRun D TLw 614 143 0 (h, zargs 0 [(2, 0), (0, D.2 x), (0, D.2 y), (0, D.2 z)], []) (h1, some (0, v1))) (f1 : aFr lM_143 h h1) (z2 : zRun D TLw 614 196 0 (h1, zargs 0 [(2, 121), (0, D.2 x), (0, D.2 y), (0, D.2 z)], []) (h2, some (0, v2))) (f2 : aFr lM_196 h1 h2) : lR h2 ∧ True := by
  refine ⟨?_, trivial⟩
  have hR' := hR
  obtain ⟨_, _, _, r, c, s1, s2, s3, P, _, hp, lb, _⟩ := hR'
  have b3 : 0 ≤ (h1 126 3).2 ∧ (h1 126 3).2 ≤ 6 := by
    have e : h1 126 3 = h 126 3 := f1.keep (S := [(126, 3, 3)]) (by decide +kernel) ⟨(126, 3, 3), by decide, rfl, by decide, by decide⟩
    have e2 : h 126 3 = (0, P 0 3) := hp.1.2.2.2
    rw [e, e2]
    exact lb.2.2.2
  have k3 : ∀ j, j < 275 → h2 126 j = h1 126 j := by
    rcases arr_r hZ1 b3 z2 with ⟨_, _, q⟩ | ⟨_, _, q⟩
    · exact fun j _ => q j
    · exact q
  have k2 : ∀ a k, aIn (tp0 ++ (cAll ++ (bLs 1 ++ (bLs 2 ++ (bLs 3 ++ [(126, 275, 275), (128, 0, 5)]))))) a k → h2 a k = h1 a k := fun a k hi => f2.keep (by decide +kernel) hi
  rcases s1 with ⟨rfl, rfl⟩ | ⟨rfl, rfl⟩
  · have g := arr_b hD lckB_143 (lQB_of hZ s2 s3) z1
    exact lR_arr hR (Or.inl ⟨rfl, rfl⟩) s2 (fun a k hi => g.keep (by decide +kernel) hi) k2 k3
  · have g := arr_b hD lckA_143 (lQA_of hZ s2 s3) z1
    exact lR_arr hR (Or.inr ⟨rfl, rfl⟩) s2 (fun a k hi => g.keep (by decide +kernel) hi) k2 k3
end
section
theorem qc_fault {D : zD} {T : zT} (hT : hTab T) (hO : vOK T) {N : Nat} {h : zH} {Q : zR → Prop} (w : Int) (hv0 : zHv h)
    (k0 : (w = 0) → Q (h, some (0, (h 10 9).2)))
    (k1 : (w ≠ 0) → (w = 1) → Q (h, some (0, (h 10 10).2)))
    (k2 : (w ≠ 0) → (w ≠ 1) → Q (h, some (0, -1))) :
    vP D T N 154 0 h [some (2, 0), some (0, w)] [] Q := by
  refine v_load (v := (0, w)) (hz_X11_fault hT _ _ rfl) rfl rfl ?_
  refine v_sw (hz_X11_fault hT _ _ rfl) ?_
  refine ⟨fun hc1 => ?_, fun hc1 => ?_⟩
  · have hc1 : w = 0 := hc1
    refine v_load (v := (2, 0)) (hz_X11_fault hT _ _ rfl) rfl rfl ?_
    refine v_getR (c := 10) (r := 0) (hz_X11_fault hT _ _ rfl) rfl rfl rfl ?_
    refine v_getI (t := 0) (r := 10) (hz_X11_fault hT _ _ rfl) rfl rfl rfl ?_
    refine v_ret (hz_X11_fault hT _ _ rfl) (Or.inl rfl) ?_
    exact k0 hc1
  refine ⟨fun hc2 => ?_, fun hc2 => ?_⟩
  · have hc2 : w = 1 := hc2
    refine v_load (v := (2, 0)) (hz_X11_fault hT _ _ rfl) rfl rfl ?_
    refine v_getR (c := 10) (r := 0) (hz_X11_fault hT _ _ rfl) rfl rfl rfl ?_
    refine v_getI (t := 0) (r := 10) (hz_X11_fault hT _ _ rfl) rfl rfl rfl ?_
    refine v_ret (hz_X11_fault hT _ _ rfl) (Or.inl rfl) ?_
    exact k1 hc1 hc2
  show vP _ _ _ _ _ _ _ _ _
  refine v_push (-1) (hz_X11_fault hT _ _ rfl) rfl ?_
  refine v_ret (hz_X11_fault hT _ _ rfl) (Or.inl rfl) ?_
  exact k2 hc1 hc2
theorem qr_fault {D : zD} {T : zT} (hT : hTab T) (hO : vOK T) {N : Nat} {h : zH} {Q : zR → Prop} (w : Int) (hv0 : zHv h)
    (k0 : (w = 0) → Q (zset h 121 1 (0, 0), some (0, (h 121 10).2)))
    (k1 : (w ≠ 0) → (w = 1) → Q (zset h 121 1 (0, 0), some (0, (h 121 11).2)))
    (k2 : (w ≠ 0) → (w ≠ 1) → Q (zset h 121 1 (0, 0), some (0, -1))) :
    vP D T N 226 0 h [some (2, 121), some (0, w)] [] Q := by
  refine v_load (v := (2, 121)) (hz_X12_fault hT _ _ rfl) rfl rfl ?_
  refine v_push (0) (hz_X12_fault hT _ _ rfl) rfl ?_
  refine v_putf (r := 121) hO (hz_X12_fault hT _ _ rfl) rfl (fun hf1 => ?_)
  refine v_load (v := (0, w)) (hz_X12_fault hT _ _ rfl) rfl rfl ?_
  refine v_if (hz_X12_fault hT _ _ rfl) (fun hc2 => ?_) (fun hc2 => ?_)
  · have hc2 : w = 0 := hc2
    refine v_load (v := (2, 121)) (hz_X12_fault hT _ _ rfl) rfl rfl ?_
    refine v_getf (v := (0, (h 121 10).2)) (r := 121) (hz_X12_fault hT _ _ rfl) rfl rfl (fun hv_ => Eq.trans (zset_ne (fun c => absurd c.2 (by decide))) (hv0.at rfl)) ?_
    refine v_goto (hz_X12_fault hT _ _ rfl) ?_
    refine v_ret (hz_X12_fault hT _ _ rfl) (Or.inl rfl) ?_
    exact k0 hc2
  · have hc2 : w ≠ 0 := hc2
    refine v_load (v := (0, w)) (hz_X12_fault hT _ _ rfl) rfl rfl ?_
    refine v_push (1) (hz_X12_fault hT _ _ rfl) rfl ?_
    refine v_ic (hz_X12_fault hT _ _ rfl) (fun hc3 => ?_) (fun hc3 => ?_)
    · have hc3 : w = 1 := hc3
      refine v_load (v := (2, 121)) (hz_X12_fault hT _ _ rfl) rfl rfl ?_
      refine v_getf (v := (0, (h 121 11).2)) (r := 121) (hz_X12_fault hT _ _ rfl) rfl rfl (fun hv_ => Eq.trans (zset_ne (fun c => absurd c.2 (by decide))) (hv0.at rfl)) ?_
      refine v_goto (hz_X12_fault hT _ _ rfl) ?_
      refine v_ret (hz_X12_fault hT _ _ rfl) (Or.inl rfl) ?_
      exact k1 hc2 hc3
    · have hc3 : w ≠ 1 := hc3
      refine v_push (-1) (hz_X12_fault hT _ _ rfl) rfl ?_
      refine v_ret (hz_X12_fault hT _ _ rfl) (Or.inl rfl) ?_
      exact k2 hc2 hc3
theorem qc_hand_24 {D : zD} {T : zT} (hT : hTab T) (hO : vOK T) {N : Nat} {h : zH} {Q : zR → Prop} {P : PT} (k y : Int) (hv0 : zHv h) (e7 : h 0 7 = (2, 24)) (g0 : h 24 0 = (0, P 0 0)) (g1 : h 24 1 = (0, P 0 1)) (g2 : h 24 2 = (0, P 0 2)) (g3 : h 24 3 = (0, P 0 3)) (lb : (0 ≤ P 0 0 ∧ P 0 0 ≤ 8) ∧ (0 ≤ P 0 1 ∧ P 0 1 ≤ 6) ∧ (0 ≤ P 0 2 ∧ P 0 2 ≤ 3) ∧ (0 ≤ P 0 3 ∧ P 0 3 ≤ 6))
    (k0 : (k < 0) → Q (zset h 0 0 (0, 2), some (0, 0)))
    (k1 : (0 ≤ k) → (k < (P 0 3)) → (y < 0) → Q (zset h 0 0 (0, 2), some (0, 0)))
    (k2 : (0 ≤ k) → (k < (P 0 3)) → (0 ≤ y) → (y < (P 0 2)) → (k < 6) → Q (zset (zset h 32 k.toNat (0, y)) 0 0 (0, 0), some (0, 1)))
    (k3 : (0 ≤ k) → (k < (P 0 3)) → (0 ≤ y) → ((P 0 2) ≤ y) → Q (zset h 0 0 (0, 2), some (0, 0)))
    (k4 : (0 ≤ k) → ((P 0 3) ≤ k) → Q (zset h 0 0 (0, 2), some (0, 0))) :
    vP D T N 158 0 h [some (2, 0), some (0, k), some (0, y)] [] Q := by
  refine v_load (v := (2, 0)) (hz_X11_hand hT _ _ rfl) rfl rfl ?_
  refine v_getf (v := (2, 24)) (r := 0) (hz_X11_hand hT _ _ rfl) rfl rfl (fun _ => e7) ?_
  refine v_load (v := (0, k)) (hz_X11_hand hT _ _ rfl) rfl rfl ?_
  refine v_call (w := 2) [some (2, 24), some (0, k)] hO (hz_X11_hand hT _ _ rfl) rfl rfl ?_
  refine v_load (v := (0, k)) (hz_X2_hasCompany hT _ _ rfl) rfl rfl ?_
  refine v_if (hz_X2_hasCompany hT _ _ rfl) (fun hc1 => ?_) (fun hc1 => ?_)
  · have hc1 : k < 0 := hc1
    refine v_push (0) (hz_X2_hasCompany hT _ _ rfl) rfl ?_
    refine v_ret (hz_X2_hasCompany hT _ _ rfl) (Or.inl rfl) ?_
    show vP D T N 158 8 h [some (2, 0), some (0, k), some (0, y)] [(0, 0)] _
    refine v_if (hz_X11_hand hT _ _ rfl) (fun _ => ?_) (fun hc2 => absurd (show (0 : Int) = 0 from (by omega)) hc2)
    refine v_load (v := (2, 0)) (hz_X11_hand hT _ _ rfl) rfl rfl ?_
    refine v_push (2) (hz_X11_hand hT _ _ rfl) rfl ?_
    refine v_call (w := 2) [some (2, 0), some (0, 2)] hO (hz_X11_hand hT _ _ rfl) rfl rfl ?_
    refine v_load (v := (2, 0)) (hz_X11_refuse hT _ _ rfl) rfl rfl ?_
    refine v_load (v := (0, 2)) (hz_X11_refuse hT _ _ rfl) rfl rfl ?_
    refine v_putf (r := 0) hO (hz_X11_refuse hT _ _ rfl) rfl (fun hf3 => ?_)
    refine v_push (0) (hz_X11_refuse hT _ _ rfl) rfl ?_
    refine v_ret (hz_X11_refuse hT _ _ rfl) (Or.inl rfl) ?_
    show vP D T N 158 27 (zset h 0 0 (0, 2)) [some (2, 0), some (0, k), some (0, y)] [(0, 0)] _
    refine v_ret (hz_X11_hand hT _ _ rfl) (Or.inl rfl) ?_
    exact k0 hc1
  · have hc1 : 0 ≤ k := Int.not_lt.mp hc1
    refine v_load (v := (0, k)) (hz_X2_hasCompany hT _ _ rfl) rfl rfl ?_
    refine v_load (v := (2, 24)) (hz_X2_hasCompany hT _ _ rfl) rfl rfl ?_
    refine v_getf (v := (0, (P 0 3))) (r := 24) (hz_X2_hasCompany hT _ _ rfl) rfl rfl (fun _ => g3) ?_
    refine v_ic (hz_X2_hasCompany hT _ _ rfl) (fun hc4 => ?_) (fun hc4 => ?_)
    · have hc4 : k < (P 0 3) := hc4
      refine v_push (1) (hz_X2_hasCompany hT _ _ rfl) rfl ?_
      refine v_goto (hz_X2_hasCompany hT _ _ rfl) ?_
      refine v_ret (hz_X2_hasCompany hT _ _ rfl) (Or.inl rfl) ?_
      show vP D T N 158 8 h [some (2, 0), some (0, k), some (0, y)] [(0, 1)] _
      refine v_if (hz_X11_hand hT _ _ rfl) (fun hc5 => absurd (show (1 : Int) = 0 from hc5) (by omega)) (fun _ => ?_)
      refine v_load (v := (2, 0)) (hz_X11_hand hT _ _ rfl) rfl rfl ?_
      refine v_getf (v := (2, 24)) (r := 0) (hz_X11_hand hT _ _ rfl) rfl rfl (fun _ => e7) ?_
      refine v_load (v := (0, y)) (hz_X11_hand hT _ _ rfl) rfl rfl ?_
      refine v_call (w := 2) [some (2, 24), some (0, y)] hO (hz_X11_hand hT _ _ rfl) rfl rfl ?_
      refine v_load (v := (0, y)) (hz_X2_hasCopy hT _ _ rfl) rfl rfl ?_
      refine v_if (hz_X2_hasCopy hT _ _ rfl) (fun hc6 => ?_) (fun hc6 => ?_)
      · have hc6 : y < 0 := hc6
        refine v_push (0) (hz_X2_hasCopy hT _ _ rfl) rfl ?_
        refine v_ret (hz_X2_hasCopy hT _ _ rfl) (Or.inl rfl) ?_
        show vP D T N 158 19 h [some (2, 0), some (0, k), some (0, y)] [(0, 0)] _
        refine v_if (hz_X11_hand hT _ _ rfl) (fun _ => ?_) (fun hc7 => absurd (show (0 : Int) = 0 from (by omega)) hc7)
        refine v_load (v := (2, 0)) (hz_X11_hand hT _ _ rfl) rfl rfl ?_
        refine v_push (2) (hz_X11_hand hT _ _ rfl) rfl ?_
        refine v_call (w := 2) [some (2, 0), some (0, 2)] hO (hz_X11_hand hT _ _ rfl) rfl rfl ?_
        refine v_load (v := (2, 0)) (hz_X11_refuse hT _ _ rfl) rfl rfl ?_
        refine v_load (v := (0, 2)) (hz_X11_refuse hT _ _ rfl) rfl rfl ?_
        refine v_putf (r := 0) hO (hz_X11_refuse hT _ _ rfl) rfl (fun hf8 => ?_)
        refine v_push (0) (hz_X11_refuse hT _ _ rfl) rfl ?_
        refine v_ret (hz_X11_refuse hT _ _ rfl) (Or.inl rfl) ?_
        show vP D T N 158 27 (zset h 0 0 (0, 2)) [some (2, 0), some (0, k), some (0, y)] [(0, 0)] _
        refine v_ret (hz_X11_hand hT _ _ rfl) (Or.inl rfl) ?_
        exact k1 hc1 hc4 hc6
      · have hc6 : 0 ≤ y := Int.not_lt.mp hc6
        refine v_load (v := (0, y)) (hz_X2_hasCopy hT _ _ rfl) rfl rfl ?_
        refine v_load (v := (2, 24)) (hz_X2_hasCopy hT _ _ rfl) rfl rfl ?_
        refine v_getf (v := (0, (P 0 2))) (r := 24) (hz_X2_hasCopy hT _ _ rfl) rfl rfl (fun _ => g2) ?_
        refine v_ic (hz_X2_hasCopy hT _ _ rfl) (fun hc9 => ?_) (fun hc9 => ?_)
        · have hc9 : y < (P 0 2) := hc9
          refine v_push (1) (hz_X2_hasCopy hT _ _ rfl) rfl ?_
          refine v_goto (hz_X2_hasCopy hT _ _ rfl) ?_
          refine v_ret (hz_X2_hasCopy hT _ _ rfl) (Or.inl rfl) ?_
          show vP D T N 158 19 h [some (2, 0), some (0, k), some (0, y)] [(0, 1)] _
          refine v_if (hz_X11_hand hT _ _ rfl) (fun hc10 => absurd (show (1 : Int) = 0 from hc10) (by omega)) (fun _ => ?_)
          refine v_load (v := (2, 0)) (hz_X11_hand hT _ _ rfl) rfl rfl ?_
          refine v_getf (v := (2, 24)) (r := 0) (hz_X11_hand hT _ _ rfl) rfl rfl (fun _ => e7) ?_
          refine v_getR (c := 32) (r := 24) (hz_X11_hand hT _ _ rfl) rfl rfl rfl ?_
          refine v_load (v := (0, k)) (hz_X11_hand hT _ _ rfl) rfl rfl ?_
          refine v_load (v := (0, y)) (hz_X11_hand hT _ _ rfl) rfl rfl ?_
          refine v_ast (r := 32) (hz_X11_hand hT _ _ rfl) rfl rfl (fun ha11 hb12 hf13 => ?_)
          refine v_load (v := (2, 0)) (hz_X11_hand hT _ _ rfl) rfl rfl ?_
          refine v_call (w := 1) [some (2, 0)] hO (hz_X11_hand hT _ _ rfl) rfl rfl ?_
          refine v_load (v := (2, 0)) (hz_X11_accept hT _ _ rfl) rfl rfl ?_
          refine v_push (0) (hz_X11_accept hT _ _ rfl) rfl ?_
          refine v_putf (r := 0) hO (hz_X11_accept hT _ _ rfl) rfl (fun hf14 => ?_)
          refine v_push (1) (hz_X11_accept hT _ _ rfl) rfl ?_
          refine v_ret (hz_X11_accept hT _ _ rfl) (Or.inl rfl) ?_
          show vP D T N 158 42 (zset (zset h 32 k.toNat (0, y)) 0 0 (0, 0)) [some (2, 0), some (0, k), some (0, y)] [(0, 1)] _
          refine v_ret (hz_X11_hand hT _ _ rfl) (Or.inl rfl) ?_
          exact k2 hc1 hc4 hc6 hc9 hb12
        · have hc9 : (P 0 2) ≤ y := Int.not_lt.mp hc9
          refine v_push (0) (hz_X2_hasCopy hT _ _ rfl) rfl ?_
          refine v_ret (hz_X2_hasCopy hT _ _ rfl) (Or.inl rfl) ?_
          show vP D T N 158 19 h [some (2, 0), some (0, k), some (0, y)] [(0, 0)] _
          refine v_if (hz_X11_hand hT _ _ rfl) (fun _ => ?_) (fun hc15 => absurd (show (0 : Int) = 0 from (by omega)) hc15)
          refine v_load (v := (2, 0)) (hz_X11_hand hT _ _ rfl) rfl rfl ?_
          refine v_push (2) (hz_X11_hand hT _ _ rfl) rfl ?_
          refine v_call (w := 2) [some (2, 0), some (0, 2)] hO (hz_X11_hand hT _ _ rfl) rfl rfl ?_
          refine v_load (v := (2, 0)) (hz_X11_refuse hT _ _ rfl) rfl rfl ?_
          refine v_load (v := (0, 2)) (hz_X11_refuse hT _ _ rfl) rfl rfl ?_
          refine v_putf (r := 0) hO (hz_X11_refuse hT _ _ rfl) rfl (fun hf16 => ?_)
          refine v_push (0) (hz_X11_refuse hT _ _ rfl) rfl ?_
          refine v_ret (hz_X11_refuse hT _ _ rfl) (Or.inl rfl) ?_
          show vP D T N 158 27 (zset h 0 0 (0, 2)) [some (2, 0), some (0, k), some (0, y)] [(0, 0)] _
          refine v_ret (hz_X11_hand hT _ _ rfl) (Or.inl rfl) ?_
          exact k3 hc1 hc4 hc6 hc9
    · have hc4 : (P 0 3) ≤ k := Int.not_lt.mp hc4
      refine v_push (0) (hz_X2_hasCompany hT _ _ rfl) rfl ?_
      refine v_ret (hz_X2_hasCompany hT _ _ rfl) (Or.inl rfl) ?_
      show vP D T N 158 8 h [some (2, 0), some (0, k), some (0, y)] [(0, 0)] _
      refine v_if (hz_X11_hand hT _ _ rfl) (fun _ => ?_) (fun hc17 => absurd (show (0 : Int) = 0 from (by omega)) hc17)
      refine v_load (v := (2, 0)) (hz_X11_hand hT _ _ rfl) rfl rfl ?_
      refine v_push (2) (hz_X11_hand hT _ _ rfl) rfl ?_
      refine v_call (w := 2) [some (2, 0), some (0, 2)] hO (hz_X11_hand hT _ _ rfl) rfl rfl ?_
      refine v_load (v := (2, 0)) (hz_X11_refuse hT _ _ rfl) rfl rfl ?_
      refine v_load (v := (0, 2)) (hz_X11_refuse hT _ _ rfl) rfl rfl ?_
      refine v_putf (r := 0) hO (hz_X11_refuse hT _ _ rfl) rfl (fun hf18 => ?_)
      refine v_push (0) (hz_X11_refuse hT _ _ rfl) rfl ?_
      refine v_ret (hz_X11_refuse hT _ _ rfl) (Or.inl rfl) ?_
      show vP D T N 158 27 (zset h 0 0 (0, 2)) [some (2, 0), some (0, k), some (0, y)] [(0, 0)] _
      refine v_ret (hz_X11_hand hT _ _ rfl) (Or.inl rfl) ?_
      exact k4 hc1 hc4
theorem qc_hand_39 {D : zD} {T : zT} (hT : hTab T) (hO : vOK T) {N : Nat} {h : zH} {Q : zR → Prop} {P : PT} (k y : Int) (hv0 : zHv h) (e7 : h 0 7 = (2, 39)) (g0 : h 39 0 = (0, P 0 0)) (g1 : h 39 1 = (0, P 0 1)) (g2 : h 39 2 = (0, P 0 2)) (g3 : h 39 3 = (0, P 0 3)) (lb : (0 ≤ P 0 0 ∧ P 0 0 ≤ 8) ∧ (0 ≤ P 0 1 ∧ P 0 1 ≤ 6) ∧ (0 ≤ P 0 2 ∧ P 0 2 ≤ 3) ∧ (0 ≤ P 0 3 ∧ P 0 3 ≤ 6))
    (k0 : (k < 0) → Q (zset h 0 0 (0, 2), some (0, 0)))
    (k1 : (0 ≤ k) → (k < (P 0 3)) → (y < 0) → Q (zset h 0 0 (0, 2), some (0, 0)))
    (k2 : (0 ≤ k) → (k < (P 0 3)) → (0 ≤ y) → (y < (P 0 2)) → (k < 6) → Q (zset (zset h 47 k.toNat (0, y)) 0 0 (0, 0), some (0, 1)))
    (k3 : (0 ≤ k) → (k < (P 0 3)) → (0 ≤ y) → ((P 0 2) ≤ y) → Q (zset h 0 0 (0, 2), some (0, 0)))
    (k4 : (0 ≤ k) → ((P 0 3) ≤ k) → Q (zset h 0 0 (0, 2), some (0, 0))) :
    vP D T N 158 0 h [some (2, 0), some (0, k), some (0, y)] [] Q := by
  refine v_load (v := (2, 0)) (hz_X11_hand hT _ _ rfl) rfl rfl ?_
  refine v_getf (v := (2, 39)) (r := 0) (hz_X11_hand hT _ _ rfl) rfl rfl (fun _ => e7) ?_
  refine v_load (v := (0, k)) (hz_X11_hand hT _ _ rfl) rfl rfl ?_
  refine v_call (w := 2) [some (2, 39), some (0, k)] hO (hz_X11_hand hT _ _ rfl) rfl rfl ?_
  refine v_load (v := (0, k)) (hz_X2_hasCompany hT _ _ rfl) rfl rfl ?_
  refine v_if (hz_X2_hasCompany hT _ _ rfl) (fun hc1 => ?_) (fun hc1 => ?_)
  · have hc1 : k < 0 := hc1
    refine v_push (0) (hz_X2_hasCompany hT _ _ rfl) rfl ?_
    refine v_ret (hz_X2_hasCompany hT _ _ rfl) (Or.inl rfl) ?_
    show vP D T N 158 8 h [some (2, 0), some (0, k), some (0, y)] [(0, 0)] _
    refine v_if (hz_X11_hand hT _ _ rfl) (fun _ => ?_) (fun hc2 => absurd (show (0 : Int) = 0 from (by omega)) hc2)
    refine v_load (v := (2, 0)) (hz_X11_hand hT _ _ rfl) rfl rfl ?_
    refine v_push (2) (hz_X11_hand hT _ _ rfl) rfl ?_
    refine v_call (w := 2) [some (2, 0), some (0, 2)] hO (hz_X11_hand hT _ _ rfl) rfl rfl ?_
    refine v_load (v := (2, 0)) (hz_X11_refuse hT _ _ rfl) rfl rfl ?_
    refine v_load (v := (0, 2)) (hz_X11_refuse hT _ _ rfl) rfl rfl ?_
    refine v_putf (r := 0) hO (hz_X11_refuse hT _ _ rfl) rfl (fun hf3 => ?_)
    refine v_push (0) (hz_X11_refuse hT _ _ rfl) rfl ?_
    refine v_ret (hz_X11_refuse hT _ _ rfl) (Or.inl rfl) ?_
    show vP D T N 158 27 (zset h 0 0 (0, 2)) [some (2, 0), some (0, k), some (0, y)] [(0, 0)] _
    refine v_ret (hz_X11_hand hT _ _ rfl) (Or.inl rfl) ?_
    exact k0 hc1
  · have hc1 : 0 ≤ k := Int.not_lt.mp hc1
    refine v_load (v := (0, k)) (hz_X2_hasCompany hT _ _ rfl) rfl rfl ?_
    refine v_load (v := (2, 39)) (hz_X2_hasCompany hT _ _ rfl) rfl rfl ?_
    refine v_getf (v := (0, (P 0 3))) (r := 39) (hz_X2_hasCompany hT _ _ rfl) rfl rfl (fun _ => g3) ?_
    refine v_ic (hz_X2_hasCompany hT _ _ rfl) (fun hc4 => ?_) (fun hc4 => ?_)
    · have hc4 : k < (P 0 3) := hc4
      refine v_push (1) (hz_X2_hasCompany hT _ _ rfl) rfl ?_
      refine v_goto (hz_X2_hasCompany hT _ _ rfl) ?_
      refine v_ret (hz_X2_hasCompany hT _ _ rfl) (Or.inl rfl) ?_
      show vP D T N 158 8 h [some (2, 0), some (0, k), some (0, y)] [(0, 1)] _
      refine v_if (hz_X11_hand hT _ _ rfl) (fun hc5 => absurd (show (1 : Int) = 0 from hc5) (by omega)) (fun _ => ?_)
      refine v_load (v := (2, 0)) (hz_X11_hand hT _ _ rfl) rfl rfl ?_
      refine v_getf (v := (2, 39)) (r := 0) (hz_X11_hand hT _ _ rfl) rfl rfl (fun _ => e7) ?_
      refine v_load (v := (0, y)) (hz_X11_hand hT _ _ rfl) rfl rfl ?_
      refine v_call (w := 2) [some (2, 39), some (0, y)] hO (hz_X11_hand hT _ _ rfl) rfl rfl ?_
      refine v_load (v := (0, y)) (hz_X2_hasCopy hT _ _ rfl) rfl rfl ?_
      refine v_if (hz_X2_hasCopy hT _ _ rfl) (fun hc6 => ?_) (fun hc6 => ?_)
      · have hc6 : y < 0 := hc6
        refine v_push (0) (hz_X2_hasCopy hT _ _ rfl) rfl ?_
        refine v_ret (hz_X2_hasCopy hT _ _ rfl) (Or.inl rfl) ?_
        show vP D T N 158 19 h [some (2, 0), some (0, k), some (0, y)] [(0, 0)] _
        refine v_if (hz_X11_hand hT _ _ rfl) (fun _ => ?_) (fun hc7 => absurd (show (0 : Int) = 0 from (by omega)) hc7)
        refine v_load (v := (2, 0)) (hz_X11_hand hT _ _ rfl) rfl rfl ?_
        refine v_push (2) (hz_X11_hand hT _ _ rfl) rfl ?_
        refine v_call (w := 2) [some (2, 0), some (0, 2)] hO (hz_X11_hand hT _ _ rfl) rfl rfl ?_
        refine v_load (v := (2, 0)) (hz_X11_refuse hT _ _ rfl) rfl rfl ?_
        refine v_load (v := (0, 2)) (hz_X11_refuse hT _ _ rfl) rfl rfl ?_
        refine v_putf (r := 0) hO (hz_X11_refuse hT _ _ rfl) rfl (fun hf8 => ?_)
        refine v_push (0) (hz_X11_refuse hT _ _ rfl) rfl ?_
        refine v_ret (hz_X11_refuse hT _ _ rfl) (Or.inl rfl) ?_
        show vP D T N 158 27 (zset h 0 0 (0, 2)) [some (2, 0), some (0, k), some (0, y)] [(0, 0)] _
        refine v_ret (hz_X11_hand hT _ _ rfl) (Or.inl rfl) ?_
        exact k1 hc1 hc4 hc6
      · have hc6 : 0 ≤ y := Int.not_lt.mp hc6
        refine v_load (v := (0, y)) (hz_X2_hasCopy hT _ _ rfl) rfl rfl ?_
        refine v_load (v := (2, 39)) (hz_X2_hasCopy hT _ _ rfl) rfl rfl ?_
        refine v_getf (v := (0, (P 0 2))) (r := 39) (hz_X2_hasCopy hT _ _ rfl) rfl rfl (fun _ => g2) ?_
        refine v_ic (hz_X2_hasCopy hT _ _ rfl) (fun hc9 => ?_) (fun hc9 => ?_)
        · have hc9 : y < (P 0 2) := hc9
          refine v_push (1) (hz_X2_hasCopy hT _ _ rfl) rfl ?_
          refine v_goto (hz_X2_hasCopy hT _ _ rfl) ?_
          refine v_ret (hz_X2_hasCopy hT _ _ rfl) (Or.inl rfl) ?_
          show vP D T N 158 19 h [some (2, 0), some (0, k), some (0, y)] [(0, 1)] _
          refine v_if (hz_X11_hand hT _ _ rfl) (fun hc10 => absurd (show (1 : Int) = 0 from hc10) (by omega)) (fun _ => ?_)
          refine v_load (v := (2, 0)) (hz_X11_hand hT _ _ rfl) rfl rfl ?_
          refine v_getf (v := (2, 39)) (r := 0) (hz_X11_hand hT _ _ rfl) rfl rfl (fun _ => e7) ?_
          refine v_getR (c := 47) (r := 39) (hz_X11_hand hT _ _ rfl) rfl rfl rfl ?_
          refine v_load (v := (0, k)) (hz_X11_hand hT _ _ rfl) rfl rfl ?_
          refine v_load (v := (0, y)) (hz_X11_hand hT _ _ rfl) rfl rfl ?_
          refine v_ast (r := 47) (hz_X11_hand hT _ _ rfl) rfl rfl (fun ha11 hb12 hf13 => ?_)
          refine v_load (v := (2, 0)) (hz_X11_hand hT _ _ rfl) rfl rfl ?_
          refine v_call (w := 1) [some (2, 0)] hO (hz_X11_hand hT _ _ rfl) rfl rfl ?_
          refine v_load (v := (2, 0)) (hz_X11_accept hT _ _ rfl) rfl rfl ?_
          refine v_push (0) (hz_X11_accept hT _ _ rfl) rfl ?_
          refine v_putf (r := 0) hO (hz_X11_accept hT _ _ rfl) rfl (fun hf14 => ?_)
          refine v_push (1) (hz_X11_accept hT _ _ rfl) rfl ?_
          refine v_ret (hz_X11_accept hT _ _ rfl) (Or.inl rfl) ?_
          show vP D T N 158 42 (zset (zset h 47 k.toNat (0, y)) 0 0 (0, 0)) [some (2, 0), some (0, k), some (0, y)] [(0, 1)] _
          refine v_ret (hz_X11_hand hT _ _ rfl) (Or.inl rfl) ?_
          exact k2 hc1 hc4 hc6 hc9 hb12
        · have hc9 : (P 0 2) ≤ y := Int.not_lt.mp hc9
          refine v_push (0) (hz_X2_hasCopy hT _ _ rfl) rfl ?_
          refine v_ret (hz_X2_hasCopy hT _ _ rfl) (Or.inl rfl) ?_
          show vP D T N 158 19 h [some (2, 0), some (0, k), some (0, y)] [(0, 0)] _
          refine v_if (hz_X11_hand hT _ _ rfl) (fun _ => ?_) (fun hc15 => absurd (show (0 : Int) = 0 from (by omega)) hc15)
          refine v_load (v := (2, 0)) (hz_X11_hand hT _ _ rfl) rfl rfl ?_
          refine v_push (2) (hz_X11_hand hT _ _ rfl) rfl ?_
          refine v_call (w := 2) [some (2, 0), some (0, 2)] hO (hz_X11_hand hT _ _ rfl) rfl rfl ?_
          refine v_load (v := (2, 0)) (hz_X11_refuse hT _ _ rfl) rfl rfl ?_
          refine v_load (v := (0, 2)) (hz_X11_refuse hT _ _ rfl) rfl rfl ?_
          refine v_putf (r := 0) hO (hz_X11_refuse hT _ _ rfl) rfl (fun hf16 => ?_)
          refine v_push (0) (hz_X11_refuse hT _ _ rfl) rfl ?_
          refine v_ret (hz_X11_refuse hT _ _ rfl) (Or.inl rfl) ?_
          show vP D T N 158 27 (zset h 0 0 (0, 2)) [some (2, 0), some (0, k), some (0, y)] [(0, 0)] _
          refine v_ret (hz_X11_hand hT _ _ rfl) (Or.inl rfl) ?_
          exact k3 hc1 hc4 hc6 hc9
    · have hc4 : (P 0 3) ≤ k := Int.not_lt.mp hc4
      refine v_push (0) (hz_X2_hasCompany hT _ _ rfl) rfl ?_
      refine v_ret (hz_X2_hasCompany hT _ _ rfl) (Or.inl rfl) ?_
      show vP D T N 158 8 h [some (2, 0), some (0, k), some (0, y)] [(0, 0)] _
      refine v_if (hz_X11_hand hT _ _ rfl) (fun _ => ?_) (fun hc17 => absurd (show (0 : Int) = 0 from (by omega)) hc17)
      refine v_load (v := (2, 0)) (hz_X11_hand hT _ _ rfl) rfl rfl ?_
      refine v_push (2) (hz_X11_hand hT _ _ rfl) rfl ?_
      refine v_call (w := 2) [some (2, 0), some (0, 2)] hO (hz_X11_hand hT _ _ rfl) rfl rfl ?_
      refine v_load (v := (2, 0)) (hz_X11_refuse hT _ _ rfl) rfl rfl ?_
      refine v_load (v := (0, 2)) (hz_X11_refuse hT _ _ rfl) rfl rfl ?_
      refine v_putf (r := 0) hO (hz_X11_refuse hT _ _ rfl) rfl (fun hf18 => ?_)
      refine v_push (0) (hz_X11_refuse hT _ _ rfl) rfl ?_
      refine v_ret (hz_X11_refuse hT _ _ rfl) (Or.inl rfl) ?_
      show vP D T N 158 27 (zset h 0 0 (0, 2)) [some (2, 0), some (0, k), some (0, y)] [(0, 0)] _
      refine v_ret (hz_X11_hand hT _ _ rfl) (Or.inl rfl) ?_
      exact k4 hc1 hc4
theorem qr_hand {D : zD} {T : zT} (hT : hTab T) (hO : vOK T) {N : Nat} {h : zH} {Q : zR → Prop} {P : PT} (k y : Int) (hv0 : zHv h) (g0 : h 126 0 = (0, P 0 0)) (g1 : h 126 1 = (0, P 0 1)) (g2 : h 126 2 = (0, P 0 2)) (g3 : h 126 3 = (0, P 0 3)) (lb : (0 ≤ P 0 0 ∧ P 0 0 ≤ 8) ∧ (0 ≤ P 0 1 ∧ P 0 1 ≤ 6) ∧ (0 ≤ P 0 2 ∧ P 0 2 ≤ 3) ∧ (0 ≤ P 0 3 ∧ P 0 3 ≤ 6))
    (k0 : (k < 0) → Q (zset (zset (zset h 121 1 (0, 0)) 121 0 (0, 0)) 121 0 (0, 2), some (0, 0)))
    (k1 : (0 ≤ k) → (((P 0 3) - 1) < k) → Q (zset (zset (zset h 121 1 (0, 0)) 121 0 (0, 0)) 121 0 (0, 2), some (0, 0)))
    (k2 : (0 ≤ k) → (k ≤ ((P 0 3) - 1)) → (y < 0) → Q (zset (zset (zset h 121 1 (0, 0)) 121 0 (0, 0)) 121 0 (0, 2), some (0, 0)))
    (k3 : (0 ≤ k) → (k ≤ ((P 0 3) - 1)) → (0 ≤ y) → (((P 0 2) - 1) < y) → Q (zset (zset (zset h 121 1 (0, 0)) 121 0 (0, 0)) 121 0 (0, 2), some (0, 0)))
    (k4 : (0 ≤ k) → (k ≤ ((P 0 3) - 1)) → (0 ≤ y) → (y ≤ ((P 0 2) - 1)) → (0 ≤ (263 + k)) → ((263 + k) < 2750) → Q (zset (zset (zset h 121 1 (0, 0)) 121 0 (0, 0)) 126 (((263 + k)).toNat) (0, y), some (0, 1))) :
    vP D T N 236 0 h [some (2, 121), some (0, k), some (0, y)] [] Q := by
  refine v_load (v := (2, 121)) (hz_X12_hand hT _ _ rfl) rfl rfl ?_
  refine v_push (0) (hz_X12_hand hT _ _ rfl) rfl ?_
  refine v_putf (r := 121) hO (hz_X12_hand hT _ _ rfl) rfl (fun hf1 => ?_)
  refine v_load (v := (2, 121)) (hz_X12_hand hT _ _ rfl) rfl rfl ?_
  refine v_push (0) (hz_X12_hand hT _ _ rfl) rfl ?_
  refine v_putf (r := 121) hO (hz_X12_hand hT _ _ rfl) rfl (fun hf2 => ?_)
  refine v_load (v := (2, 121)) (hz_X12_hand hT _ _ rfl) rfl rfl ?_
  refine v_load (v := (0, k)) (hz_X12_hand hT _ _ rfl) rfl rfl ?_
  refine v_call (w := 2) [some (2, 121), some (0, k)] hO (hz_X12_hand hT _ _ rfl) rfl rfl ?_
  refine v_load (v := (0, k)) (hz_X12_isCompanyAt hT _ _ rfl) rfl rfl ?_
  refine v_i2l (hz_X12_isCompanyAt hT _ _ rfl) ?_
  refine v_push (0) (hz_X12_isCompanyAt hT _ _ rfl) rfl ?_
  refine v_load (v := (2, 121)) (hz_X12_isCompanyAt hT _ _ rfl) rfl rfl ?_
  refine v_getR (c := 126) (r := 121) (hz_X12_isCompanyAt hT _ _ rfl) rfl rfl rfl ?_
  refine v_push (3) (hz_X12_isCompanyAt hT _ _ rfl) rfl ?_
  refine v_aldV (v := (0, (P 0 3))) (r := 126) (hz_X12_isCompanyAt hT _ _ rfl) rfl rfl (fun _ _ _ => (Eq.trans (Eq.trans (zset_ne (fun c => absurd c.1 (by decide))) (zset_ne (fun c => absurd c.1 (by decide)))) (g3))) (fun ha3 hb4 => ?_)
  refine v_push (1) (hz_X12_isCompanyAt hT _ _ rfl) rfl ?_
  refine v_bin (w := ((P 0 3) - 1)) (hz_X12_isCompanyAt hT _ _ rfl) (hq_sub (by omega) (by omega)) ?_
  refine v_i2l (hz_X12_isCompanyAt hT _ _ rfl) ?_
  refine v_call (w := 6) [some (1, k), none, some (1, 0), none, some (1, ((P 0 3) - 1)), none] hO (hz_X12_isCompanyAt hT _ _ rfl) rfl rfl ?_
  refine v_load (v := (1, k)) (hz_X12_isIn hT _ _ rfl) rfl rfl ?_
  refine v_load (v := (1, 0)) (hz_X12_isIn hT _ _ rfl) rfl rfl ?_
  refine v_lif (hz_X12_isIn hT _ _ rfl) (hz_X12_isIn hT _ _ rfl) (fun hc5 => ?_) (fun hc5 => ?_)
  · have hc5 : k < 0 := hc5
    refine v_push (0) (hz_X12_isIn hT _ _ rfl) rfl ?_
    refine v_ret (hz_X12_isIn hT _ _ rfl) (Or.inl rfl) ?_
    show vP D T N 246 15 (zset (zset h 121 1 (0, 0)) 121 0 (0, 0)) [some (2, 121), some (0, k)] [(0, 0)] _
    refine v_ret (hz_X12_isCompanyAt hT _ _ rfl) (Or.inl rfl) ?_
    show vP D T N 236 15 (zset (zset h 121 1 (0, 0)) 121 0 (0, 0)) [some (2, 121), some (0, k), some (0, y)] [(0, 0)] _
    refine v_if (hz_X12_hand hT _ _ rfl) (fun _ => ?_) (fun hc6 => absurd (show (0 : Int) = 0 from (by omega)) hc6)
    refine v_load (v := (2, 121)) (hz_X12_hand hT _ _ rfl) rfl rfl ?_
    refine v_push (2) (hz_X12_hand hT _ _ rfl) rfl ?_
    refine v_call (w := 2) [some (2, 121), some (0, 2)] hO (hz_X12_hand hT _ _ rfl) rfl rfl ?_
    refine v_load (v := (2, 121)) (hz_X12_no hT _ _ rfl) rfl rfl ?_
    refine v_load (v := (0, 2)) (hz_X12_no hT _ _ rfl) rfl rfl ?_
    refine v_putf (r := 121) hO (hz_X12_no hT _ _ rfl) rfl (fun hf7 => ?_)
    refine v_push (0) (hz_X12_no hT _ _ rfl) rfl ?_
    refine v_ret (hz_X12_no hT _ _ rfl) (Or.inl rfl) ?_
    show vP D T N 236 31 (zset (zset (zset h 121 1 (0, 0)) 121 0 (0, 0)) 121 0 (0, 2)) [some (2, 121), some (0, k), some (0, y)] [(0, 0)] _
    refine v_ret (hz_X12_hand hT _ _ rfl) (Or.inl rfl) ?_
    exact k0 hc5
  · have hc5 : 0 ≤ k := Int.not_lt.mp hc5
    refine v_load (v := (1, k)) (hz_X12_isIn hT _ _ rfl) rfl rfl ?_
    refine v_load (v := (1, ((P 0 3) - 1))) (hz_X12_isIn hT _ _ rfl) rfl rfl ?_
    refine v_lif (hz_X12_isIn hT _ _ rfl) (hz_X12_isIn hT _ _ rfl) (fun hc8 => ?_) (fun hc8 => ?_)
    · have hc8 : ((P 0 3) - 1) < k := hc8
      refine v_push (0) (hz_X12_isIn hT _ _ rfl) rfl ?_
      refine v_ret (hz_X12_isIn hT _ _ rfl) (Or.inl rfl) ?_
      show vP D T N 246 15 (zset (zset h 121 1 (0, 0)) 121 0 (0, 0)) [some (2, 121), some (0, k)] [(0, 0)] _
      refine v_ret (hz_X12_isCompanyAt hT _ _ rfl) (Or.inl rfl) ?_
      show vP D T N 236 15 (zset (zset h 121 1 (0, 0)) 121 0 (0, 0)) [some (2, 121), some (0, k), some (0, y)] [(0, 0)] _
      refine v_if (hz_X12_hand hT _ _ rfl) (fun _ => ?_) (fun hc9 => absurd (show (0 : Int) = 0 from (by omega)) hc9)
      refine v_load (v := (2, 121)) (hz_X12_hand hT _ _ rfl) rfl rfl ?_
      refine v_push (2) (hz_X12_hand hT _ _ rfl) rfl ?_
      refine v_call (w := 2) [some (2, 121), some (0, 2)] hO (hz_X12_hand hT _ _ rfl) rfl rfl ?_
      refine v_load (v := (2, 121)) (hz_X12_no hT _ _ rfl) rfl rfl ?_
      refine v_load (v := (0, 2)) (hz_X12_no hT _ _ rfl) rfl rfl ?_
      refine v_putf (r := 121) hO (hz_X12_no hT _ _ rfl) rfl (fun hf10 => ?_)
      refine v_push (0) (hz_X12_no hT _ _ rfl) rfl ?_
      refine v_ret (hz_X12_no hT _ _ rfl) (Or.inl rfl) ?_
      show vP D T N 236 31 (zset (zset (zset h 121 1 (0, 0)) 121 0 (0, 0)) 121 0 (0, 2)) [some (2, 121), some (0, k), some (0, y)] [(0, 0)] _
      refine v_ret (hz_X12_hand hT _ _ rfl) (Or.inl rfl) ?_
      exact k1 hc5 hc8
    · have hc8 : k ≤ ((P 0 3) - 1) := Int.not_lt.mp hc8
      refine v_push (1) (hz_X12_isIn hT _ _ rfl) rfl ?_
      refine v_goto (hz_X12_isIn hT _ _ rfl) ?_
      refine v_ret (hz_X12_isIn hT _ _ rfl) (Or.inl rfl) ?_
      show vP D T N 246 15 (zset (zset h 121 1 (0, 0)) 121 0 (0, 0)) [some (2, 121), some (0, k)] [(0, 1)] _
      refine v_ret (hz_X12_isCompanyAt hT _ _ rfl) (Or.inl rfl) ?_
      show vP D T N 236 15 (zset (zset h 121 1 (0, 0)) 121 0 (0, 0)) [some (2, 121), some (0, k), some (0, y)] [(0, 1)] _
      refine v_if (hz_X12_hand hT _ _ rfl) (fun hc11 => absurd (show (1 : Int) = 0 from hc11) (by omega)) (fun _ => ?_)
      refine v_load (v := (2, 121)) (hz_X12_hand hT _ _ rfl) rfl rfl ?_
      refine v_load (v := (0, y)) (hz_X12_hand hT _ _ rfl) rfl rfl ?_
      refine v_call (w := 2) [some (2, 121), some (0, y)] hO (hz_X12_hand hT _ _ rfl) rfl rfl ?_
      refine v_load (v := (0, y)) (hz_X12_isCopy hT _ _ rfl) rfl rfl ?_
      refine v_i2l (hz_X12_isCopy hT _ _ rfl) ?_
      refine v_push (0) (hz_X12_isCopy hT _ _ rfl) rfl ?_
      refine v_load (v := (2, 121)) (hz_X12_isCopy hT _ _ rfl) rfl rfl ?_
      refine v_getR (c := 126) (r := 121) (hz_X12_isCopy hT _ _ rfl) rfl rfl rfl ?_
      refine v_push (2) (hz_X12_isCopy hT _ _ rfl) rfl ?_
      refine v_aldV (v := (0, (P 0 2))) (r := 126) (hz_X12_isCopy hT _ _ rfl) rfl rfl (fun _ _ _ => (Eq.trans (Eq.trans (zset_ne (fun c => absurd c.1 (by decide))) (zset_ne (fun c => absurd c.1 (by decide)))) (g2))) (fun ha12 hb13 => ?_)
      refine v_push (1) (hz_X12_isCopy hT _ _ rfl) rfl ?_
      refine v_bin (w := ((P 0 2) - 1)) (hz_X12_isCopy hT _ _ rfl) (hq_sub (by omega) (by omega)) ?_
      refine v_i2l (hz_X12_isCopy hT _ _ rfl) ?_
      refine v_call (w := 6) [some (1, y), none, some (1, 0), none, some (1, ((P 0 2) - 1)), none] hO (hz_X12_isCopy hT _ _ rfl) rfl rfl ?_
      refine v_load (v := (1, y)) (hz_X12_isIn hT _ _ rfl) rfl rfl ?_
      refine v_load (v := (1, 0)) (hz_X12_isIn hT _ _ rfl) rfl rfl ?_
      refine v_lif (hz_X12_isIn hT _ _ rfl) (hz_X12_isIn hT _ _ rfl) (fun hc14 => ?_) (fun hc14 => ?_)
      · have hc14 : y < 0 := hc14
        refine v_push (0) (hz_X12_isIn hT _ _ rfl) rfl ?_
        refine v_ret (hz_X12_isIn hT _ _ rfl) (Or.inl rfl) ?_
        show vP D T N 248 15 (zset (zset h 121 1 (0, 0)) 121 0 (0, 0)) [some (2, 121), some (0, y)] [(0, 0)] _
        refine v_ret (hz_X12_isCopy hT _ _ rfl) (Or.inl rfl) ?_
        show vP D T N 236 23 (zset (zset h 121 1 (0, 0)) 121 0 (0, 0)) [some (2, 121), some (0, k), some (0, y)] [(0, 0)] _
        refine v_if (hz_X12_hand hT _ _ rfl) (fun _ => ?_) (fun hc15 => absurd (show (0 : Int) = 0 from (by omega)) hc15)
        refine v_load (v := (2, 121)) (hz_X12_hand hT _ _ rfl) rfl rfl ?_
        refine v_push (2) (hz_X12_hand hT _ _ rfl) rfl ?_
        refine v_call (w := 2) [some (2, 121), some (0, 2)] hO (hz_X12_hand hT _ _ rfl) rfl rfl ?_
        refine v_load (v := (2, 121)) (hz_X12_no hT _ _ rfl) rfl rfl ?_
        refine v_load (v := (0, 2)) (hz_X12_no hT _ _ rfl) rfl rfl ?_
        refine v_putf (r := 121) hO (hz_X12_no hT _ _ rfl) rfl (fun hf16 => ?_)
        refine v_push (0) (hz_X12_no hT _ _ rfl) rfl ?_
        refine v_ret (hz_X12_no hT _ _ rfl) (Or.inl rfl) ?_
        show vP D T N 236 31 (zset (zset (zset h 121 1 (0, 0)) 121 0 (0, 0)) 121 0 (0, 2)) [some (2, 121), some (0, k), some (0, y)] [(0, 0)] _
        refine v_ret (hz_X12_hand hT _ _ rfl) (Or.inl rfl) ?_
        exact k2 hc5 hc8 hc14
      · have hc14 : 0 ≤ y := Int.not_lt.mp hc14
        refine v_load (v := (1, y)) (hz_X12_isIn hT _ _ rfl) rfl rfl ?_
        refine v_load (v := (1, ((P 0 2) - 1))) (hz_X12_isIn hT _ _ rfl) rfl rfl ?_
        refine v_lif (hz_X12_isIn hT _ _ rfl) (hz_X12_isIn hT _ _ rfl) (fun hc17 => ?_) (fun hc17 => ?_)
        · have hc17 : ((P 0 2) - 1) < y := hc17
          refine v_push (0) (hz_X12_isIn hT _ _ rfl) rfl ?_
          refine v_ret (hz_X12_isIn hT _ _ rfl) (Or.inl rfl) ?_
          show vP D T N 248 15 (zset (zset h 121 1 (0, 0)) 121 0 (0, 0)) [some (2, 121), some (0, y)] [(0, 0)] _
          refine v_ret (hz_X12_isCopy hT _ _ rfl) (Or.inl rfl) ?_
          show vP D T N 236 23 (zset (zset h 121 1 (0, 0)) 121 0 (0, 0)) [some (2, 121), some (0, k), some (0, y)] [(0, 0)] _
          refine v_if (hz_X12_hand hT _ _ rfl) (fun _ => ?_) (fun hc18 => absurd (show (0 : Int) = 0 from (by omega)) hc18)
          refine v_load (v := (2, 121)) (hz_X12_hand hT _ _ rfl) rfl rfl ?_
          refine v_push (2) (hz_X12_hand hT _ _ rfl) rfl ?_
          refine v_call (w := 2) [some (2, 121), some (0, 2)] hO (hz_X12_hand hT _ _ rfl) rfl rfl ?_
          refine v_load (v := (2, 121)) (hz_X12_no hT _ _ rfl) rfl rfl ?_
          refine v_load (v := (0, 2)) (hz_X12_no hT _ _ rfl) rfl rfl ?_
          refine v_putf (r := 121) hO (hz_X12_no hT _ _ rfl) rfl (fun hf19 => ?_)
          refine v_push (0) (hz_X12_no hT _ _ rfl) rfl ?_
          refine v_ret (hz_X12_no hT _ _ rfl) (Or.inl rfl) ?_
          show vP D T N 236 31 (zset (zset (zset h 121 1 (0, 0)) 121 0 (0, 0)) 121 0 (0, 2)) [some (2, 121), some (0, k), some (0, y)] [(0, 0)] _
          refine v_ret (hz_X12_hand hT _ _ rfl) (Or.inl rfl) ?_
          exact k3 hc5 hc8 hc14 hc17
        · have hc17 : y ≤ ((P 0 2) - 1) := Int.not_lt.mp hc17
          refine v_push (1) (hz_X12_isIn hT _ _ rfl) rfl ?_
          refine v_goto (hz_X12_isIn hT _ _ rfl) ?_
          refine v_ret (hz_X12_isIn hT _ _ rfl) (Or.inl rfl) ?_
          show vP D T N 248 15 (zset (zset h 121 1 (0, 0)) 121 0 (0, 0)) [some (2, 121), some (0, y)] [(0, 1)] _
          refine v_ret (hz_X12_isCopy hT _ _ rfl) (Or.inl rfl) ?_
          show vP D T N 236 23 (zset (zset h 121 1 (0, 0)) 121 0 (0, 0)) [some (2, 121), some (0, k), some (0, y)] [(0, 1)] _
          refine v_if (hz_X12_hand hT _ _ rfl) (fun hc20 => absurd (show (1 : Int) = 0 from hc20) (by omega)) (fun _ => ?_)
          refine v_load (v := (2, 121)) (hz_X12_hand hT _ _ rfl) rfl rfl ?_
          refine v_getR (c := 126) (r := 121) (hz_X12_hand hT _ _ rfl) rfl rfl rfl ?_
          refine v_push (263) (hz_X12_hand hT _ _ rfl) rfl ?_
          refine v_load (v := (0, k)) (hz_X12_hand hT _ _ rfl) rfl rfl ?_
          refine v_bin (w := (263 + k)) (hz_X12_hand hT _ _ rfl) (hq_add (by omega) (by omega)) ?_
          refine v_load (v := (0, y)) (hz_X12_hand hT _ _ rfl) rfl rfl ?_
          refine v_ast (r := 126) (hz_X12_hand hT _ _ rfl) rfl rfl (fun ha21 hb22 hf23 => ?_)
          refine v_push (1) (hz_X12_hand hT _ _ rfl) rfl ?_
          refine v_ret (hz_X12_hand hT _ _ rfl) (Or.inl rfl) ?_
          exact k4 hc5 hc8 hc14 hc17 ha21 hb22
/-! what single calls answer -/
theorem sv {t : Nat} {a b : Int} {h : zH} (e : a = b) : ((h, some ((t, a) : zV)) : zR).2 = some (t, b) := by rw [e]
theorem sv_i {h : zH} {a b : Int} (e : ((h, some ((0, a) : zV)) : zR).2 = some (0, b)) : a = b := by cases (e : some ((0, a) : zV) = some (0, b)); rfl
theorem lR.at {M : aM} {h h1 : zH} (hR : lR h) (f1 : aFr M h h1) (hf : lFree bAll M = true) : ∃ (r c : Nat) (P : PT), (c = 24 ∧ r = 39 ∨ c = 39 ∧ r = 24) ∧ h 0 7 = (2, (c : Int)) ∧ h 0 8 = (2, (r : Int)) ∧ sCl c P h ∧ rP 0 P h1 ∧ lB P ∧ (((h (c + 10) 0).2 = -1 ∧ (h1 126 275).2 = 0) ∨ (0 ≤ (h (c + 10) 0).2 ∧ (h1 126 275).2 = 1)) := by
  obtain ⟨_, _, _, r, c, s1, s2, s3, P, g1, g2, g3, g4⟩ := hR
  have k := bK_fr f1 hf (b := 0) (by decide)
  have e : h1 126 275 = h 126 275 := k.1 275 (Or.inr (Or.inr (Or.inr rfl)))
  refine ⟨r, c, P, ?_, s2, s3, g1, g2.tr g3 k, g3, ?_⟩
  · rcases s1 with ⟨rfl, rfl⟩ | ⟨rfl, rfl⟩
    · exact Or.inr ⟨rfl, rfl⟩
    · exact Or.inl ⟨rfl, rfl⟩
  · rw [e]
    exact g4
theorem lRk_fault {D : zD} (hD : ∀ i, -2147483648 ≤ D.2 i ∧ D.2 i ≤ 2147483647) {h h1 h2 : zH} {w v1 v2 : Int} (hZ : lZ D h) (hZ1 : lZ D h1) (hR : lR h) (z1 : zRun D TLw 614 154 0 (h, zargs 0 [(2, 0), (0, w)], []) (h1, some (0, v1))) (f1 : aFr lM_154 h h1) (z2 : zRun D TLw 614 226 0 (h1, zargs 0 [(2, 121), (0, w)], []) (h2, some (0, v2))) (f2 : aFr lM_226 h1 h2) : lR h2 ∧ v1 = v2 := by
  refine ⟨lR_S.fr (M := lM_226) (by decide +kernel) f2 (lR_S.fr (M := lM_154) (by decide +kernel) f1 hR), ?_⟩
  have a1 := hZ.run 2 z1 (Q := fun x => x.2 = some (0, if w = 0 then (h 10 9).2 else if w = 1 then (h 10 10).2 else -1)) (fun N => vP_hv (fun hv => by
    refine qc_fault TLw_T vOK_T w hv ?_ ?_ ?_ <;> (intros; exact sv (by omega))))
  have a2 := hZ1.run 2 z2 (Q := fun x => x.2 = some (0, if w = 0 then (h1 121 10).2 else if w = 1 then (h1 121 11).2 else -1)) (fun N => vP_hv (fun hv => by
    refine qr_fault TLw_T vOK_T w hv ?_ ?_ ?_ <;> (intros; exact sv (by omega))))
  have e1 := sv_i a1
  have e2 := sv_i a2
  have q : ∀ a k, aIn [(121, 10, 11)] a k → h1 a k = h a k := fun a k hi => f1.keep (S := [(121, 10, 11)]) (by decide +kernel) hi
  have q1 := congrArg Prod.snd (q 121 10 ⟨(121, 10, 11), by decide, rfl, by decide, by decide⟩)
  have q2 := congrArg Prod.snd (q 121 11 ⟨(121, 10, 11), by decide, rfl, by decide, by decide⟩)
  obtain ⟨_, ⟨x1, x2⟩, _⟩ := hR
  rw [e1, e2, q1, q2, x1, x2]
theorem lRk_hand {D : zD} (hD : ∀ i, -2147483648 ≤ D.2 i ∧ D.2 i ≤ 2147483647) {h h1 h2 : zH} {k y v1 v2 : Int} (hZ : lZ D h) (hZ1 : lZ D h1) (hR : lR h) (z1 : zRun D TLw 614 158 0 (h, zargs 0 [(2, 0), (0, k), (0, y)], []) (h1, some (0, v1))) (f1 : aFr lM_158 h h1) (z2 : zRun D TLw 614 236 0 (h1, zargs 0 [(2, 121), (0, k), (0, y)], []) (h2, some (0, v2))) (f2 : aFr lM_236 h1 h2) : lR h2 ∧ v1 = v2 := by
  refine ⟨lR_S.fr (M := lM_236) (by decide +kernel) f2 (lR_S.fr (M := lM_158) (by decide +kernel) f1 hR), ?_⟩
  obtain ⟨r, c, P, hc, e7, e8, gc, gr, lb, go⟩ := hR.at f1 (by decide +kernel)
  have a1 : v1 = (if 0 ≤ k ∧ k < P 0 3 ∧ 0 ≤ y ∧ y < P 0 2 then 1 else 0) := by
    refine sv_i (hZ.run 3 z1 (Q := fun x => x.2 = some (0, (if 0 ≤ k ∧ k < P 0 3 ∧ 0 ≤ y ∧ y < P 0 2 then 1 else 0))) (fun N => vP_hv (fun hv => ?_)))
    rcases hc with ⟨rfl, rfl⟩ | ⟨rfl, rfl⟩
    · refine qc_hand_24 TLw_T vOK_T k y hv e7 gc.1.1 gc.1.2.1 gc.1.2.2.1 gc.1.2.2.2 lb ?_ ?_ ?_ ?_ ?_ <;> (intros; exact sv (by omega))
    · refine qc_hand_39 TLw_T vOK_T k y hv e7 gc.1.1 gc.1.2.1 gc.1.2.2.1 gc.1.2.2.2 lb ?_ ?_ ?_ ?_ ?_ <;> (intros; exact sv (by omega))
  have a2 : v2 = (if 0 ≤ k ∧ k < P 0 3 ∧ 0 ≤ y ∧ y < P 0 2 then 1 else 0) := by
    refine sv_i (hZ1.run 3 z2 (Q := fun x => x.2 = some (0, (if 0 ≤ k ∧ k < P 0 3 ∧ 0 ≤ y ∧ y < P 0 2 then 1 else 0))) (fun N => vP_hv (fun hv => ?_)))
    refine qr_hand TLw_T vOK_T k y hv gr.1.1 gr.1.2.1 gr.1.2.2.1 gr.1.2.2.2 lb ?_ ?_ ?_ ?_ ?_ <;> (intros; exact sv (by omega))
  rw [a1, a2]
theorem vK0_k {D : zD} {T : zT} {N mi pc : Nat} {h : zH} {l : List (Option zV)} {S : List zV} {Q : zR → Prop} (H : vP D T N mi pc h l S (fun r => rtK 0 r.2)) (k : ∀ g, Q (g, none)) : vP D T N mi pc h l S Q := vP_Q (fun r hr => by
  obtain ⟨g, v⟩ := r
  have hr : v = none := hr
  subst hr
  exact k g) H
theorem vK1_k {D : zD} {T : zT} {N mi pc : Nat} {h : zH} {l : List (Option zV)} {S : List zV} {Q : zR → Prop} (H : vP D T N mi pc h l S (fun r => rtK 1 r.2)) (k : ∀ g z, Q (g, some (0, z))) : vP D T N mi pc h l S Q := vP_Q (fun r hr => by
  obtain ⟨g, v⟩ := r
  obtain ⟨z, hr⟩ := hr
  have hr : v = some (0, z) := hr
  subst hr
  exact k g z) H
theorem vK2_k {D : zD} {T : zT} {N mi pc : Nat} {h : zH} {l : List (Option zV)} {S : List zV} {Q : zR → Prop} (H : vP D T N mi pc h l S (fun r => rtK 2 r.2)) (k : ∀ g z, Q (g, some (1, z))) : vP D T N mi pc h l S Q := vP_Q (fun r hr => by
  obtain ⟨g, v⟩ := r
  obtain ⟨z, hr⟩ := hr
  have hr : v = some (1, z) := hr
  subst hr
  exact k g z) H
theorem hxy {w y : Int} (h0 : 0 ≤ w) (h8 : w ≤ 8) : y < 0 ∨ 5 < y ∨ (0 ≤ w * y ∧ w * y ≤ 40) := by
  by_cases a : y < 0
  · exact Or.inl a
  · by_cases b : 5 < y
    · exact Or.inr (Or.inl b)
    · have : y = 0 ∨ y = 1 ∨ y = 2 ∨ y = 3 ∨ y = 4 ∨ y = 5 := by omega
      refine Or.inr (Or.inr ?_)
      rcases this with rfl | rfl | rfl | rfl | rfl | rfl <;> omega
theorem vKU_k {D : zD} {T : zT} {N mi pc : Nat} {h h0 : zH} {l : List (Option zV)} {S : List zV} {Q : zR → Prop} (H : vP D T N mi pc h l S (fun r => rtK 2 r.2 ∧ ∀ j, r.1 126 j = h0 126 j)) (k : ∀ g z, (∀ j, g 126 j = h0 126 j) → Q (g, some (1, z))) : vP D T N mi pc h l S Q := vP_Q (fun r hr => by
  obtain ⟨g, v⟩ := r
  obtain ⟨⟨z, hr⟩, u⟩ := hr
  have hr : v = some (1, z) := hr
  subst hr
  exact k g z u) H
end
section
theorem qc_odds_24 {D : zD} {T : zT} (hT : hTab T) (hO : vOK T) {N : Nat} {h : zH} {Q : zR → Prop} {P : PT} (x y x1 y1 n : Int) (hv0 : zHv h) (e7 : h 0 7 = (2, 24)) (g0 : h 24 0 = (0, P 0 0)) (g1 : h 24 1 = (0, P 0 1)) (g2 : h 24 2 = (0, P 0 2)) (g3 : h 24 3 = (0, P 0 3)) (lb : (0 ≤ P 0 0 ∧ P 0 0 ≤ 8) ∧ (0 ≤ P 0 1 ∧ P 0 1 ≤ 6) ∧ (0 ≤ P 0 2 ∧ P 0 2 ≤ 3) ∧ (0 ≤ P 0 3 ∧ P 0 3 ≤ 6)) (hL : ∀ (N : Nat) (g : zH) (l : List (Option zV)), vP D T N 70 0 g l [] (fun r => rtK 2 r.2)) (hW : ∀ (N : Nat) (g : zH) (l : List (Option zV)), vP D T N 73 0 g l [] (fun r => rtK 2 r.2)) (hF : ∀ (N : Nat) (g : zH) (l : List (Option zV)), vP D T N 185 0 g l [] (fun r => rtK 0 r.2))
    (k0 : (x < 0) → Q (zset h 0 0 (0, 2), some (0, 0)))
    (k1 : (0 ≤ x) → (x < (P 0 0)) → (y < 0) → Q (zset h 0 0 (0, 2), some (0, 0)))
    (k2 : (0 ≤ x) → (x < (P 0 0)) → (0 ≤ y) → (y < (P 0 1)) → (x1 < 0) → Q (zset h 0 0 (0, 2), some (0, 0)))
    (k3 : (0 ≤ x) → (x < (P 0 0)) → (0 ≤ y) → (y < (P 0 1)) → (0 ≤ x1) → (x1 < (P 0 0)) → (y1 < 0) → Q (zset h 0 0 (0, 2), some (0, 0)))
    (k4 : (0 ≤ x) → (x < (P 0 0)) → (0 ≤ y) → (y < (P 0 1)) → (0 ≤ x1) → (x1 < (P 0 0)) → (0 ≤ y1) → (y1 < (P 0 1)) → (n < 0) → Q (zset h 0 0 (0, 5), some (0, 0)))
    (k5 : (0 ≤ x) → (x < (P 0 0)) → (0 ≤ y) → (y < (P 0 1)) → (0 ≤ x1) → (x1 < (P 0 0)) → (0 ≤ y1) → (y1 < (P 0 1)) → (0 ≤ n) → (12 < n) → Q (zset h 0 0 (0, 5), some (0, 0)))
    (k6 : (0 ≤ x) → (x < (P 0 0)) → (0 ≤ y) → (y < (P 0 1)) → (0 ≤ x1) → (x1 < (P 0 0)) → (0 ≤ y1) → (y1 < (P 0 1)) → (0 ≤ n) → (n ≤ 12) → ∀ (g23 : zH) (z23 : Int), ∀ (g24 : zH) (z24 : Int), ∀ (g25 : zH), Q (zset g25 0 0 (0, 0), some (0, 1)))
    (k7 : (0 ≤ x) → (x < (P 0 0)) → (0 ≤ y) → (y < (P 0 1)) → (0 ≤ x1) → (x1 < (P 0 0)) → (0 ≤ y1) → ((P 0 1) ≤ y1) → Q (zset h 0 0 (0, 2), some (0, 0)))
    (k8 : (0 ≤ x) → (x < (P 0 0)) → (0 ≤ y) → (y < (P 0 1)) → (0 ≤ x1) → ((P 0 0) ≤ x1) → Q (zset h 0 0 (0, 2), some (0, 0)))
    (k9 : (0 ≤ x) → (x < (P 0 0)) → (0 ≤ y) → ((P 0 1) ≤ y) → Q (zset h 0 0 (0, 2), some (0, 0)))
    (k10 : (0 ≤ x) → ((P 0 0) ≤ x) → Q (zset h 0 0 (0, 2), some (0, 0))) :
    vP D T N 169 0 h [some (2, 0), some (0, x), some (0, y), some (0, x1), some (0, y1), some (0, n), none, none] [] Q := by
  refine v_load (v := (2, 0)) (hz_X11_odds hT _ _ rfl) rfl rfl ?_
  refine v_getf (v := (2, 24)) (r := 0) (hz_X11_odds hT _ _ rfl) rfl rfl (fun _ => e7) ?_
  refine v_load (v := (0, x)) (hz_X11_odds hT _ _ rfl) rfl rfl ?_
  refine v_load (v := (0, y)) (hz_X11_odds hT _ _ rfl) rfl rfl ?_
  refine v_call (w := 3) [some (2, 24), some (0, x), some (0, y)] hO (hz_X11_odds hT _ _ rfl) rfl rfl ?_
  refine v_load (v := (0, x)) (hz_X2_hasCell hT _ _ rfl) rfl rfl ?_
  refine v_if (hz_X2_hasCell hT _ _ rfl) (fun hc1 => ?_) (fun hc1 => ?_)
  · have hc1 : x < 0 := hc1
    refine v_push (0) (hz_X2_hasCell hT _ _ rfl) rfl ?_
    refine v_ret (hz_X2_hasCell hT _ _ rfl) (Or.inl rfl) ?_
    show vP D T N 169 9 h [some (2, 0), some (0, x), some (0, y), some (0, x1), some (0, y1), some (0, n), none, none] [(0, 0)] _
    refine v_if (hz_X11_odds hT _ _ rfl) (fun _ => ?_) (fun hc2 => absurd (show (0 : Int) = 0 from (by omega)) hc2)
    refine v_load (v := (2, 0)) (hz_X11_odds hT _ _ rfl) rfl rfl ?_
    refine v_push (2) (hz_X11_odds hT _ _ rfl) rfl ?_
    refine v_call (w := 2) [some (2, 0), some (0, 2)] hO (hz_X11_odds hT _ _ rfl) rfl rfl ?_
    refine v_load (v := (2, 0)) (hz_X11_refuse hT _ _ rfl) rfl rfl ?_
    refine v_load (v := (0, 2)) (hz_X11_refuse hT _ _ rfl) rfl rfl ?_
    refine v_putf (r := 0) hO (hz_X11_refuse hT _ _ rfl) rfl (fun hf3 => ?_)
    refine v_push (0) (hz_X11_refuse hT _ _ rfl) rfl ?_
    refine v_ret (hz_X11_refuse hT _ _ rfl) (Or.inl rfl) ?_
    show vP D T N 169 30 (zset h 0 0 (0, 2)) [some (2, 0), some (0, x), some (0, y), some (0, x1), some (0, y1), some (0, n), none, none] [(0, 0)] _
    refine v_ret (hz_X11_odds hT _ _ rfl) (Or.inl rfl) ?_
    exact k0 hc1
  · have hc1 : 0 ≤ x := Int.not_lt.mp hc1
    refine v_load (v := (0, x)) (hz_X2_hasCell hT _ _ rfl) rfl rfl ?_
    refine v_load (v := (2, 24)) (hz_X2_hasCell hT _ _ rfl) rfl rfl ?_
    refine v_getf (v := (0, (P 0 0))) (r := 24) (hz_X2_hasCell hT _ _ rfl) rfl rfl (fun _ => g0) ?_
    refine v_ic (hz_X2_hasCell hT _ _ rfl) (fun hc4 => ?_) (fun hc4 => ?_)
    · have hc4 : x < (P 0 0) := hc4
      refine v_load (v := (0, y)) (hz_X2_hasCell hT _ _ rfl) rfl rfl ?_
      refine v_if (hz_X2_hasCell hT _ _ rfl) (fun hc5 => ?_) (fun hc5 => ?_)
      · have hc5 : y < 0 := hc5
        refine v_push (0) (hz_X2_hasCell hT _ _ rfl) rfl ?_
        refine v_ret (hz_X2_hasCell hT _ _ rfl) (Or.inl rfl) ?_
        show vP D T N 169 9 h [some (2, 0), some (0, x), some (0, y), some (0, x1), some (0, y1), some (0, n), none, none] [(0, 0)] _
        refine v_if (hz_X11_odds hT _ _ rfl) (fun _ => ?_) (fun hc6 => absurd (show (0 : Int) = 0 from (by omega)) hc6)
        refine v_load (v := (2, 0)) (hz_X11_odds hT _ _ rfl) rfl rfl ?_
        refine v_push (2) (hz_X11_odds hT _ _ rfl) rfl ?_
        refine v_call (w := 2) [some (2, 0), some (0, 2)] hO (hz_X11_odds hT _ _ rfl) rfl rfl ?_
        refine v_load (v := (2, 0)) (hz_X11_refuse hT _ _ rfl) rfl rfl ?_
        refine v_load (v := (0, 2)) (hz_X11_refuse hT _ _ rfl) rfl rfl ?_
        refine v_putf (r := 0) hO (hz_X11_refuse hT _ _ rfl) rfl (fun hf7 => ?_)
        refine v_push (0) (hz_X11_refuse hT _ _ rfl) rfl ?_
        refine v_ret (hz_X11_refuse hT _ _ rfl) (Or.inl rfl) ?_
        show vP D T N 169 30 (zset h 0 0 (0, 2)) [some (2, 0), some (0, x), some (0, y), some (0, x1), some (0, y1), some (0, n), none, none] [(0, 0)] _
        refine v_ret (hz_X11_odds hT _ _ rfl) (Or.inl rfl) ?_
        exact k1 hc1 hc4 hc5
      · have hc5 : 0 ≤ y := Int.not_lt.mp hc5
        refine v_load (v := (0, y)) (hz_X2_hasCell hT _ _ rfl) rfl rfl ?_
        refine v_load (v := (2, 24)) (hz_X2_hasCell hT _ _ rfl) rfl rfl ?_
        refine v_getf (v := (0, (P 0 1))) (r := 24) (hz_X2_hasCell hT _ _ rfl) rfl rfl (fun _ => g1) ?_
        refine v_ic (hz_X2_hasCell hT _ _ rfl) (fun hc8 => ?_) (fun hc8 => ?_)
        · have hc8 : y < (P 0 1) := hc8
          refine v_push (1) (hz_X2_hasCell hT _ _ rfl) rfl ?_
          refine v_goto (hz_X2_hasCell hT _ _ rfl) ?_
          refine v_ret (hz_X2_hasCell hT _ _ rfl) (Or.inl rfl) ?_
          show vP D T N 169 9 h [some (2, 0), some (0, x), some (0, y), some (0, x1), some (0, y1), some (0, n), none, none] [(0, 1)] _
          refine v_if (hz_X11_odds hT _ _ rfl) (fun hc9 => absurd (show (1 : Int) = 0 from hc9) (by omega)) (fun _ => ?_)
          refine v_load (v := (2, 0)) (hz_X11_odds hT _ _ rfl) rfl rfl ?_
          refine v_getf (v := (2, 24)) (r := 0) (hz_X11_odds hT _ _ rfl) rfl rfl (fun _ => e7) ?_
          refine v_load (v := (0, x1)) (hz_X11_odds hT _ _ rfl) rfl rfl ?_
          refine v_load (v := (0, y1)) (hz_X11_odds hT _ _ rfl) rfl rfl ?_
          refine v_call (w := 3) [some (2, 24), some (0, x1), some (0, y1)] hO (hz_X11_odds hT _ _ rfl) rfl rfl ?_
          refine v_load (v := (0, x1)) (hz_X2_hasCell hT _ _ rfl) rfl rfl ?_
          refine v_if (hz_X2_hasCell hT _ _ rfl) (fun hc10 => ?_) (fun hc10 => ?_)
          · have hc10 : x1 < 0 := hc10
            refine v_push (0) (hz_X2_hasCell hT _ _ rfl) rfl ?_
            refine v_ret (hz_X2_hasCell hT _ _ rfl) (Or.inl rfl) ?_
            show vP D T N 169 22 h [some (2, 0), some (0, x), some (0, y), some (0, x1), some (0, y1), some (0, n), none, none] [(0, 0)] _
            refine v_if (hz_X11_odds hT _ _ rfl) (fun _ => ?_) (fun hc11 => absurd (show (0 : Int) = 0 from (by omega)) hc11)
            refine v_load (v := (2, 0)) (hz_X11_odds hT _ _ rfl) rfl rfl ?_
            refine v_push (2) (hz_X11_odds hT _ _ rfl) rfl ?_
            refine v_call (w := 2) [some (2, 0), some (0, 2)] hO (hz_X11_odds hT _ _ rfl) rfl rfl ?_
            refine v_load (v := (2, 0)) (hz_X11_refuse hT _ _ rfl) rfl rfl ?_
            refine v_load (v := (0, 2)) (hz_X11_refuse hT _ _ rfl) rfl rfl ?_
            refine v_putf (r := 0) hO (hz_X11_refuse hT _ _ rfl) rfl (fun hf12 => ?_)
            refine v_push (0) (hz_X11_refuse hT _ _ rfl) rfl ?_
            refine v_ret (hz_X11_refuse hT _ _ rfl) (Or.inl rfl) ?_
            show vP D T N 169 30 (zset h 0 0 (0, 2)) [some (2, 0), some (0, x), some (0, y), some (0, x1), some (0, y1), some (0, n), none, none] [(0, 0)] _
            refine v_ret (hz_X11_odds hT _ _ rfl) (Or.inl rfl) ?_
            exact k2 hc1 hc4 hc5 hc8 hc10
          · have hc10 : 0 ≤ x1 := Int.not_lt.mp hc10
            refine v_load (v := (0, x1)) (hz_X2_hasCell hT _ _ rfl) rfl rfl ?_
            refine v_load (v := (2, 24)) (hz_X2_hasCell hT _ _ rfl) rfl rfl ?_
            refine v_getf (v := (0, (P 0 0))) (r := 24) (hz_X2_hasCell hT _ _ rfl) rfl rfl (fun _ => g0) ?_
            refine v_ic (hz_X2_hasCell hT _ _ rfl) (fun hc13 => ?_) (fun hc13 => ?_)
            · have hc13 : x1 < (P 0 0) := hc13
              refine v_load (v := (0, y1)) (hz_X2_hasCell hT _ _ rfl) rfl rfl ?_
              refine v_if (hz_X2_hasCell hT _ _ rfl) (fun hc14 => ?_) (fun hc14 => ?_)
              · have hc14 : y1 < 0 := hc14
                refine v_push (0) (hz_X2_hasCell hT _ _ rfl) rfl ?_
                refine v_ret (hz_X2_hasCell hT _ _ rfl) (Or.inl rfl) ?_
                show vP D T N 169 22 h [some (2, 0), some (0, x), some (0, y), some (0, x1), some (0, y1), some (0, n), none, none] [(0, 0)] _
                refine v_if (hz_X11_odds hT _ _ rfl) (fun _ => ?_) (fun hc15 => absurd (show (0 : Int) = 0 from (by omega)) hc15)
                refine v_load (v := (2, 0)) (hz_X11_odds hT _ _ rfl) rfl rfl ?_
                refine v_push (2) (hz_X11_odds hT _ _ rfl) rfl ?_
                refine v_call (w := 2) [some (2, 0), some (0, 2)] hO (hz_X11_odds hT _ _ rfl) rfl rfl ?_
                refine v_load (v := (2, 0)) (hz_X11_refuse hT _ _ rfl) rfl rfl ?_
                refine v_load (v := (0, 2)) (hz_X11_refuse hT _ _ rfl) rfl rfl ?_
                refine v_putf (r := 0) hO (hz_X11_refuse hT _ _ rfl) rfl (fun hf16 => ?_)
                refine v_push (0) (hz_X11_refuse hT _ _ rfl) rfl ?_
                refine v_ret (hz_X11_refuse hT _ _ rfl) (Or.inl rfl) ?_
                show vP D T N 169 30 (zset h 0 0 (0, 2)) [some (2, 0), some (0, x), some (0, y), some (0, x1), some (0, y1), some (0, n), none, none] [(0, 0)] _
                refine v_ret (hz_X11_odds hT _ _ rfl) (Or.inl rfl) ?_
                exact k3 hc1 hc4 hc5 hc8 hc10 hc13 hc14
              · have hc14 : 0 ≤ y1 := Int.not_lt.mp hc14
                refine v_load (v := (0, y1)) (hz_X2_hasCell hT _ _ rfl) rfl rfl ?_
                refine v_load (v := (2, 24)) (hz_X2_hasCell hT _ _ rfl) rfl rfl ?_
                refine v_getf (v := (0, (P 0 1))) (r := 24) (hz_X2_hasCell hT _ _ rfl) rfl rfl (fun _ => g1) ?_
                refine v_ic (hz_X2_hasCell hT _ _ rfl) (fun hc17 => ?_) (fun hc17 => ?_)
                · have hc17 : y1 < (P 0 1) := hc17
                  refine v_push (1) (hz_X2_hasCell hT _ _ rfl) rfl ?_
                  refine v_goto (hz_X2_hasCell hT _ _ rfl) ?_
                  refine v_ret (hz_X2_hasCell hT _ _ rfl) (Or.inl rfl) ?_
                  show vP D T N 169 22 h [some (2, 0), some (0, x), some (0, y), some (0, x1), some (0, y1), some (0, n), none, none] [(0, 1)] _
                  refine v_if (hz_X11_odds hT _ _ rfl) (fun hc18 => absurd (show (1 : Int) = 0 from hc18) (by omega)) (fun _ => ?_)
                  refine v_load (v := (0, n)) (hz_X11_odds hT _ _ rfl) rfl rfl ?_
                  refine v_if (hz_X11_odds hT _ _ rfl) (fun hc19 => ?_) (fun hc19 => ?_)
                  · have hc19 : n < 0 := hc19
                    refine v_load (v := (2, 0)) (hz_X11_odds hT _ _ rfl) rfl rfl ?_
                    refine v_push (5) (hz_X11_odds hT _ _ rfl) rfl ?_
                    refine v_call (w := 2) [some (2, 0), some (0, 5)] hO (hz_X11_odds hT _ _ rfl) rfl rfl ?_
                    refine v_load (v := (2, 0)) (hz_X11_refuse hT _ _ rfl) rfl rfl ?_
                    refine v_load (v := (0, 5)) (hz_X11_refuse hT _ _ rfl) rfl rfl ?_
                    refine v_putf (r := 0) hO (hz_X11_refuse hT _ _ rfl) rfl (fun hf20 => ?_)
                    refine v_push (0) (hz_X11_refuse hT _ _ rfl) rfl ?_
                    refine v_ret (hz_X11_refuse hT _ _ rfl) (Or.inl rfl) ?_
                    show vP D T N 169 48 (zset h 0 0 (0, 5)) [some (2, 0), some (0, x), some (0, y), some (0, x1), some (0, y1), some (0, n), none, none] [(0, 0)] _
                    refine v_ret (hz_X11_odds hT _ _ rfl) (Or.inl rfl) ?_
                    exact k4 hc1 hc4 hc5 hc8 hc10 hc13 hc14 hc17 hc19
                  · have hc19 : 0 ≤ n := Int.not_lt.mp hc19
                    refine v_load (v := (0, n)) (hz_X11_odds hT _ _ rfl) rfl rfl ?_
                    refine v_push (12) (hz_X11_odds hT _ _ rfl) rfl ?_
                    refine v_ic (hz_X11_odds hT _ _ rfl) (fun hc21 => ?_) (fun hc21 => ?_)
                    · have hc21 : 12 < n := hc21
                      refine v_load (v := (2, 0)) (hz_X11_odds hT _ _ rfl) rfl rfl ?_
                      refine v_push (5) (hz_X11_odds hT _ _ rfl) rfl ?_
                      refine v_call (w := 2) [some (2, 0), some (0, 5)] hO (hz_X11_odds hT _ _ rfl) rfl rfl ?_
                      refine v_load (v := (2, 0)) (hz_X11_refuse hT _ _ rfl) rfl rfl ?_
                      refine v_load (v := (0, 5)) (hz_X11_refuse hT _ _ rfl) rfl rfl ?_
                      refine v_putf (r := 0) hO (hz_X11_refuse hT _ _ rfl) rfl (fun hf22 => ?_)
                      refine v_push (0) (hz_X11_refuse hT _ _ rfl) rfl ?_
                      refine v_ret (hz_X11_refuse hT _ _ rfl) (Or.inl rfl) ?_
                      show vP D T N 169 48 (zset h 0 0 (0, 5)) [some (2, 0), some (0, x), some (0, y), some (0, x1), some (0, y1), some (0, n), none, none] [(0, 0)] _
                      refine v_ret (hz_X11_odds hT _ _ rfl) (Or.inl rfl) ?_
                      exact k5 hc1 hc4 hc5 hc8 hc10 hc13 hc14 hc17 hc19 hc21
                    · have hc21 : n ≤ 12 := Int.not_lt.mp hc21
                      refine v_load (v := (2, 0)) (hz_X11_odds hT _ _ rfl) rfl rfl ?_
                      refine v_getR (c := 114) (r := 0) (hz_X11_odds hT _ _ rfl) rfl rfl rfl ?_
                      refine v_load (v := (2, 0)) (hz_X11_odds hT _ _ rfl) rfl rfl ?_
                      refine v_getf (v := (2, 24)) (r := 0) (hz_X11_odds hT _ _ rfl) rfl rfl (fun _ => e7) ?_
                      refine v_load (v := (0, x)) (hz_X11_odds hT _ _ rfl) rfl rfl ?_
                      refine v_load (v := (0, y)) (hz_X11_odds hT _ _ rfl) rfl rfl ?_
                      refine v_call (w := 2) [some (0, x), some (0, y)] hO (hz_X11_odds hT _ _ rfl) rfl rfl ?_
                      refine v_load (v := (0, y)) (hz_X2_cellAt hT _ _ rfl) rfl rfl ?_
                      refine v_push (8) (hz_X2_cellAt hT _ _ rfl) rfl ?_
                      refine v_bin (w := (y * 8)) (hz_X2_cellAt hT _ _ rfl) (hq_mul (by omega) (by omega)) ?_
                      refine v_load (v := (0, x)) (hz_X2_cellAt hT _ _ rfl) rfl rfl ?_
                      refine v_bin (w := ((y * 8) + x)) (hz_X2_cellAt hT _ _ rfl) (hq_add (by omega) (by omega)) ?_
                      refine v_ret (hz_X2_cellAt hT _ _ rfl) (Or.inl rfl) ?_
                      show vP D T N 169 62 h [some (2, 0), some (0, x), some (0, y), some (0, x1), some (0, y1), some (0, n), none, none] [(0, ((y * 8) + x)), (2, 24), (2, 114)] _
                      refine v_load (v := (0, x1)) (hz_X11_odds hT _ _ rfl) rfl rfl ?_
                      refine v_load (v := (0, y1)) (hz_X11_odds hT _ _ rfl) rfl rfl ?_
                      refine v_call (w := 2) [some (0, x1), some (0, y1)] hO (hz_X11_odds hT _ _ rfl) rfl rfl ?_
                      refine v_load (v := (0, y1)) (hz_X2_cellAt hT _ _ rfl) rfl rfl ?_
                      refine v_push (8) (hz_X2_cellAt hT _ _ rfl) rfl ?_
                      refine v_bin (w := (y1 * 8)) (hz_X2_cellAt hT _ _ rfl) (hq_mul (by omega) (by omega)) ?_
                      refine v_load (v := (0, x1)) (hz_X2_cellAt hT _ _ rfl) rfl rfl ?_
                      refine v_bin (w := ((y1 * 8) + x1)) (hz_X2_cellAt hT _ _ rfl) (hq_add (by omega) (by omega)) ?_
                      refine v_ret (hz_X2_cellAt hT _ _ rfl) (Or.inl rfl) ?_
                      show vP D T N 169 68 h [some (2, 0), some (0, x), some (0, y), some (0, x1), some (0, y1), some (0, n), none, none] [(0, ((y1 * 8) + x1)), (0, ((y * 8) + x)), (2, 24), (2, 114)] _
                      refine v_load (v := (0, n)) (hz_X11_odds hT _ _ rfl) rfl rfl ?_
                      refine v_call (w := 8) [some (2, 114), some (2, 24), some (0, ((y * 8) + x)), some (0, ((y1 * 8) + x1)), some (0, n), none, none, none] hO (hz_X11_odds hT _ _ rfl) rfl rfl (vK2_k (hW _ _ _) (fun g23 z23 => ?_))
                      · show vP D T N 169 73 g23 [some (2, 0), some (0, x), some (0, y), some (0, x1), some (0, y1), some (0, n), none, none] [(1, z23)] _
                        refine vP_hv (fun hv23 => ?_)
                        refine v_store2 [some (2, 0), some (0, x), some (0, y), some (0, x1), some (0, y1), some (0, n), some (1, z23), none] (hz_X11_odds hT _ _ rfl) (Nat.le_of_ble_eq_true rfl) rfl ?_
                        refine v_load (v := (2, 0)) (hz_X11_odds hT _ _ rfl) rfl rfl ?_
                        refine v_load (v := (1, z23)) (hz_X11_odds hT _ _ rfl) rfl rfl ?_
                        refine v_load (v := (0, n)) (hz_X11_odds hT _ _ rfl) rfl rfl ?_
                        refine v_call (w := 1) [some (0, n)] hO (hz_X11_odds hT _ _ rfl) rfl rfl (vK2_k (hL _ _ _) (fun g24 z24 => ?_))
                        · show vP D T N 169 83 g24 [some (2, 0), some (0, x), some (0, y), some (0, x1), some (0, y1), some (0, n), some (1, z23), none] [(1, z24), (1, z23), (2, 0)] _
                          refine vP_hv (fun hv24 => ?_)
                          refine v_call (w := 7) [some (2, 0), some (1, z23), none, some (1, z24), none, none, none] hO (hz_X11_odds hT _ _ rfl) rfl rfl (vK0_k (hF _ _ _) (fun g25 => ?_))
                          · show vP D T N 169 86 g25 [some (2, 0), some (0, x), some (0, y), some (0, x1), some (0, y1), some (0, n), some (1, z23), none] [] _
                            refine vP_hv (fun hv25 => ?_)
                            refine v_load (v := (2, 0)) (hz_X11_odds hT _ _ rfl) rfl rfl ?_
                            refine v_call (w := 1) [some (2, 0)] hO (hz_X11_odds hT _ _ rfl) rfl rfl ?_
                            refine v_load (v := (2, 0)) (hz_X11_accept hT _ _ rfl) rfl rfl ?_
                            refine v_push (0) (hz_X11_accept hT _ _ rfl) rfl ?_
                            refine v_putf (r := 0) hO (hz_X11_accept hT _ _ rfl) rfl (fun hf26 => ?_)
                            refine v_push (1) (hz_X11_accept hT _ _ rfl) rfl ?_
                            refine v_ret (hz_X11_accept hT _ _ rfl) (Or.inl rfl) ?_
                            show vP D T N 169 90 (zset g25 0 0 (0, 0)) [some (2, 0), some (0, x), some (0, y), some (0, x1), some (0, y1), some (0, n), some (1, z23), none] [(0, 1)] _
                            refine v_ret (hz_X11_odds hT _ _ rfl) (Or.inl rfl) ?_
                            exact k6 hc1 hc4 hc5 hc8 hc10 hc13 hc14 hc17 hc19 hc21 g23 z23 g24 z24 g25
                · have hc17 : (P 0 1) ≤ y1 := Int.not_lt.mp hc17
                  refine v_push (0) (hz_X2_hasCell hT _ _ rfl) rfl ?_
                  refine v_ret (hz_X2_hasCell hT _ _ rfl) (Or.inl rfl) ?_
                  show vP D T N 169 22 h [some (2, 0), some (0, x), some (0, y), some (0, x1), some (0, y1), some (0, n), none, none] [(0, 0)] _
                  refine v_if (hz_X11_odds hT _ _ rfl) (fun _ => ?_) (fun hc27 => absurd (show (0 : Int) = 0 from (by omega)) hc27)
                  refine v_load (v := (2, 0)) (hz_X11_odds hT _ _ rfl) rfl rfl ?_
                  refine v_push (2) (hz_X11_odds hT _ _ rfl) rfl ?_
                  refine v_call (w := 2) [some (2, 0), some (0, 2)] hO (hz_X11_odds hT _ _ rfl) rfl rfl ?_
                  refine v_load (v := (2, 0)) (hz_X11_refuse hT _ _ rfl) rfl rfl ?_
                  refine v_load (v := (0, 2)) (hz_X11_refuse hT _ _ rfl) rfl rfl ?_
                  refine v_putf (r := 0) hO (hz_X11_refuse hT _ _ rfl) rfl (fun hf28 => ?_)
                  refine v_push (0) (hz_X11_refuse hT _ _ rfl) rfl ?_
                  refine v_ret (hz_X11_refuse hT _ _ rfl) (Or.inl rfl) ?_
                  show vP D T N 169 30 (zset h 0 0 (0, 2)) [some (2, 0), some (0, x), some (0, y), some (0, x1), some (0, y1), some (0, n), none, none] [(0, 0)] _
                  refine v_ret (hz_X11_odds hT _ _ rfl) (Or.inl rfl) ?_
                  exact k7 hc1 hc4 hc5 hc8 hc10 hc13 hc14 hc17
            · have hc13 : (P 0 0) ≤ x1 := Int.not_lt.mp hc13
              refine v_push (0) (hz_X2_hasCell hT _ _ rfl) rfl ?_
              refine v_ret (hz_X2_hasCell hT _ _ rfl) (Or.inl rfl) ?_
              show vP D T N 169 22 h [some (2, 0), some (0, x), some (0, y), some (0, x1), some (0, y1), some (0, n), none, none] [(0, 0)] _
              refine v_if (hz_X11_odds hT _ _ rfl) (fun _ => ?_) (fun hc29 => absurd (show (0 : Int) = 0 from (by omega)) hc29)
              refine v_load (v := (2, 0)) (hz_X11_odds hT _ _ rfl) rfl rfl ?_
              refine v_push (2) (hz_X11_odds hT _ _ rfl) rfl ?_
              refine v_call (w := 2) [some (2, 0), some (0, 2)] hO (hz_X11_odds hT _ _ rfl) rfl rfl ?_
              refine v_load (v := (2, 0)) (hz_X11_refuse hT _ _ rfl) rfl rfl ?_
              refine v_load (v := (0, 2)) (hz_X11_refuse hT _ _ rfl) rfl rfl ?_
              refine v_putf (r := 0) hO (hz_X11_refuse hT _ _ rfl) rfl (fun hf30 => ?_)
              refine v_push (0) (hz_X11_refuse hT _ _ rfl) rfl ?_
              refine v_ret (hz_X11_refuse hT _ _ rfl) (Or.inl rfl) ?_
              show vP D T N 169 30 (zset h 0 0 (0, 2)) [some (2, 0), some (0, x), some (0, y), some (0, x1), some (0, y1), some (0, n), none, none] [(0, 0)] _
              refine v_ret (hz_X11_odds hT _ _ rfl) (Or.inl rfl) ?_
              exact k8 hc1 hc4 hc5 hc8 hc10 hc13
        · have hc8 : (P 0 1) ≤ y := Int.not_lt.mp hc8
          refine v_push (0) (hz_X2_hasCell hT _ _ rfl) rfl ?_
          refine v_ret (hz_X2_hasCell hT _ _ rfl) (Or.inl rfl) ?_
          show vP D T N 169 9 h [some (2, 0), some (0, x), some (0, y), some (0, x1), some (0, y1), some (0, n), none, none] [(0, 0)] _
          refine v_if (hz_X11_odds hT _ _ rfl) (fun _ => ?_) (fun hc31 => absurd (show (0 : Int) = 0 from (by omega)) hc31)
          refine v_load (v := (2, 0)) (hz_X11_odds hT _ _ rfl) rfl rfl ?_
          refine v_push (2) (hz_X11_odds hT _ _ rfl) rfl ?_
          refine v_call (w := 2) [some (2, 0), some (0, 2)] hO (hz_X11_odds hT _ _ rfl) rfl rfl ?_
          refine v_load (v := (2, 0)) (hz_X11_refuse hT _ _ rfl) rfl rfl ?_
          refine v_load (v := (0, 2)) (hz_X11_refuse hT _ _ rfl) rfl rfl ?_
          refine v_putf (r := 0) hO (hz_X11_refuse hT _ _ rfl) rfl (fun hf32 => ?_)
          refine v_push (0) (hz_X11_refuse hT _ _ rfl) rfl ?_
          refine v_ret (hz_X11_refuse hT _ _ rfl) (Or.inl rfl) ?_
          show vP D T N 169 30 (zset h 0 0 (0, 2)) [some (2, 0), some (0, x), some (0, y), some (0, x1), some (0, y1), some (0, n), none, none] [(0, 0)] _
          refine v_ret (hz_X11_odds hT _ _ rfl) (Or.inl rfl) ?_
          exact k9 hc1 hc4 hc5 hc8
    · have hc4 : (P 0 0) ≤ x := Int.not_lt.mp hc4
      refine v_push (0) (hz_X2_hasCell hT _ _ rfl) rfl ?_
      refine v_ret (hz_X2_hasCell hT _ _ rfl) (Or.inl rfl) ?_
      show vP D T N 169 9 h [some (2, 0), some (0, x), some (0, y), some (0, x1), some (0, y1), some (0, n), none, none] [(0, 0)] _
      refine v_if (hz_X11_odds hT _ _ rfl) (fun _ => ?_) (fun hc33 => absurd (show (0 : Int) = 0 from (by omega)) hc33)
      refine v_load (v := (2, 0)) (hz_X11_odds hT _ _ rfl) rfl rfl ?_
      refine v_push (2) (hz_X11_odds hT _ _ rfl) rfl ?_
      refine v_call (w := 2) [some (2, 0), some (0, 2)] hO (hz_X11_odds hT _ _ rfl) rfl rfl ?_
      refine v_load (v := (2, 0)) (hz_X11_refuse hT _ _ rfl) rfl rfl ?_
      refine v_load (v := (0, 2)) (hz_X11_refuse hT _ _ rfl) rfl rfl ?_
      refine v_putf (r := 0) hO (hz_X11_refuse hT _ _ rfl) rfl (fun hf34 => ?_)
      refine v_push (0) (hz_X11_refuse hT _ _ rfl) rfl ?_
      refine v_ret (hz_X11_refuse hT _ _ rfl) (Or.inl rfl) ?_
      show vP D T N 169 30 (zset h 0 0 (0, 2)) [some (2, 0), some (0, x), some (0, y), some (0, x1), some (0, y1), some (0, n), none, none] [(0, 0)] _
      refine v_ret (hz_X11_odds hT _ _ rfl) (Or.inl rfl) ?_
      exact k10 hc1 hc4
theorem qc_mean_24 {D : zD} {T : zT} (hT : hTab T) (hO : vOK T) {N : Nat} {h : zH} {Q : zR → Prop} {P : PT} (x y n : Int) (hv0 : zHv h) (e7 : h 0 7 = (2, 24)) (g0 : h 24 0 = (0, P 0 0)) (g1 : h 24 1 = (0, P 0 1)) (g2 : h 24 2 = (0, P 0 2)) (g3 : h 24 3 = (0, P 0 3)) (lb : (0 ≤ P 0 0 ∧ P 0 0 ≤ 8) ∧ (0 ≤ P 0 1 ∧ P 0 1 ≤ 6) ∧ (0 ≤ P 0 2 ∧ P 0 2 ≤ 3) ∧ (0 ≤ P 0 3 ∧ P 0 3 ≤ 6)) (hL : ∀ (N : Nat) (g : zH) (l : List (Option zV)), vP D T N 70 0 g l [] (fun r => rtK 2 r.2)) (hM : ∀ (N : Nat) (g : zH) (l : List (Option zV)), vP D T N 71 0 g l [] (fun r => rtK 2 r.2)) (hF : ∀ (N : Nat) (g : zH) (l : List (Option zV)), vP D T N 185 0 g l [] (fun r => rtK 0 r.2))
    (k0 : (x < 0) → Q (zset h 0 0 (0, 2), some (0, 0)))
    (k1 : (0 ≤ x) → (x < (P 0 0)) → (y < 0) → Q (zset h 0 0 (0, 2), some (0, 0)))
    (k2 : (0 ≤ x) → (x < (P 0 0)) → (0 ≤ y) → (y < (P 0 1)) → (n < 0) → Q (zset h 0 0 (0, 5), some (0, 0)))
    (k3 : (0 ≤ x) → (x < (P 0 0)) → (0 ≤ y) → (y < (P 0 1)) → (0 ≤ n) → (8 < n) → Q (zset h 0 0 (0, 5), some (0, 0)))
    (k4 : (0 ≤ x) → (x < (P 0 0)) → (0 ≤ y) → (y < (P 0 1)) → (0 ≤ n) → (n ≤ 8) → ∀ (g14 : zH) (z14 : Int), ∀ (g15 : zH) (z15 : Int), ∀ (g16 : zH), Q (zset g16 0 0 (0, 0), some (0, 1)))
    (k5 : (0 ≤ x) → (x < (P 0 0)) → (0 ≤ y) → ((P 0 1) ≤ y) → Q (zset h 0 0 (0, 2), some (0, 0)))
    (k6 : (0 ≤ x) → ((P 0 0) ≤ x) → Q (zset h 0 0 (0, 2), some (0, 0))) :
    vP D T N 166 0 h [some (2, 0), some (0, x), some (0, y), some (0, n)] [] Q := by
  refine v_load (v := (2, 0)) (hz_X11_mean hT _ _ rfl) rfl rfl ?_
  refine v_getf (v := (2, 24)) (r := 0) (hz_X11_mean hT _ _ rfl) rfl rfl (fun _ => e7) ?_
  refine v_load (v := (0, x)) (hz_X11_mean hT _ _ rfl) rfl rfl ?_
  refine v_load (v := (0, y)) (hz_X11_mean hT _ _ rfl) rfl rfl ?_
  refine v_call (w := 3) [some (2, 24), some (0, x), some (0, y)] hO (hz_X11_mean hT _ _ rfl) rfl rfl ?_
  refine v_load (v := (0, x)) (hz_X2_hasCell hT _ _ rfl) rfl rfl ?_
  refine v_if (hz_X2_hasCell hT _ _ rfl) (fun hc1 => ?_) (fun hc1 => ?_)
  · have hc1 : x < 0 := hc1
    refine v_push (0) (hz_X2_hasCell hT _ _ rfl) rfl ?_
    refine v_ret (hz_X2_hasCell hT _ _ rfl) (Or.inl rfl) ?_
    show vP D T N 166 9 h [some (2, 0), some (0, x), some (0, y), some (0, n)] [(0, 0)] _
    refine v_if (hz_X11_mean hT _ _ rfl) (fun _ => ?_) (fun hc2 => absurd (show (0 : Int) = 0 from (by omega)) hc2)
    refine v_load (v := (2, 0)) (hz_X11_mean hT _ _ rfl) rfl rfl ?_
    refine v_push (2) (hz_X11_mean hT _ _ rfl) rfl ?_
    refine v_call (w := 2) [some (2, 0), some (0, 2)] hO (hz_X11_mean hT _ _ rfl) rfl rfl ?_
    refine v_load (v := (2, 0)) (hz_X11_refuse hT _ _ rfl) rfl rfl ?_
    refine v_load (v := (0, 2)) (hz_X11_refuse hT _ _ rfl) rfl rfl ?_
    refine v_putf (r := 0) hO (hz_X11_refuse hT _ _ rfl) rfl (fun hf3 => ?_)
    refine v_push (0) (hz_X11_refuse hT _ _ rfl) rfl ?_
    refine v_ret (hz_X11_refuse hT _ _ rfl) (Or.inl rfl) ?_
    show vP D T N 166 17 (zset h 0 0 (0, 2)) [some (2, 0), some (0, x), some (0, y), some (0, n)] [(0, 0)] _
    refine v_ret (hz_X11_mean hT _ _ rfl) (Or.inl rfl) ?_
    exact k0 hc1
  · have hc1 : 0 ≤ x := Int.not_lt.mp hc1
    refine v_load (v := (0, x)) (hz_X2_hasCell hT _ _ rfl) rfl rfl ?_
    refine v_load (v := (2, 24)) (hz_X2_hasCell hT _ _ rfl) rfl rfl ?_
    refine v_getf (v := (0, (P 0 0))) (r := 24) (hz_X2_hasCell hT _ _ rfl) rfl rfl (fun _ => g0) ?_
    refine v_ic (hz_X2_hasCell hT _ _ rfl) (fun hc4 => ?_) (fun hc4 => ?_)
    · have hc4 : x < (P 0 0) := hc4
      refine v_load (v := (0, y)) (hz_X2_hasCell hT _ _ rfl) rfl rfl ?_
      refine v_if (hz_X2_hasCell hT _ _ rfl) (fun hc5 => ?_) (fun hc5 => ?_)
      · have hc5 : y < 0 := hc5
        refine v_push (0) (hz_X2_hasCell hT _ _ rfl) rfl ?_
        refine v_ret (hz_X2_hasCell hT _ _ rfl) (Or.inl rfl) ?_
        show vP D T N 166 9 h [some (2, 0), some (0, x), some (0, y), some (0, n)] [(0, 0)] _
        refine v_if (hz_X11_mean hT _ _ rfl) (fun _ => ?_) (fun hc6 => absurd (show (0 : Int) = 0 from (by omega)) hc6)
        refine v_load (v := (2, 0)) (hz_X11_mean hT _ _ rfl) rfl rfl ?_
        refine v_push (2) (hz_X11_mean hT _ _ rfl) rfl ?_
        refine v_call (w := 2) [some (2, 0), some (0, 2)] hO (hz_X11_mean hT _ _ rfl) rfl rfl ?_
        refine v_load (v := (2, 0)) (hz_X11_refuse hT _ _ rfl) rfl rfl ?_
        refine v_load (v := (0, 2)) (hz_X11_refuse hT _ _ rfl) rfl rfl ?_
        refine v_putf (r := 0) hO (hz_X11_refuse hT _ _ rfl) rfl (fun hf7 => ?_)
        refine v_push (0) (hz_X11_refuse hT _ _ rfl) rfl ?_
        refine v_ret (hz_X11_refuse hT _ _ rfl) (Or.inl rfl) ?_
        show vP D T N 166 17 (zset h 0 0 (0, 2)) [some (2, 0), some (0, x), some (0, y), some (0, n)] [(0, 0)] _
        refine v_ret (hz_X11_mean hT _ _ rfl) (Or.inl rfl) ?_
        exact k1 hc1 hc4 hc5
      · have hc5 : 0 ≤ y := Int.not_lt.mp hc5
        refine v_load (v := (0, y)) (hz_X2_hasCell hT _ _ rfl) rfl rfl ?_
        refine v_load (v := (2, 24)) (hz_X2_hasCell hT _ _ rfl) rfl rfl ?_
        refine v_getf (v := (0, (P 0 1))) (r := 24) (hz_X2_hasCell hT _ _ rfl) rfl rfl (fun _ => g1) ?_
        refine v_ic (hz_X2_hasCell hT _ _ rfl) (fun hc8 => ?_) (fun hc8 => ?_)
        · have hc8 : y < (P 0 1) := hc8
          refine v_push (1) (hz_X2_hasCell hT _ _ rfl) rfl ?_
          refine v_goto (hz_X2_hasCell hT _ _ rfl) ?_
          refine v_ret (hz_X2_hasCell hT _ _ rfl) (Or.inl rfl) ?_
          show vP D T N 166 9 h [some (2, 0), some (0, x), some (0, y), some (0, n)] [(0, 1)] _
          refine v_if (hz_X11_mean hT _ _ rfl) (fun hc9 => absurd (show (1 : Int) = 0 from hc9) (by omega)) (fun _ => ?_)
          refine v_load (v := (0, n)) (hz_X11_mean hT _ _ rfl) rfl rfl ?_
          refine v_if (hz_X11_mean hT _ _ rfl) (fun hc10 => ?_) (fun hc10 => ?_)
          · have hc10 : n < 0 := hc10
            refine v_load (v := (2, 0)) (hz_X11_mean hT _ _ rfl) rfl rfl ?_
            refine v_push (5) (hz_X11_mean hT _ _ rfl) rfl ?_
            refine v_call (w := 2) [some (2, 0), some (0, 5)] hO (hz_X11_mean hT _ _ rfl) rfl rfl ?_
            refine v_load (v := (2, 0)) (hz_X11_refuse hT _ _ rfl) rfl rfl ?_
            refine v_load (v := (0, 5)) (hz_X11_refuse hT _ _ rfl) rfl rfl ?_
            refine v_putf (r := 0) hO (hz_X11_refuse hT _ _ rfl) rfl (fun hf11 => ?_)
            refine v_push (0) (hz_X11_refuse hT _ _ rfl) rfl ?_
            refine v_ret (hz_X11_refuse hT _ _ rfl) (Or.inl rfl) ?_
            show vP D T N 166 33 (zset h 0 0 (0, 5)) [some (2, 0), some (0, x), some (0, y), some (0, n)] [(0, 0)] _
            refine v_ret (hz_X11_mean hT _ _ rfl) (Or.inl rfl) ?_
            exact k2 hc1 hc4 hc5 hc8 hc10
          · have hc10 : 0 ≤ n := Int.not_lt.mp hc10
            refine v_load (v := (0, n)) (hz_X11_mean hT _ _ rfl) rfl rfl ?_
            refine v_push (8) (hz_X11_mean hT _ _ rfl) rfl ?_
            refine v_ic (hz_X11_mean hT _ _ rfl) (fun hc12 => ?_) (fun hc12 => ?_)
            · have hc12 : 8 < n := hc12
              refine v_load (v := (2, 0)) (hz_X11_mean hT _ _ rfl) rfl rfl ?_
              refine v_push (5) (hz_X11_mean hT _ _ rfl) rfl ?_
              refine v_call (w := 2) [some (2, 0), some (0, 5)] hO (hz_X11_mean hT _ _ rfl) rfl rfl ?_
              refine v_load (v := (2, 0)) (hz_X11_refuse hT _ _ rfl) rfl rfl ?_
              refine v_load (v := (0, 5)) (hz_X11_refuse hT _ _ rfl) rfl rfl ?_
              refine v_putf (r := 0) hO (hz_X11_refuse hT _ _ rfl) rfl (fun hf13 => ?_)
              refine v_push (0) (hz_X11_refuse hT _ _ rfl) rfl ?_
              refine v_ret (hz_X11_refuse hT _ _ rfl) (Or.inl rfl) ?_
              show vP D T N 166 33 (zset h 0 0 (0, 5)) [some (2, 0), some (0, x), some (0, y), some (0, n)] [(0, 0)] _
              refine v_ret (hz_X11_mean hT _ _ rfl) (Or.inl rfl) ?_
              exact k3 hc1 hc4 hc5 hc8 hc10 hc12
            · have hc12 : n ≤ 8 := Int.not_lt.mp hc12
              refine v_load (v := (2, 0)) (hz_X11_mean hT _ _ rfl) rfl rfl ?_
              refine v_load (v := (2, 0)) (hz_X11_mean hT _ _ rfl) rfl rfl ?_
              refine v_getR (c := 114) (r := 0) (hz_X11_mean hT _ _ rfl) rfl rfl rfl ?_
              refine v_load (v := (2, 0)) (hz_X11_mean hT _ _ rfl) rfl rfl ?_
              refine v_getf (v := (2, 24)) (r := 0) (hz_X11_mean hT _ _ rfl) rfl rfl (fun _ => e7) ?_
              refine v_load (v := (0, x)) (hz_X11_mean hT _ _ rfl) rfl rfl ?_
              refine v_load (v := (0, y)) (hz_X11_mean hT _ _ rfl) rfl rfl ?_
              refine v_call (w := 2) [some (0, x), some (0, y)] hO (hz_X11_mean hT _ _ rfl) rfl rfl ?_
              refine v_load (v := (0, y)) (hz_X2_cellAt hT _ _ rfl) rfl rfl ?_
              refine v_push (8) (hz_X2_cellAt hT _ _ rfl) rfl ?_
              refine v_bin (w := (y * 8)) (hz_X2_cellAt hT _ _ rfl) (hq_mul (by omega) (by omega)) ?_
              refine v_load (v := (0, x)) (hz_X2_cellAt hT _ _ rfl) rfl rfl ?_
              refine v_bin (w := ((y * 8) + x)) (hz_X2_cellAt hT _ _ rfl) (hq_add (by omega) (by omega)) ?_
              refine v_ret (hz_X2_cellAt hT _ _ rfl) (Or.inl rfl) ?_
              show vP D T N 166 48 h [some (2, 0), some (0, x), some (0, y), some (0, n)] [(0, ((y * 8) + x)), (2, 24), (2, 114), (2, 0)] _
              refine v_load (v := (0, n)) (hz_X11_mean hT _ _ rfl) rfl rfl ?_
              refine v_call (w := 7) [some (2, 114), some (2, 24), some (0, ((y * 8) + x)), some (0, n), none, none, none] hO (hz_X11_mean hT _ _ rfl) rfl rfl (vK2_k (hM _ _ _) (fun g14 z14 => ?_))
              · show vP D T N 166 52 g14 [some (2, 0), some (0, x), some (0, y), some (0, n)] [(1, z14), (2, 0)] _
                refine vP_hv (fun hv14 => ?_)
                refine v_load (v := (0, n)) (hz_X11_mean hT _ _ rfl) rfl rfl ?_
                refine v_call (w := 1) [some (0, n)] hO (hz_X11_mean hT _ _ rfl) rfl rfl (vK2_k (hL _ _ _) (fun g15 z15 => ?_))
                · show vP D T N 166 56 g15 [some (2, 0), some (0, x), some (0, y), some (0, n)] [(1, z15), (1, z14), (2, 0)] _
                  refine vP_hv (fun hv15 => ?_)
                  refine v_call (w := 7) [some (2, 0), some (1, z14), none, some (1, z15), none, none, none] hO (hz_X11_mean hT _ _ rfl) rfl rfl (vK0_k (hF _ _ _) (fun g16 => ?_))
                  · show vP D T N 166 59 g16 [some (2, 0), some (0, x), some (0, y), some (0, n)] [] _
                    refine vP_hv (fun hv16 => ?_)
                    refine v_load (v := (2, 0)) (hz_X11_mean hT _ _ rfl) rfl rfl ?_
                    refine v_call (w := 1) [some (2, 0)] hO (hz_X11_mean hT _ _ rfl) rfl rfl ?_
                    refine v_load (v := (2, 0)) (hz_X11_accept hT _ _ rfl) rfl rfl ?_
                    refine v_push (0) (hz_X11_accept hT _ _ rfl) rfl ?_
                    refine v_putf (r := 0) hO (hz_X11_accept hT _ _ rfl) rfl (fun hf17 => ?_)
                    refine v_push (1) (hz_X11_accept hT _ _ rfl) rfl ?_
                    refine v_ret (hz_X11_accept hT _ _ rfl) (Or.inl rfl) ?_
                    show vP D T N 166 63 (zset g16 0 0 (0, 0)) [some (2, 0), some (0, x), some (0, y), some (0, n)] [(0, 1)] _
                    refine v_ret (hz_X11_mean hT _ _ rfl) (Or.inl rfl) ?_
                    exact k4 hc1 hc4 hc5 hc8 hc10 hc12 g14 z14 g15 z15 g16
        · have hc8 : (P 0 1) ≤ y := Int.not_lt.mp hc8
          refine v_push (0) (hz_X2_hasCell hT _ _ rfl) rfl ?_
          refine v_ret (hz_X2_hasCell hT _ _ rfl) (Or.inl rfl) ?_
          show vP D T N 166 9 h [some (2, 0), some (0, x), some (0, y), some (0, n)] [(0, 0)] _
          refine v_if (hz_X11_mean hT _ _ rfl) (fun _ => ?_) (fun hc18 => absurd (show (0 : Int) = 0 from (by omega)) hc18)
          refine v_load (v := (2, 0)) (hz_X11_mean hT _ _ rfl) rfl rfl ?_
          refine v_push (2) (hz_X11_mean hT _ _ rfl) rfl ?_
          refine v_call (w := 2) [some (2, 0), some (0, 2)] hO (hz_X11_mean hT _ _ rfl) rfl rfl ?_
          refine v_load (v := (2, 0)) (hz_X11_refuse hT _ _ rfl) rfl rfl ?_
          refine v_load (v := (0, 2)) (hz_X11_refuse hT _ _ rfl) rfl rfl ?_
          refine v_putf (r := 0) hO (hz_X11_refuse hT _ _ rfl) rfl (fun hf19 => ?_)
          refine v_push (0) (hz_X11_refuse hT _ _ rfl) rfl ?_
          refine v_ret (hz_X11_refuse hT _ _ rfl) (Or.inl rfl) ?_
          show vP D T N 166 17 (zset h 0 0 (0, 2)) [some (2, 0), some (0, x), some (0, y), some (0, n)] [(0, 0)] _
          refine v_ret (hz_X11_mean hT _ _ rfl) (Or.inl rfl) ?_
          exact k5 hc1 hc4 hc5 hc8
    · have hc4 : (P 0 0) ≤ x := Int.not_lt.mp hc4
      refine v_push (0) (hz_X2_hasCell hT _ _ rfl) rfl ?_
      refine v_ret (hz_X2_hasCell hT _ _ rfl) (Or.inl rfl) ?_
      show vP D T N 166 9 h [some (2, 0), some (0, x), some (0, y), some (0, n)] [(0, 0)] _
      refine v_if (hz_X11_mean hT _ _ rfl) (fun _ => ?_) (fun hc20 => absurd (show (0 : Int) = 0 from (by omega)) hc20)
      refine v_load (v := (2, 0)) (hz_X11_mean hT _ _ rfl) rfl rfl ?_
      refine v_push (2) (hz_X11_mean hT _ _ rfl) rfl ?_
      refine v_call (w := 2) [some (2, 0), some (0, 2)] hO (hz_X11_mean hT _ _ rfl) rfl rfl ?_
      refine v_load (v := (2, 0)) (hz_X11_refuse hT _ _ rfl) rfl rfl ?_
      refine v_load (v := (0, 2)) (hz_X11_refuse hT _ _ rfl) rfl rfl ?_
      refine v_putf (r := 0) hO (hz_X11_refuse hT _ _ rfl) rfl (fun hf21 => ?_)
      refine v_push (0) (hz_X11_refuse hT _ _ rfl) rfl ?_
      refine v_ret (hz_X11_refuse hT _ _ rfl) (Or.inl rfl) ?_
      show vP D T N 166 17 (zset h 0 0 (0, 2)) [some (2, 0), some (0, x), some (0, y), some (0, n)] [(0, 0)] _
      refine v_ret (hz_X11_mean hT _ _ rfl) (Or.inl rfl) ?_
      exact k6 hc1 hc4
theorem qc_odds_39 {D : zD} {T : zT} (hT : hTab T) (hO : vOK T) {N : Nat} {h : zH} {Q : zR → Prop} {P : PT} (x y x1 y1 n : Int) (hv0 : zHv h) (e7 : h 0 7 = (2, 39)) (g0 : h 39 0 = (0, P 0 0)) (g1 : h 39 1 = (0, P 0 1)) (g2 : h 39 2 = (0, P 0 2)) (g3 : h 39 3 = (0, P 0 3)) (lb : (0 ≤ P 0 0 ∧ P 0 0 ≤ 8) ∧ (0 ≤ P 0 1 ∧ P 0 1 ≤ 6) ∧ (0 ≤ P 0 2 ∧ P 0 2 ≤ 3) ∧ (0 ≤ P 0 3 ∧ P 0 3 ≤ 6)) (hL : ∀ (N : Nat) (g : zH) (l : List (Option zV)), vP D T N 70 0 g l [] (fun r => rtK 2 r.2)) (hW : ∀ (N : Nat) (g : zH) (l : List (Option zV)), vP D T N 73 0 g l [] (fun r => rtK 2 r.2)) (hF : ∀ (N : Nat) (g : zH) (l : List (Option zV)), vP D T N 185 0 g l [] (fun r => rtK 0 r.2))
    (k0 : (x < 0) → Q (zset h 0 0 (0, 2), some (0, 0)))
    (k1 : (0 ≤ x) → (x < (P 0 0)) → (y < 0) → Q (zset h 0 0 (0, 2), some (0, 0)))
    (k2 : (0 ≤ x) → (x < (P 0 0)) → (0 ≤ y) → (y < (P 0 1)) → (x1 < 0) → Q (zset h 0 0 (0, 2), some (0, 0)))
    (k3 : (0 ≤ x) → (x < (P 0 0)) → (0 ≤ y) → (y < (P 0 1)) → (0 ≤ x1) → (x1 < (P 0 0)) → (y1 < 0) → Q (zset h 0 0 (0, 2), some (0, 0)))
    (k4 : (0 ≤ x) → (x < (P 0 0)) → (0 ≤ y) → (y < (P 0 1)) → (0 ≤ x1) → (x1 < (P 0 0)) → (0 ≤ y1) → (y1 < (P 0 1)) → (n < 0) → Q (zset h 0 0 (0, 5), some (0, 0)))
    (k5 : (0 ≤ x) → (x < (P 0 0)) → (0 ≤ y) → (y < (P 0 1)) → (0 ≤ x1) → (x1 < (P 0 0)) → (0 ≤ y1) → (y1 < (P 0 1)) → (0 ≤ n) → (12 < n) → Q (zset h 0 0 (0, 5), some (0, 0)))
    (k6 : (0 ≤ x) → (x < (P 0 0)) → (0 ≤ y) → (y < (P 0 1)) → (0 ≤ x1) → (x1 < (P 0 0)) → (0 ≤ y1) → (y1 < (P 0 1)) → (0 ≤ n) → (n ≤ 12) → ∀ (g23 : zH) (z23 : Int), ∀ (g24 : zH) (z24 : Int), ∀ (g25 : zH), Q (zset g25 0 0 (0, 0), some (0, 1)))
    (k7 : (0 ≤ x) → (x < (P 0 0)) → (0 ≤ y) → (y < (P 0 1)) → (0 ≤ x1) → (x1 < (P 0 0)) → (0 ≤ y1) → ((P 0 1) ≤ y1) → Q (zset h 0 0 (0, 2), some (0, 0)))
    (k8 : (0 ≤ x) → (x < (P 0 0)) → (0 ≤ y) → (y < (P 0 1)) → (0 ≤ x1) → ((P 0 0) ≤ x1) → Q (zset h 0 0 (0, 2), some (0, 0)))
    (k9 : (0 ≤ x) → (x < (P 0 0)) → (0 ≤ y) → ((P 0 1) ≤ y) → Q (zset h 0 0 (0, 2), some (0, 0)))
    (k10 : (0 ≤ x) → ((P 0 0) ≤ x) → Q (zset h 0 0 (0, 2), some (0, 0))) :
    vP D T N 169 0 h [some (2, 0), some (0, x), some (0, y), some (0, x1), some (0, y1), some (0, n), none, none] [] Q := by
  refine v_load (v := (2, 0)) (hz_X11_odds hT _ _ rfl) rfl rfl ?_
  refine v_getf (v := (2, 39)) (r := 0) (hz_X11_odds hT _ _ rfl) rfl rfl (fun _ => e7) ?_
  refine v_load (v := (0, x)) (hz_X11_odds hT _ _ rfl) rfl rfl ?_
  refine v_load (v := (0, y)) (hz_X11_odds hT _ _ rfl) rfl rfl ?_
  refine v_call (w := 3) [some (2, 39), some (0, x), some (0, y)] hO (hz_X11_odds hT _ _ rfl) rfl rfl ?_
  refine v_load (v := (0, x)) (hz_X2_hasCell hT _ _ rfl) rfl rfl ?_
  refine v_if (hz_X2_hasCell hT _ _ rfl) (fun hc1 => ?_) (fun hc1 => ?_)
  · have hc1 : x < 0 := hc1
    refine v_push (0) (hz_X2_hasCell hT _ _ rfl) rfl ?_
    refine v_ret (hz_X2_hasCell hT _ _ rfl) (Or.inl rfl) ?_
    show vP D T N 169 9 h [some (2, 0), some (0, x), some (0, y), some (0, x1), some (0, y1), some (0, n), none, none] [(0, 0)] _
    refine v_if (hz_X11_odds hT _ _ rfl) (fun _ => ?_) (fun hc2 => absurd (show (0 : Int) = 0 from (by omega)) hc2)
    refine v_load (v := (2, 0)) (hz_X11_odds hT _ _ rfl) rfl rfl ?_
    refine v_push (2) (hz_X11_odds hT _ _ rfl) rfl ?_
    refine v_call (w := 2) [some (2, 0), some (0, 2)] hO (hz_X11_odds hT _ _ rfl) rfl rfl ?_
    refine v_load (v := (2, 0)) (hz_X11_refuse hT _ _ rfl) rfl rfl ?_
    refine v_load (v := (0, 2)) (hz_X11_refuse hT _ _ rfl) rfl rfl ?_
    refine v_putf (r := 0) hO (hz_X11_refuse hT _ _ rfl) rfl (fun hf3 => ?_)
    refine v_push (0) (hz_X11_refuse hT _ _ rfl) rfl ?_
    refine v_ret (hz_X11_refuse hT _ _ rfl) (Or.inl rfl) ?_
    show vP D T N 169 30 (zset h 0 0 (0, 2)) [some (2, 0), some (0, x), some (0, y), some (0, x1), some (0, y1), some (0, n), none, none] [(0, 0)] _
    refine v_ret (hz_X11_odds hT _ _ rfl) (Or.inl rfl) ?_
    exact k0 hc1
  · have hc1 : 0 ≤ x := Int.not_lt.mp hc1
    refine v_load (v := (0, x)) (hz_X2_hasCell hT _ _ rfl) rfl rfl ?_
    refine v_load (v := (2, 39)) (hz_X2_hasCell hT _ _ rfl) rfl rfl ?_
    refine v_getf (v := (0, (P 0 0))) (r := 39) (hz_X2_hasCell hT _ _ rfl) rfl rfl (fun _ => g0) ?_
    refine v_ic (hz_X2_hasCell hT _ _ rfl) (fun hc4 => ?_) (fun hc4 => ?_)
    · have hc4 : x < (P 0 0) := hc4
      refine v_load (v := (0, y)) (hz_X2_hasCell hT _ _ rfl) rfl rfl ?_
      refine v_if (hz_X2_hasCell hT _ _ rfl) (fun hc5 => ?_) (fun hc5 => ?_)
      · have hc5 : y < 0 := hc5
        refine v_push (0) (hz_X2_hasCell hT _ _ rfl) rfl ?_
        refine v_ret (hz_X2_hasCell hT _ _ rfl) (Or.inl rfl) ?_
        show vP D T N 169 9 h [some (2, 0), some (0, x), some (0, y), some (0, x1), some (0, y1), some (0, n), none, none] [(0, 0)] _
        refine v_if (hz_X11_odds hT _ _ rfl) (fun _ => ?_) (fun hc6 => absurd (show (0 : Int) = 0 from (by omega)) hc6)
        refine v_load (v := (2, 0)) (hz_X11_odds hT _ _ rfl) rfl rfl ?_
        refine v_push (2) (hz_X11_odds hT _ _ rfl) rfl ?_
        refine v_call (w := 2) [some (2, 0), some (0, 2)] hO (hz_X11_odds hT _ _ rfl) rfl rfl ?_
        refine v_load (v := (2, 0)) (hz_X11_refuse hT _ _ rfl) rfl rfl ?_
        refine v_load (v := (0, 2)) (hz_X11_refuse hT _ _ rfl) rfl rfl ?_
        refine v_putf (r := 0) hO (hz_X11_refuse hT _ _ rfl) rfl (fun hf7 => ?_)
        refine v_push (0) (hz_X11_refuse hT _ _ rfl) rfl ?_
        refine v_ret (hz_X11_refuse hT _ _ rfl) (Or.inl rfl) ?_
        show vP D T N 169 30 (zset h 0 0 (0, 2)) [some (2, 0), some (0, x), some (0, y), some (0, x1), some (0, y1), some (0, n), none, none] [(0, 0)] _
        refine v_ret (hz_X11_odds hT _ _ rfl) (Or.inl rfl) ?_
        exact k1 hc1 hc4 hc5
      · have hc5 : 0 ≤ y := Int.not_lt.mp hc5
        refine v_load (v := (0, y)) (hz_X2_hasCell hT _ _ rfl) rfl rfl ?_
        refine v_load (v := (2, 39)) (hz_X2_hasCell hT _ _ rfl) rfl rfl ?_
        refine v_getf (v := (0, (P 0 1))) (r := 39) (hz_X2_hasCell hT _ _ rfl) rfl rfl (fun _ => g1) ?_
        refine v_ic (hz_X2_hasCell hT _ _ rfl) (fun hc8 => ?_) (fun hc8 => ?_)
        · have hc8 : y < (P 0 1) := hc8
          refine v_push (1) (hz_X2_hasCell hT _ _ rfl) rfl ?_
          refine v_goto (hz_X2_hasCell hT _ _ rfl) ?_
          refine v_ret (hz_X2_hasCell hT _ _ rfl) (Or.inl rfl) ?_
          show vP D T N 169 9 h [some (2, 0), some (0, x), some (0, y), some (0, x1), some (0, y1), some (0, n), none, none] [(0, 1)] _
          refine v_if (hz_X11_odds hT _ _ rfl) (fun hc9 => absurd (show (1 : Int) = 0 from hc9) (by omega)) (fun _ => ?_)
          refine v_load (v := (2, 0)) (hz_X11_odds hT _ _ rfl) rfl rfl ?_
          refine v_getf (v := (2, 39)) (r := 0) (hz_X11_odds hT _ _ rfl) rfl rfl (fun _ => e7) ?_
          refine v_load (v := (0, x1)) (hz_X11_odds hT _ _ rfl) rfl rfl ?_
          refine v_load (v := (0, y1)) (hz_X11_odds hT _ _ rfl) rfl rfl ?_
          refine v_call (w := 3) [some (2, 39), some (0, x1), some (0, y1)] hO (hz_X11_odds hT _ _ rfl) rfl rfl ?_
          refine v_load (v := (0, x1)) (hz_X2_hasCell hT _ _ rfl) rfl rfl ?_
          refine v_if (hz_X2_hasCell hT _ _ rfl) (fun hc10 => ?_) (fun hc10 => ?_)
          · have hc10 : x1 < 0 := hc10
            refine v_push (0) (hz_X2_hasCell hT _ _ rfl) rfl ?_
            refine v_ret (hz_X2_hasCell hT _ _ rfl) (Or.inl rfl) ?_
            show vP D T N 169 22 h [some (2, 0), some (0, x), some (0, y), some (0, x1), some (0, y1), some (0, n), none, none] [(0, 0)] _
            refine v_if (hz_X11_odds hT _ _ rfl) (fun _ => ?_) (fun hc11 => absurd (show (0 : Int) = 0 from (by omega)) hc11)
            refine v_load (v := (2, 0)) (hz_X11_odds hT _ _ rfl) rfl rfl ?_
            refine v_push (2) (hz_X11_odds hT _ _ rfl) rfl ?_
            refine v_call (w := 2) [some (2, 0), some (0, 2)] hO (hz_X11_odds hT _ _ rfl) rfl rfl ?_
            refine v_load (v := (2, 0)) (hz_X11_refuse hT _ _ rfl) rfl rfl ?_
            refine v_load (v := (0, 2)) (hz_X11_refuse hT _ _ rfl) rfl rfl ?_
            refine v_putf (r := 0) hO (hz_X11_refuse hT _ _ rfl) rfl (fun hf12 => ?_)
            refine v_push (0) (hz_X11_refuse hT _ _ rfl) rfl ?_
            refine v_ret (hz_X11_refuse hT _ _ rfl) (Or.inl rfl) ?_
            show vP D T N 169 30 (zset h 0 0 (0, 2)) [some (2, 0), some (0, x), some (0, y), some (0, x1), some (0, y1), some (0, n), none, none] [(0, 0)] _
            refine v_ret (hz_X11_odds hT _ _ rfl) (Or.inl rfl) ?_
            exact k2 hc1 hc4 hc5 hc8 hc10
          · have hc10 : 0 ≤ x1 := Int.not_lt.mp hc10
            refine v_load (v := (0, x1)) (hz_X2_hasCell hT _ _ rfl) rfl rfl ?_
            refine v_load (v := (2, 39)) (hz_X2_hasCell hT _ _ rfl) rfl rfl ?_
            refine v_getf (v := (0, (P 0 0))) (r := 39) (hz_X2_hasCell hT _ _ rfl) rfl rfl (fun _ => g0) ?_
            refine v_ic (hz_X2_hasCell hT _ _ rfl) (fun hc13 => ?_) (fun hc13 => ?_)
            · have hc13 : x1 < (P 0 0) := hc13
              refine v_load (v := (0, y1)) (hz_X2_hasCell hT _ _ rfl) rfl rfl ?_
              refine v_if (hz_X2_hasCell hT _ _ rfl) (fun hc14 => ?_) (fun hc14 => ?_)
              · have hc14 : y1 < 0 := hc14
                refine v_push (0) (hz_X2_hasCell hT _ _ rfl) rfl ?_
                refine v_ret (hz_X2_hasCell hT _ _ rfl) (Or.inl rfl) ?_
                show vP D T N 169 22 h [some (2, 0), some (0, x), some (0, y), some (0, x1), some (0, y1), some (0, n), none, none] [(0, 0)] _
                refine v_if (hz_X11_odds hT _ _ rfl) (fun _ => ?_) (fun hc15 => absurd (show (0 : Int) = 0 from (by omega)) hc15)
                refine v_load (v := (2, 0)) (hz_X11_odds hT _ _ rfl) rfl rfl ?_
                refine v_push (2) (hz_X11_odds hT _ _ rfl) rfl ?_
                refine v_call (w := 2) [some (2, 0), some (0, 2)] hO (hz_X11_odds hT _ _ rfl) rfl rfl ?_
                refine v_load (v := (2, 0)) (hz_X11_refuse hT _ _ rfl) rfl rfl ?_
                refine v_load (v := (0, 2)) (hz_X11_refuse hT _ _ rfl) rfl rfl ?_
                refine v_putf (r := 0) hO (hz_X11_refuse hT _ _ rfl) rfl (fun hf16 => ?_)
                refine v_push (0) (hz_X11_refuse hT _ _ rfl) rfl ?_
                refine v_ret (hz_X11_refuse hT _ _ rfl) (Or.inl rfl) ?_
                show vP D T N 169 30 (zset h 0 0 (0, 2)) [some (2, 0), some (0, x), some (0, y), some (0, x1), some (0, y1), some (0, n), none, none] [(0, 0)] _
                refine v_ret (hz_X11_odds hT _ _ rfl) (Or.inl rfl) ?_
                exact k3 hc1 hc4 hc5 hc8 hc10 hc13 hc14
              · have hc14 : 0 ≤ y1 := Int.not_lt.mp hc14
                refine v_load (v := (0, y1)) (hz_X2_hasCell hT _ _ rfl) rfl rfl ?_
                refine v_load (v := (2, 39)) (hz_X2_hasCell hT _ _ rfl) rfl rfl ?_
                refine v_getf (v := (0, (P 0 1))) (r := 39) (hz_X2_hasCell hT _ _ rfl) rfl rfl (fun _ => g1) ?_
                refine v_ic (hz_X2_hasCell hT _ _ rfl) (fun hc17 => ?_) (fun hc17 => ?_)
                · have hc17 : y1 < (P 0 1) := hc17
                  refine v_push (1) (hz_X2_hasCell hT _ _ rfl) rfl ?_
                  refine v_goto (hz_X2_hasCell hT _ _ rfl) ?_
                  refine v_ret (hz_X2_hasCell hT _ _ rfl) (Or.inl rfl) ?_
                  show vP D T N 169 22 h [some (2, 0), some (0, x), some (0, y), some (0, x1), some (0, y1), some (0, n), none, none] [(0, 1)] _
                  refine v_if (hz_X11_odds hT _ _ rfl) (fun hc18 => absurd (show (1 : Int) = 0 from hc18) (by omega)) (fun _ => ?_)
                  refine v_load (v := (0, n)) (hz_X11_odds hT _ _ rfl) rfl rfl ?_
                  refine v_if (hz_X11_odds hT _ _ rfl) (fun hc19 => ?_) (fun hc19 => ?_)
                  · have hc19 : n < 0 := hc19
                    refine v_load (v := (2, 0)) (hz_X11_odds hT _ _ rfl) rfl rfl ?_
                    refine v_push (5) (hz_X11_odds hT _ _ rfl) rfl ?_
                    refine v_call (w := 2) [some (2, 0), some (0, 5)] hO (hz_X11_odds hT _ _ rfl) rfl rfl ?_
                    refine v_load (v := (2, 0)) (hz_X11_refuse hT _ _ rfl) rfl rfl ?_
                    refine v_load (v := (0, 5)) (hz_X11_refuse hT _ _ rfl) rfl rfl ?_
                    refine v_putf (r := 0) hO (hz_X11_refuse hT _ _ rfl) rfl (fun hf20 => ?_)
                    refine v_push (0) (hz_X11_refuse hT _ _ rfl) rfl ?_
                    refine v_ret (hz_X11_refuse hT _ _ rfl) (Or.inl rfl) ?_
                    show vP D T N 169 48 (zset h 0 0 (0, 5)) [some (2, 0), some (0, x), some (0, y), some (0, x1), some (0, y1), some (0, n), none, none] [(0, 0)] _
                    refine v_ret (hz_X11_odds hT _ _ rfl) (Or.inl rfl) ?_
                    exact k4 hc1 hc4 hc5 hc8 hc10 hc13 hc14 hc17 hc19
                  · have hc19 : 0 ≤ n := Int.not_lt.mp hc19
                    refine v_load (v := (0, n)) (hz_X11_odds hT _ _ rfl) rfl rfl ?_
                    refine v_push (12) (hz_X11_odds hT _ _ rfl) rfl ?_
                    refine v_ic (hz_X11_odds hT _ _ rfl) (fun hc21 => ?_) (fun hc21 => ?_)
                    · have hc21 : 12 < n := hc21
                      refine v_load (v := (2, 0)) (hz_X11_odds hT _ _ rfl) rfl rfl ?_
                      refine v_push (5) (hz_X11_odds hT _ _ rfl) rfl ?_
                      refine v_call (w := 2) [some (2, 0), some (0, 5)] hO (hz_X11_odds hT _ _ rfl) rfl rfl ?_
                      refine v_load (v := (2, 0)) (hz_X11_refuse hT _ _ rfl) rfl rfl ?_
                      refine v_load (v := (0, 5)) (hz_X11_refuse hT _ _ rfl) rfl rfl ?_
                      refine v_putf (r := 0) hO (hz_X11_refuse hT _ _ rfl) rfl (fun hf22 => ?_)
                      refine v_push (0) (hz_X11_refuse hT _ _ rfl) rfl ?_
                      refine v_ret (hz_X11_refuse hT _ _ rfl) (Or.inl rfl) ?_
                      show vP D T N 169 48 (zset h 0 0 (0, 5)) [some (2, 0), some (0, x), some (0, y), some (0, x1), some (0, y1), some (0, n), none, none] [(0, 0)] _
                      refine v_ret (hz_X11_odds hT _ _ rfl) (Or.inl rfl) ?_
                      exact k5 hc1 hc4 hc5 hc8 hc10 hc13 hc14 hc17 hc19 hc21
                    · have hc21 : n ≤ 12 := Int.not_lt.mp hc21
                      refine v_load (v := (2, 0)) (hz_X11_odds hT _ _ rfl) rfl rfl ?_
                      refine v_getR (c := 114) (r := 0) (hz_X11_odds hT _ _ rfl) rfl rfl rfl ?_
                      refine v_load (v := (2, 0)) (hz_X11_odds hT _ _ rfl) rfl rfl ?_
                      refine v_getf (v := (2, 39)) (r := 0) (hz_X11_odds hT _ _ rfl) rfl rfl (fun _ => e7) ?_
                      refine v_load (v := (0, x)) (hz_X11_odds hT _ _ rfl) rfl rfl ?_
                      refine v_load (v := (0, y)) (hz_X11_odds hT _ _ rfl) rfl rfl ?_
                      refine v_call (w := 2) [some (0, x), some (0, y)] hO (hz_X11_odds hT _ _ rfl) rfl rfl ?_
                      refine v_load (v := (0, y)) (hz_X2_cellAt hT _ _ rfl) rfl rfl ?_
                      refine v_push (8) (hz_X2_cellAt hT _ _ rfl) rfl ?_
                      refine v_bin (w := (y * 8)) (hz_X2_cellAt hT _ _ rfl) (hq_mul (by omega) (by omega)) ?_
                      refine v_load (v := (0, x)) (hz_X2_cellAt hT _ _ rfl) rfl rfl ?_
                      refine v_bin (w := ((y * 8) + x)) (hz_X2_cellAt hT _ _ rfl) (hq_add (by omega) (by omega)) ?_
                      refine v_ret (hz_X2_cellAt hT _ _ rfl) (Or.inl rfl) ?_
                      show vP D T N 169 62 h [some (2, 0), some (0, x), some (0, y), some (0, x1), some (0, y1), some (0, n), none, none] [(0, ((y * 8) + x)), (2, 39), (2, 114)] _
                      refine v_load (v := (0, x1)) (hz_X11_odds hT _ _ rfl) rfl rfl ?_
                      refine v_load (v := (0, y1)) (hz_X11_odds hT _ _ rfl) rfl rfl ?_
                      refine v_call (w := 2) [some (0, x1), some (0, y1)] hO (hz_X11_odds hT _ _ rfl) rfl rfl ?_
                      refine v_load (v := (0, y1)) (hz_X2_cellAt hT _ _ rfl) rfl rfl ?_
                      refine v_push (8) (hz_X2_cellAt hT _ _ rfl) rfl ?_
                      refine v_bin (w := (y1 * 8)) (hz_X2_cellAt hT _ _ rfl) (hq_mul (by omega) (by omega)) ?_
                      refine v_load (v := (0, x1)) (hz_X2_cellAt hT _ _ rfl) rfl rfl ?_
                      refine v_bin (w := ((y1 * 8) + x1)) (hz_X2_cellAt hT _ _ rfl) (hq_add (by omega) (by omega)) ?_
                      refine v_ret (hz_X2_cellAt hT _ _ rfl) (Or.inl rfl) ?_
                      show vP D T N 169 68 h [some (2, 0), some (0, x), some (0, y), some (0, x1), some (0, y1), some (0, n), none, none] [(0, ((y1 * 8) + x1)), (0, ((y * 8) + x)), (2, 39), (2, 114)] _
                      refine v_load (v := (0, n)) (hz_X11_odds hT _ _ rfl) rfl rfl ?_
                      refine v_call (w := 8) [some (2, 114), some (2, 39), some (0, ((y * 8) + x)), some (0, ((y1 * 8) + x1)), some (0, n), none, none, none] hO (hz_X11_odds hT _ _ rfl) rfl rfl (vK2_k (hW _ _ _) (fun g23 z23 => ?_))
                      · show vP D T N 169 73 g23 [some (2, 0), some (0, x), some (0, y), some (0, x1), some (0, y1), some (0, n), none, none] [(1, z23)] _
                        refine vP_hv (fun hv23 => ?_)
                        refine v_store2 [some (2, 0), some (0, x), some (0, y), some (0, x1), some (0, y1), some (0, n), some (1, z23), none] (hz_X11_odds hT _ _ rfl) (Nat.le_of_ble_eq_true rfl) rfl ?_
                        refine v_load (v := (2, 0)) (hz_X11_odds hT _ _ rfl) rfl rfl ?_
                        refine v_load (v := (1, z23)) (hz_X11_odds hT _ _ rfl) rfl rfl ?_
                        refine v_load (v := (0, n)) (hz_X11_odds hT _ _ rfl) rfl rfl ?_
                        refine v_call (w := 1) [some (0, n)] hO (hz_X11_odds hT _ _ rfl) rfl rfl (vK2_k (hL _ _ _) (fun g24 z24 => ?_))
                        · show vP D T N 169 83 g24 [some (2, 0), some (0, x), some (0, y), some (0, x1), some (0, y1), some (0, n), some (1, z23), none] [(1, z24), (1, z23), (2, 0)] _
                          refine vP_hv (fun hv24 => ?_)
                          refine v_call (w := 7) [some (2, 0), some (1, z23), none, some (1, z24), none, none, none] hO (hz_X11_odds hT _ _ rfl) rfl rfl (vK0_k (hF _ _ _) (fun g25 => ?_))
                          · show vP D T N 169 86 g25 [some (2, 0), some (0, x), some (0, y), some (0, x1), some (0, y1), some (0, n), some (1, z23), none] [] _
                            refine vP_hv (fun hv25 => ?_)
                            refine v_load (v := (2, 0)) (hz_X11_odds hT _ _ rfl) rfl rfl ?_
                            refine v_call (w := 1) [some (2, 0)] hO (hz_X11_odds hT _ _ rfl) rfl rfl ?_
                            refine v_load (v := (2, 0)) (hz_X11_accept hT _ _ rfl) rfl rfl ?_
                            refine v_push (0) (hz_X11_accept hT _ _ rfl) rfl ?_
                            refine v_putf (r := 0) hO (hz_X11_accept hT _ _ rfl) rfl (fun hf26 => ?_)
                            refine v_push (1) (hz_X11_accept hT _ _ rfl) rfl ?_
                            refine v_ret (hz_X11_accept hT _ _ rfl) (Or.inl rfl) ?_
                            show vP D T N 169 90 (zset g25 0 0 (0, 0)) [some (2, 0), some (0, x), some (0, y), some (0, x1), some (0, y1), some (0, n), some (1, z23), none] [(0, 1)] _
                            refine v_ret (hz_X11_odds hT _ _ rfl) (Or.inl rfl) ?_
                            exact k6 hc1 hc4 hc5 hc8 hc10 hc13 hc14 hc17 hc19 hc21 g23 z23 g24 z24 g25
                · have hc17 : (P 0 1) ≤ y1 := Int.not_lt.mp hc17
                  refine v_push (0) (hz_X2_hasCell hT _ _ rfl) rfl ?_
                  refine v_ret (hz_X2_hasCell hT _ _ rfl) (Or.inl rfl) ?_
                  show vP D T N 169 22 h [some (2, 0), some (0, x), some (0, y), some (0, x1), some (0, y1), some (0, n), none, none] [(0, 0)] _
                  refine v_if (hz_X11_odds hT _ _ rfl) (fun _ => ?_) (fun hc27 => absurd (show (0 : Int) = 0 from (by omega)) hc27)
                  refine v_load (v := (2, 0)) (hz_X11_odds hT _ _ rfl) rfl rfl ?_
                  refine v_push (2) (hz_X11_odds hT _ _ rfl) rfl ?_
                  refine v_call (w := 2) [some (2, 0), some (0, 2)] hO (hz_X11_odds hT _ _ rfl) rfl rfl ?_
                  refine v_load (v := (2, 0)) (hz_X11_refuse hT _ _ rfl) rfl rfl ?_
                  refine v_load (v := (0, 2)) (hz_X11_refuse hT _ _ rfl) rfl rfl ?_
                  refine v_putf (r := 0) hO (hz_X11_refuse hT _ _ rfl) rfl (fun hf28 => ?_)
                  refine v_push (0) (hz_X11_refuse hT _ _ rfl) rfl ?_
                  refine v_ret (hz_X11_refuse hT _ _ rfl) (Or.inl rfl) ?_
                  show vP D T N 169 30 (zset h 0 0 (0, 2)) [some (2, 0), some (0, x), some (0, y), some (0, x1), some (0, y1), some (0, n), none, none] [(0, 0)] _
                  refine v_ret (hz_X11_odds hT _ _ rfl) (Or.inl rfl) ?_
                  exact k7 hc1 hc4 hc5 hc8 hc10 hc13 hc14 hc17
            · have hc13 : (P 0 0) ≤ x1 := Int.not_lt.mp hc13
              refine v_push (0) (hz_X2_hasCell hT _ _ rfl) rfl ?_
              refine v_ret (hz_X2_hasCell hT _ _ rfl) (Or.inl rfl) ?_
              show vP D T N 169 22 h [some (2, 0), some (0, x), some (0, y), some (0, x1), some (0, y1), some (0, n), none, none] [(0, 0)] _
              refine v_if (hz_X11_odds hT _ _ rfl) (fun _ => ?_) (fun hc29 => absurd (show (0 : Int) = 0 from (by omega)) hc29)
              refine v_load (v := (2, 0)) (hz_X11_odds hT _ _ rfl) rfl rfl ?_
              refine v_push (2) (hz_X11_odds hT _ _ rfl) rfl ?_
              refine v_call (w := 2) [some (2, 0), some (0, 2)] hO (hz_X11_odds hT _ _ rfl) rfl rfl ?_
              refine v_load (v := (2, 0)) (hz_X11_refuse hT _ _ rfl) rfl rfl ?_
              refine v_load (v := (0, 2)) (hz_X11_refuse hT _ _ rfl) rfl rfl ?_
              refine v_putf (r := 0) hO (hz_X11_refuse hT _ _ rfl) rfl (fun hf30 => ?_)
              refine v_push (0) (hz_X11_refuse hT _ _ rfl) rfl ?_
              refine v_ret (hz_X11_refuse hT _ _ rfl) (Or.inl rfl) ?_
              show vP D T N 169 30 (zset h 0 0 (0, 2)) [some (2, 0), some (0, x), some (0, y), some (0, x1), some (0, y1), some (0, n), none, none] [(0, 0)] _
              refine v_ret (hz_X11_odds hT _ _ rfl) (Or.inl rfl) ?_
              exact k8 hc1 hc4 hc5 hc8 hc10 hc13
        · have hc8 : (P 0 1) ≤ y := Int.not_lt.mp hc8
          refine v_push (0) (hz_X2_hasCell hT _ _ rfl) rfl ?_
          refine v_ret (hz_X2_hasCell hT _ _ rfl) (Or.inl rfl) ?_
          show vP D T N 169 9 h [some (2, 0), some (0, x), some (0, y), some (0, x1), some (0, y1), some (0, n), none, none] [(0, 0)] _
          refine v_if (hz_X11_odds hT _ _ rfl) (fun _ => ?_) (fun hc31 => absurd (show (0 : Int) = 0 from (by omega)) hc31)
          refine v_load (v := (2, 0)) (hz_X11_odds hT _ _ rfl) rfl rfl ?_
          refine v_push (2) (hz_X11_odds hT _ _ rfl) rfl ?_
          refine v_call (w := 2) [some (2, 0), some (0, 2)] hO (hz_X11_odds hT _ _ rfl) rfl rfl ?_
          refine v_load (v := (2, 0)) (hz_X11_refuse hT _ _ rfl) rfl rfl ?_
          refine v_load (v := (0, 2)) (hz_X11_refuse hT _ _ rfl) rfl rfl ?_
          refine v_putf (r := 0) hO (hz_X11_refuse hT _ _ rfl) rfl (fun hf32 => ?_)
          refine v_push (0) (hz_X11_refuse hT _ _ rfl) rfl ?_
          refine v_ret (hz_X11_refuse hT _ _ rfl) (Or.inl rfl) ?_
          show vP D T N 169 30 (zset h 0 0 (0, 2)) [some (2, 0), some (0, x), some (0, y), some (0, x1), some (0, y1), some (0, n), none, none] [(0, 0)] _
          refine v_ret (hz_X11_odds hT _ _ rfl) (Or.inl rfl) ?_
          exact k9 hc1 hc4 hc5 hc8
    · have hc4 : (P 0 0) ≤ x := Int.not_lt.mp hc4
      refine v_push (0) (hz_X2_hasCell hT _ _ rfl) rfl ?_
      refine v_ret (hz_X2_hasCell hT _ _ rfl) (Or.inl rfl) ?_
      show vP D T N 169 9 h [some (2, 0), some (0, x), some (0, y), some (0, x1), some (0, y1), some (0, n), none, none] [(0, 0)] _
      refine v_if (hz_X11_odds hT _ _ rfl) (fun _ => ?_) (fun hc33 => absurd (show (0 : Int) = 0 from (by omega)) hc33)
      refine v_load (v := (2, 0)) (hz_X11_odds hT _ _ rfl) rfl rfl ?_
      refine v_push (2) (hz_X11_odds hT _ _ rfl) rfl ?_
      refine v_call (w := 2) [some (2, 0), some (0, 2)] hO (hz_X11_odds hT _ _ rfl) rfl rfl ?_
      refine v_load (v := (2, 0)) (hz_X11_refuse hT _ _ rfl) rfl rfl ?_
      refine v_load (v := (0, 2)) (hz_X11_refuse hT _ _ rfl) rfl rfl ?_
      refine v_putf (r := 0) hO (hz_X11_refuse hT _ _ rfl) rfl (fun hf34 => ?_)
      refine v_push (0) (hz_X11_refuse hT _ _ rfl) rfl ?_
      refine v_ret (hz_X11_refuse hT _ _ rfl) (Or.inl rfl) ?_
      show vP D T N 169 30 (zset h 0 0 (0, 2)) [some (2, 0), some (0, x), some (0, y), some (0, x1), some (0, y1), some (0, n), none, none] [(0, 0)] _
      refine v_ret (hz_X11_odds hT _ _ rfl) (Or.inl rfl) ?_
      exact k10 hc1 hc4
theorem qc_mean_39 {D : zD} {T : zT} (hT : hTab T) (hO : vOK T) {N : Nat} {h : zH} {Q : zR → Prop} {P : PT} (x y n : Int) (hv0 : zHv h) (e7 : h 0 7 = (2, 39)) (g0 : h 39 0 = (0, P 0 0)) (g1 : h 39 1 = (0, P 0 1)) (g2 : h 39 2 = (0, P 0 2)) (g3 : h 39 3 = (0, P 0 3)) (lb : (0 ≤ P 0 0 ∧ P 0 0 ≤ 8) ∧ (0 ≤ P 0 1 ∧ P 0 1 ≤ 6) ∧ (0 ≤ P 0 2 ∧ P 0 2 ≤ 3) ∧ (0 ≤ P 0 3 ∧ P 0 3 ≤ 6)) (hL : ∀ (N : Nat) (g : zH) (l : List (Option zV)), vP D T N 70 0 g l [] (fun r => rtK 2 r.2)) (hM : ∀ (N : Nat) (g : zH) (l : List (Option zV)), vP D T N 71 0 g l [] (fun r => rtK 2 r.2)) (hF : ∀ (N : Nat) (g : zH) (l : List (Option zV)), vP D T N 185 0 g l [] (fun r => rtK 0 r.2))
    (k0 : (x < 0) → Q (zset h 0 0 (0, 2), some (0, 0)))
    (k1 : (0 ≤ x) → (x < (P 0 0)) → (y < 0) → Q (zset h 0 0 (0, 2), some (0, 0)))
    (k2 : (0 ≤ x) → (x < (P 0 0)) → (0 ≤ y) → (y < (P 0 1)) → (n < 0) → Q (zset h 0 0 (0, 5), some (0, 0)))
    (k3 : (0 ≤ x) → (x < (P 0 0)) → (0 ≤ y) → (y < (P 0 1)) → (0 ≤ n) → (8 < n) → Q (zset h 0 0 (0, 5), some (0, 0)))
    (k4 : (0 ≤ x) → (x < (P 0 0)) → (0 ≤ y) → (y < (P 0 1)) → (0 ≤ n) → (n ≤ 8) → ∀ (g14 : zH) (z14 : Int), ∀ (g15 : zH) (z15 : Int), ∀ (g16 : zH), Q (zset g16 0 0 (0, 0), some (0, 1)))
    (k5 : (0 ≤ x) → (x < (P 0 0)) → (0 ≤ y) → ((P 0 1) ≤ y) → Q (zset h 0 0 (0, 2), some (0, 0)))
    (k6 : (0 ≤ x) → ((P 0 0) ≤ x) → Q (zset h 0 0 (0, 2), some (0, 0))) :
    vP D T N 166 0 h [some (2, 0), some (0, x), some (0, y), some (0, n)] [] Q := by
  refine v_load (v := (2, 0)) (hz_X11_mean hT _ _ rfl) rfl rfl ?_
  refine v_getf (v := (2, 39)) (r := 0) (hz_X11_mean hT _ _ rfl) rfl rfl (fun _ => e7) ?_
  refine v_load (v := (0, x)) (hz_X11_mean hT _ _ rfl) rfl rfl ?_
  refine v_load (v := (0, y)) (hz_X11_mean hT _ _ rfl) rfl rfl ?_
  refine v_call (w := 3) [some (2, 39), some (0, x), some (0, y)] hO (hz_X11_mean hT _ _ rfl) rfl rfl ?_
  refine v_load (v := (0, x)) (hz_X2_hasCell hT _ _ rfl) rfl rfl ?_
  refine v_if (hz_X2_hasCell hT _ _ rfl) (fun hc1 => ?_) (fun hc1 => ?_)
  · have hc1 : x < 0 := hc1
    refine v_push (0) (hz_X2_hasCell hT _ _ rfl) rfl ?_
    refine v_ret (hz_X2_hasCell hT _ _ rfl) (Or.inl rfl) ?_
    show vP D T N 166 9 h [some (2, 0), some (0, x), some (0, y), some (0, n)] [(0, 0)] _
    refine v_if (hz_X11_mean hT _ _ rfl) (fun _ => ?_) (fun hc2 => absurd (show (0 : Int) = 0 from (by omega)) hc2)
    refine v_load (v := (2, 0)) (hz_X11_mean hT _ _ rfl) rfl rfl ?_
    refine v_push (2) (hz_X11_mean hT _ _ rfl) rfl ?_
    refine v_call (w := 2) [some (2, 0), some (0, 2)] hO (hz_X11_mean hT _ _ rfl) rfl rfl ?_
    refine v_load (v := (2, 0)) (hz_X11_refuse hT _ _ rfl) rfl rfl ?_
    refine v_load (v := (0, 2)) (hz_X11_refuse hT _ _ rfl) rfl rfl ?_
    refine v_putf (r := 0) hO (hz_X11_refuse hT _ _ rfl) rfl (fun hf3 => ?_)
    refine v_push (0) (hz_X11_refuse hT _ _ rfl) rfl ?_
    refine v_ret (hz_X11_refuse hT _ _ rfl) (Or.inl rfl) ?_
    show vP D T N 166 17 (zset h 0 0 (0, 2)) [some (2, 0), some (0, x), some (0, y), some (0, n)] [(0, 0)] _
    refine v_ret (hz_X11_mean hT _ _ rfl) (Or.inl rfl) ?_
    exact k0 hc1
  · have hc1 : 0 ≤ x := Int.not_lt.mp hc1
    refine v_load (v := (0, x)) (hz_X2_hasCell hT _ _ rfl) rfl rfl ?_
    refine v_load (v := (2, 39)) (hz_X2_hasCell hT _ _ rfl) rfl rfl ?_
    refine v_getf (v := (0, (P 0 0))) (r := 39) (hz_X2_hasCell hT _ _ rfl) rfl rfl (fun _ => g0) ?_
    refine v_ic (hz_X2_hasCell hT _ _ rfl) (fun hc4 => ?_) (fun hc4 => ?_)
    · have hc4 : x < (P 0 0) := hc4
      refine v_load (v := (0, y)) (hz_X2_hasCell hT _ _ rfl) rfl rfl ?_
      refine v_if (hz_X2_hasCell hT _ _ rfl) (fun hc5 => ?_) (fun hc5 => ?_)
      · have hc5 : y < 0 := hc5
        refine v_push (0) (hz_X2_hasCell hT _ _ rfl) rfl ?_
        refine v_ret (hz_X2_hasCell hT _ _ rfl) (Or.inl rfl) ?_
        show vP D T N 166 9 h [some (2, 0), some (0, x), some (0, y), some (0, n)] [(0, 0)] _
        refine v_if (hz_X11_mean hT _ _ rfl) (fun _ => ?_) (fun hc6 => absurd (show (0 : Int) = 0 from (by omega)) hc6)
        refine v_load (v := (2, 0)) (hz_X11_mean hT _ _ rfl) rfl rfl ?_
        refine v_push (2) (hz_X11_mean hT _ _ rfl) rfl ?_
        refine v_call (w := 2) [some (2, 0), some (0, 2)] hO (hz_X11_mean hT _ _ rfl) rfl rfl ?_
        refine v_load (v := (2, 0)) (hz_X11_refuse hT _ _ rfl) rfl rfl ?_
        refine v_load (v := (0, 2)) (hz_X11_refuse hT _ _ rfl) rfl rfl ?_
        refine v_putf (r := 0) hO (hz_X11_refuse hT _ _ rfl) rfl (fun hf7 => ?_)
        refine v_push (0) (hz_X11_refuse hT _ _ rfl) rfl ?_
        refine v_ret (hz_X11_refuse hT _ _ rfl) (Or.inl rfl) ?_
        show vP D T N 166 17 (zset h 0 0 (0, 2)) [some (2, 0), some (0, x), some (0, y), some (0, n)] [(0, 0)] _
        refine v_ret (hz_X11_mean hT _ _ rfl) (Or.inl rfl) ?_
        exact k1 hc1 hc4 hc5
      · have hc5 : 0 ≤ y := Int.not_lt.mp hc5
        refine v_load (v := (0, y)) (hz_X2_hasCell hT _ _ rfl) rfl rfl ?_
        refine v_load (v := (2, 39)) (hz_X2_hasCell hT _ _ rfl) rfl rfl ?_
        refine v_getf (v := (0, (P 0 1))) (r := 39) (hz_X2_hasCell hT _ _ rfl) rfl rfl (fun _ => g1) ?_
        refine v_ic (hz_X2_hasCell hT _ _ rfl) (fun hc8 => ?_) (fun hc8 => ?_)
        · have hc8 : y < (P 0 1) := hc8
          refine v_push (1) (hz_X2_hasCell hT _ _ rfl) rfl ?_
          refine v_goto (hz_X2_hasCell hT _ _ rfl) ?_
          refine v_ret (hz_X2_hasCell hT _ _ rfl) (Or.inl rfl) ?_
          show vP D T N 166 9 h [some (2, 0), some (0, x), some (0, y), some (0, n)] [(0, 1)] _
          refine v_if (hz_X11_mean hT _ _ rfl) (fun hc9 => absurd (show (1 : Int) = 0 from hc9) (by omega)) (fun _ => ?_)
          refine v_load (v := (0, n)) (hz_X11_mean hT _ _ rfl) rfl rfl ?_
          refine v_if (hz_X11_mean hT _ _ rfl) (fun hc10 => ?_) (fun hc10 => ?_)
          · have hc10 : n < 0 := hc10
            refine v_load (v := (2, 0)) (hz_X11_mean hT _ _ rfl) rfl rfl ?_
            refine v_push (5) (hz_X11_mean hT _ _ rfl) rfl ?_
            refine v_call (w := 2) [some (2, 0), some (0, 5)] hO (hz_X11_mean hT _ _ rfl) rfl rfl ?_
            refine v_load (v := (2, 0)) (hz_X11_refuse hT _ _ rfl) rfl rfl ?_
            refine v_load (v := (0, 5)) (hz_X11_refuse hT _ _ rfl) rfl rfl ?_
            refine v_putf (r := 0) hO (hz_X11_refuse hT _ _ rfl) rfl (fun hf11 => ?_)
            refine v_push (0) (hz_X11_refuse hT _ _ rfl) rfl ?_
            refine v_ret (hz_X11_refuse hT _ _ rfl) (Or.inl rfl) ?_
            show vP D T N 166 33 (zset h 0 0 (0, 5)) [some (2, 0), some (0, x), some (0, y), some (0, n)] [(0, 0)] _
            refine v_ret (hz_X11_mean hT _ _ rfl) (Or.inl rfl) ?_
            exact k2 hc1 hc4 hc5 hc8 hc10
          · have hc10 : 0 ≤ n := Int.not_lt.mp hc10
            refine v_load (v := (0, n)) (hz_X11_mean hT _ _ rfl) rfl rfl ?_
            refine v_push (8) (hz_X11_mean hT _ _ rfl) rfl ?_
            refine v_ic (hz_X11_mean hT _ _ rfl) (fun hc12 => ?_) (fun hc12 => ?_)
            · have hc12 : 8 < n := hc12
              refine v_load (v := (2, 0)) (hz_X11_mean hT _ _ rfl) rfl rfl ?_
              refine v_push (5) (hz_X11_mean hT _ _ rfl) rfl ?_
              refine v_call (w := 2) [some (2, 0), some (0, 5)] hO (hz_X11_mean hT _ _ rfl) rfl rfl ?_
              refine v_load (v := (2, 0)) (hz_X11_refuse hT _ _ rfl) rfl rfl ?_
              refine v_load (v := (0, 5)) (hz_X11_refuse hT _ _ rfl) rfl rfl ?_
              refine v_putf (r := 0) hO (hz_X11_refuse hT _ _ rfl) rfl (fun hf13 => ?_)
              refine v_push (0) (hz_X11_refuse hT _ _ rfl) rfl ?_
              refine v_ret (hz_X11_refuse hT _ _ rfl) (Or.inl rfl) ?_
              show vP D T N 166 33 (zset h 0 0 (0, 5)) [some (2, 0), some (0, x), some (0, y), some (0, n)] [(0, 0)] _
              refine v_ret (hz_X11_mean hT _ _ rfl) (Or.inl rfl) ?_
              exact k3 hc1 hc4 hc5 hc8 hc10 hc12
            · have hc12 : n ≤ 8 := Int.not_lt.mp hc12
              refine v_load (v := (2, 0)) (hz_X11_mean hT _ _ rfl) rfl rfl ?_
              refine v_load (v := (2, 0)) (hz_X11_mean hT _ _ rfl) rfl rfl ?_
              refine v_getR (c := 114) (r := 0) (hz_X11_mean hT _ _ rfl) rfl rfl rfl ?_
              refine v_load (v := (2, 0)) (hz_X11_mean hT _ _ rfl) rfl rfl ?_
              refine v_getf (v := (2, 39)) (r := 0) (hz_X11_mean hT _ _ rfl) rfl rfl (fun _ => e7) ?_
              refine v_load (v := (0, x)) (hz_X11_mean hT _ _ rfl) rfl rfl ?_
              refine v_load (v := (0, y)) (hz_X11_mean hT _ _ rfl) rfl rfl ?_
              refine v_call (w := 2) [some (0, x), some (0, y)] hO (hz_X11_mean hT _ _ rfl) rfl rfl ?_
              refine v_load (v := (0, y)) (hz_X2_cellAt hT _ _ rfl) rfl rfl ?_
              refine v_push (8) (hz_X2_cellAt hT _ _ rfl) rfl ?_
              refine v_bin (w := (y * 8)) (hz_X2_cellAt hT _ _ rfl) (hq_mul (by omega) (by omega)) ?_
              refine v_load (v := (0, x)) (hz_X2_cellAt hT _ _ rfl) rfl rfl ?_
              refine v_bin (w := ((y * 8) + x)) (hz_X2_cellAt hT _ _ rfl) (hq_add (by omega) (by omega)) ?_
              refine v_ret (hz_X2_cellAt hT _ _ rfl) (Or.inl rfl) ?_
              show vP D T N 166 48 h [some (2, 0), some (0, x), some (0, y), some (0, n)] [(0, ((y * 8) + x)), (2, 39), (2, 114), (2, 0)] _
              refine v_load (v := (0, n)) (hz_X11_mean hT _ _ rfl) rfl rfl ?_
              refine v_call (w := 7) [some (2, 114), some (2, 39), some (0, ((y * 8) + x)), some (0, n), none, none, none] hO (hz_X11_mean hT _ _ rfl) rfl rfl (vK2_k (hM _ _ _) (fun g14 z14 => ?_))
              · show vP D T N 166 52 g14 [some (2, 0), some (0, x), some (0, y), some (0, n)] [(1, z14), (2, 0)] _
                refine vP_hv (fun hv14 => ?_)
                refine v_load (v := (0, n)) (hz_X11_mean hT _ _ rfl) rfl rfl ?_
                refine v_call (w := 1) [some (0, n)] hO (hz_X11_mean hT _ _ rfl) rfl rfl (vK2_k (hL _ _ _) (fun g15 z15 => ?_))
                · show vP D T N 166 56 g15 [some (2, 0), some (0, x), some (0, y), some (0, n)] [(1, z15), (1, z14), (2, 0)] _
                  refine vP_hv (fun hv15 => ?_)
                  refine v_call (w := 7) [some (2, 0), some (1, z14), none, some (1, z15), none, none, none] hO (hz_X11_mean hT _ _ rfl) rfl rfl (vK0_k (hF _ _ _) (fun g16 => ?_))
                  · show vP D T N 166 59 g16 [some (2, 0), some (0, x), some (0, y), some (0, n)] [] _
                    refine vP_hv (fun hv16 => ?_)
                    refine v_load (v := (2, 0)) (hz_X11_mean hT _ _ rfl) rfl rfl ?_
                    refine v_call (w := 1) [some (2, 0)] hO (hz_X11_mean hT _ _ rfl) rfl rfl ?_
                    refine v_load (v := (2, 0)) (hz_X11_accept hT _ _ rfl) rfl rfl ?_
                    refine v_push (0) (hz_X11_accept hT _ _ rfl) rfl ?_
                    refine v_putf (r := 0) hO (hz_X11_accept hT _ _ rfl) rfl (fun hf17 => ?_)
                    refine v_push (1) (hz_X11_accept hT _ _ rfl) rfl ?_
                    refine v_ret (hz_X11_accept hT _ _ rfl) (Or.inl rfl) ?_
                    show vP D T N 166 63 (zset g16 0 0 (0, 0)) [some (2, 0), some (0, x), some (0, y), some (0, n)] [(0, 1)] _
                    refine v_ret (hz_X11_mean hT _ _ rfl) (Or.inl rfl) ?_
                    exact k4 hc1 hc4 hc5 hc8 hc10 hc12 g14 z14 g15 z15 g16
        · have hc8 : (P 0 1) ≤ y := Int.not_lt.mp hc8
          refine v_push (0) (hz_X2_hasCell hT _ _ rfl) rfl ?_
          refine v_ret (hz_X2_hasCell hT _ _ rfl) (Or.inl rfl) ?_
          show vP D T N 166 9 h [some (2, 0), some (0, x), some (0, y), some (0, n)] [(0, 0)] _
          refine v_if (hz_X11_mean hT _ _ rfl) (fun _ => ?_) (fun hc18 => absurd (show (0 : Int) = 0 from (by omega)) hc18)
          refine v_load (v := (2, 0)) (hz_X11_mean hT _ _ rfl) rfl rfl ?_
          refine v_push (2) (hz_X11_mean hT _ _ rfl) rfl ?_
          refine v_call (w := 2) [some (2, 0), some (0, 2)] hO (hz_X11_mean hT _ _ rfl) rfl rfl ?_
          refine v_load (v := (2, 0)) (hz_X11_refuse hT _ _ rfl) rfl rfl ?_
          refine v_load (v := (0, 2)) (hz_X11_refuse hT _ _ rfl) rfl rfl ?_
          refine v_putf (r := 0) hO (hz_X11_refuse hT _ _ rfl) rfl (fun hf19 => ?_)
          refine v_push (0) (hz_X11_refuse hT _ _ rfl) rfl ?_
          refine v_ret (hz_X11_refuse hT _ _ rfl) (Or.inl rfl) ?_
          show vP D T N 166 17 (zset h 0 0 (0, 2)) [some (2, 0), some (0, x), some (0, y), some (0, n)] [(0, 0)] _
          refine v_ret (hz_X11_mean hT _ _ rfl) (Or.inl rfl) ?_
          exact k5 hc1 hc4 hc5 hc8
    · have hc4 : (P 0 0) ≤ x := Int.not_lt.mp hc4
      refine v_push (0) (hz_X2_hasCell hT _ _ rfl) rfl ?_
      refine v_ret (hz_X2_hasCell hT _ _ rfl) (Or.inl rfl) ?_
      show vP D T N 166 9 h [some (2, 0), some (0, x), some (0, y), some (0, n)] [(0, 0)] _
      refine v_if (hz_X11_mean hT _ _ rfl) (fun _ => ?_) (fun hc20 => absurd (show (0 : Int) = 0 from (by omega)) hc20)
      refine v_load (v := (2, 0)) (hz_X11_mean hT _ _ rfl) rfl rfl ?_
      refine v_push (2) (hz_X11_mean hT _ _ rfl) rfl ?_
      refine v_call (w := 2) [some (2, 0), some (0, 2)] hO (hz_X11_mean hT _ _ rfl) rfl rfl ?_
      refine v_load (v := (2, 0)) (hz_X11_refuse hT _ _ rfl) rfl rfl ?_
      refine v_load (v := (0, 2)) (hz_X11_refuse hT _ _ rfl) rfl rfl ?_
      refine v_putf (r := 0) hO (hz_X11_refuse hT _ _ rfl) rfl (fun hf21 => ?_)
      refine v_push (0) (hz_X11_refuse hT _ _ rfl) rfl ?_
      refine v_ret (hz_X11_refuse hT _ _ rfl) (Or.inl rfl) ?_
      show vP D T N 166 17 (zset h 0 0 (0, 2)) [some (2, 0), some (0, x), some (0, y), some (0, n)] [(0, 0)] _
      refine v_ret (hz_X11_mean hT _ _ rfl) (Or.inl rfl) ?_
      exact k6 hc1 hc4
theorem qr_odds {D : zD} {T : zT} (hT : hTab T) (hO : vOK T) {N : Nat} {h : zH} {Q : zR → Prop} {P : PT} (x y x1 y1 n : Int) (hv0 : zHv h) (g0 : h 126 0 = (0, P 0 0)) (g1 : h 126 1 = (0, P 0 1)) (g2 : h 126 2 = (0, P 0 2)) (g3 : h 126 3 = (0, P 0 3)) (lb : (0 ≤ P 0 0 ∧ P 0 0 ≤ 8) ∧ (0 ≤ P 0 1 ∧ P 0 1 ≤ 6) ∧ (0 ≤ P 0 2 ∧ P 0 2 ≤ 3) ∧ (0 ≤ P 0 3 ∧ P 0 3 ≤ 6)) (hU : oH 126 121 20 h) (hL : ∀ (N : Nat) (m : Int) (g : zH), oH 126 121 20 g → vP D T N 229 0 g [some (0, m), none, none, none] [] (fun r => rtK 2 r.2 ∧ ∀ j, r.1 126 j = g 126 j)) (hL2 : ∀ (N : Nat) (g : zH) (l : List (Option zV)), vP D T N 229 0 g l [] (fun r => rtK 2 r.2)) (hW : ∀ (N : Nat) (g : zH) (l : List (Option zV)), vP D T N 198 0 g l [] (fun r => rtK 2 r.2)) (hFr : ∀ (N : Nat) (t b : Int) (g : zH), vP D T N 230 0 g [some (2, 121), some (1, t), none, some (1, b), none, none, none, none, none, none, none] [] (fun r => r.2 = some (0, 1) ∧ ∀ j, r.1 126 j = g 126 j)) (hm : y < 0 ∨ 5 < y ∨ (0 ≤ (P 0 0) * y ∧ (P 0 0) * y ≤ 40)) (hm1 : y1 < 0 ∨ 5 < y1 ∨ (0 ≤ (P 0 0) * y1 ∧ (P 0 0) * y1 ≤ 40))
    (k0 : (x < 0) → Q (zset (zset (zset h 121 1 (0, 0)) 121 0 (0, 0)) 121 0 (0, 2), some (0, 0)))
    (k1 : (0 ≤ x) → (((P 0 0) - 1) < x) → Q (zset (zset (zset h 121 1 (0, 0)) 121 0 (0, 0)) 121 0 (0, 2), some (0, 0)))
    (k2 : (0 ≤ x) → (x ≤ ((P 0 0) - 1)) → (y < 0) → Q (zset (zset (zset h 121 1 (0, 0)) 121 0 (0, 0)) 121 0 (0, 2), some (0, 0)))
    (k3 : (0 ≤ x) → (x ≤ ((P 0 0) - 1)) → (0 ≤ y) → (((P 0 1) - 1) < y) → Q (zset (zset (zset h 121 1 (0, 0)) 121 0 (0, 0)) 121 0 (0, 2), some (0, 0)))
    (k4 : (0 ≤ x) → (x ≤ ((P 0 0) - 1)) → (0 ≤ y) → (y ≤ ((P 0 1) - 1)) → (x1 < 0) → Q (zset (zset (zset h 121 1 (0, 0)) 121 0 (0, 0)) 121 0 (0, 2), some (0, 0)))
    (k5 : (0 ≤ x) → (x ≤ ((P 0 0) - 1)) → (0 ≤ y) → (y ≤ ((P 0 1) - 1)) → (0 ≤ x1) → (((P 0 0) - 1) < x1) → Q (zset (zset (zset h 121 1 (0, 0)) 121 0 (0, 0)) 121 0 (0, 2), some (0, 0)))
    (k6 : (0 ≤ x) → (x ≤ ((P 0 0) - 1)) → (0 ≤ y) → (y ≤ ((P 0 1) - 1)) → (0 ≤ x1) → (x1 ≤ ((P 0 0) - 1)) → (y1 < 0) → Q (zset (zset (zset h 121 1 (0, 0)) 121 0 (0, 0)) 121 0 (0, 2), some (0, 0)))
    (k7 : (0 ≤ x) → (x ≤ ((P 0 0) - 1)) → (0 ≤ y) → (y ≤ ((P 0 1) - 1)) → (0 ≤ x1) → (x1 ≤ ((P 0 0) - 1)) → (0 ≤ y1) → (((P 0 1) - 1) < y1) → Q (zset (zset (zset h 121 1 (0, 0)) 121 0 (0, 0)) 121 0 (0, 2), some (0, 0)))
    (k8 : (0 ≤ x) → (x ≤ ((P 0 0) - 1)) → (0 ≤ y) → (y ≤ ((P 0 1) - 1)) → (0 ≤ x1) → (x1 ≤ ((P 0 0) - 1)) → (0 ≤ y1) → (y1 ≤ ((P 0 1) - 1)) → (n < 0) → Q (zset (zset (zset h 121 1 (0, 0)) 121 0 (0, 0)) 121 0 (0, 5), some (0, 0)))
    (k9 : (0 ≤ x) → (x ≤ ((P 0 0) - 1)) → (0 ≤ y) → (y ≤ ((P 0 1) - 1)) → (0 ≤ x1) → (x1 ≤ ((P 0 0) - 1)) → (0 ≤ y1) → (y1 ≤ ((P 0 1) - 1)) → (0 ≤ n) → (12 < n) → Q (zset (zset (zset h 121 1 (0, 0)) 121 0 (0, 0)) 121 0 (0, 5), some (0, 0)))
    (k10 : (0 ≤ x) → (x ≤ ((P 0 0) - 1)) → (0 ≤ y) → (y ≤ ((P 0 1) - 1)) → (0 ≤ x1) → (x1 ≤ ((P 0 0) - 1)) → (0 ≤ y1) → (y1 ≤ ((P 0 1) - 1)) → (0 ≤ n) → (n ≤ 12) → ∀ (g56 : zH) (z56 : Int), (∀ j, g56 126 j = (zset (zset h 121 1 (0, 0)) 121 0 (0, 0)) 126 j) → ∀ (g61 : zH) (z61 : Int), ∀ (g62 : zH) (z62 : Int), ∀ (g63 : zH), ((∀ j, g63 126 j = g62 126 j)) → Q (g63, some (0, 1))) :
    vP D T N 287 0 h [some (2, 121), some (0, x), some (0, y), some (0, x1), some (0, y1), some (0, n)] [] Q := by
  refine v_load (v := (2, 121)) (hz_X12_odds hT _ _ rfl) rfl rfl ?_
  refine v_push (0) (hz_X12_odds hT _ _ rfl) rfl ?_
  refine v_putf (r := 121) hO (hz_X12_odds hT _ _ rfl) rfl (fun hf1 => ?_)
  refine v_load (v := (2, 121)) (hz_X12_odds hT _ _ rfl) rfl rfl ?_
  refine v_push (0) (hz_X12_odds hT _ _ rfl) rfl ?_
  refine v_putf (r := 121) hO (hz_X12_odds hT _ _ rfl) rfl (fun hf2 => ?_)
  refine v_load (v := (2, 121)) (hz_X12_odds hT _ _ rfl) rfl rfl ?_
  refine v_load (v := (0, x)) (hz_X12_odds hT _ _ rfl) rfl rfl ?_
  refine v_load (v := (0, y)) (hz_X12_odds hT _ _ rfl) rfl rfl ?_
  refine v_call (w := 3) [some (2, 121), some (0, x), some (0, y)] hO (hz_X12_odds hT _ _ rfl) rfl rfl ?_
  refine v_load (v := (0, x)) (hz_X12_isCell hT _ _ rfl) rfl rfl ?_
  refine v_i2l (hz_X12_isCell hT _ _ rfl) ?_
  refine v_push (0) (hz_X12_isCell hT _ _ rfl) rfl ?_
  refine v_load (v := (2, 121)) (hz_X12_isCell hT _ _ rfl) rfl rfl ?_
  refine v_getR (c := 126) (r := 121) (hz_X12_isCell hT _ _ rfl) rfl rfl rfl ?_
  refine v_push (0) (hz_X12_isCell hT _ _ rfl) rfl ?_
  refine v_aldV (v := (0, (P 0 0))) (r := 126) (hz_X12_isCell hT _ _ rfl) rfl rfl (fun _ _ _ => (Eq.trans (Eq.trans (zset_ne (fun c => absurd c.1 (by decide))) (zset_ne (fun c => absurd c.1 (by decide)))) (g0))) (fun ha3 hb4 => ?_)
  refine v_push (1) (hz_X12_isCell hT _ _ rfl) rfl ?_
  refine v_bin (w := ((P 0 0) - 1)) (hz_X12_isCell hT _ _ rfl) (hq_sub (by omega) (by omega)) ?_
  refine v_i2l (hz_X12_isCell hT _ _ rfl) ?_
  refine v_call (w := 6) [some (1, x), none, some (1, 0), none, some (1, ((P 0 0) - 1)), none] hO (hz_X12_isCell hT _ _ rfl) rfl rfl ?_
  refine v_load (v := (1, x)) (hz_X12_isIn hT _ _ rfl) rfl rfl ?_
  refine v_load (v := (1, 0)) (hz_X12_isIn hT _ _ rfl) rfl rfl ?_
  refine v_lif (hz_X12_isIn hT _ _ rfl) (hz_X12_isIn hT _ _ rfl) (fun hc5 => ?_) (fun hc5 => ?_)
  · have hc5 : x < 0 := hc5
    refine v_push (0) (hz_X12_isIn hT _ _ rfl) rfl ?_
    refine v_ret (hz_X12_isIn hT _ _ rfl) (Or.inl rfl) ?_
    show vP D T N 244 15 (zset (zset h 121 1 (0, 0)) 121 0 (0, 0)) [some (2, 121), some (0, x), some (0, y)] [(0, 0)] _
    refine v_if (hz_X12_isCell hT _ _ rfl) (fun _ => ?_) (fun hc6 => absurd (show (0 : Int) = 0 from (by omega)) hc6)
    refine v_push (0) (hz_X12_isCell hT _ _ rfl) rfl ?_
    refine v_ret (hz_X12_isCell hT _ _ rfl) (Or.inl rfl) ?_
    show vP D T N 287 16 (zset (zset h 121 1 (0, 0)) 121 0 (0, 0)) [some (2, 121), some (0, x), some (0, y), some (0, x1), some (0, y1), some (0, n)] [(0, 0)] _
    refine v_if (hz_X12_odds hT _ _ rfl) (fun _ => ?_) (fun hc7 => absurd (show (0 : Int) = 0 from (by omega)) hc7)
    refine v_load (v := (2, 121)) (hz_X12_odds hT _ _ rfl) rfl rfl ?_
    refine v_push (2) (hz_X12_odds hT _ _ rfl) rfl ?_
    refine v_call (w := 2) [some (2, 121), some (0, 2)] hO (hz_X12_odds hT _ _ rfl) rfl rfl ?_
    refine v_load (v := (2, 121)) (hz_X12_no hT _ _ rfl) rfl rfl ?_
    refine v_load (v := (0, 2)) (hz_X12_no hT _ _ rfl) rfl rfl ?_
    refine v_putf (r := 121) hO (hz_X12_no hT _ _ rfl) rfl (fun hf8 => ?_)
    refine v_push (0) (hz_X12_no hT _ _ rfl) rfl ?_
    refine v_ret (hz_X12_no hT _ _ rfl) (Or.inl rfl) ?_
    show vP D T N 287 34 (zset (zset (zset h 121 1 (0, 0)) 121 0 (0, 0)) 121 0 (0, 2)) [some (2, 121), some (0, x), some (0, y), some (0, x1), some (0, y1), some (0, n)] [(0, 0)] _
    refine v_ret (hz_X12_odds hT _ _ rfl) (Or.inl rfl) ?_
    exact k0 hc5
  · have hc5 : 0 ≤ x := Int.not_lt.mp hc5
    refine v_load (v := (1, x)) (hz_X12_isIn hT _ _ rfl) rfl rfl ?_
    refine v_load (v := (1, ((P 0 0) - 1))) (hz_X12_isIn hT _ _ rfl) rfl rfl ?_
    refine v_lif (hz_X12_isIn hT _ _ rfl) (hz_X12_isIn hT _ _ rfl) (fun hc9 => ?_) (fun hc9 => ?_)
    · have hc9 : ((P 0 0) - 1) < x := hc9
      refine v_push (0) (hz_X12_isIn hT _ _ rfl) rfl ?_
      refine v_ret (hz_X12_isIn hT _ _ rfl) (Or.inl rfl) ?_
      show vP D T N 244 15 (zset (zset h 121 1 (0, 0)) 121 0 (0, 0)) [some (2, 121), some (0, x), some (0, y)] [(0, 0)] _
      refine v_if (hz_X12_isCell hT _ _ rfl) (fun _ => ?_) (fun hc10 => absurd (show (0 : Int) = 0 from (by omega)) hc10)
      refine v_push (0) (hz_X12_isCell hT _ _ rfl) rfl ?_
      refine v_ret (hz_X12_isCell hT _ _ rfl) (Or.inl rfl) ?_
      show vP D T N 287 16 (zset (zset h 121 1 (0, 0)) 121 0 (0, 0)) [some (2, 121), some (0, x), some (0, y), some (0, x1), some (0, y1), some (0, n)] [(0, 0)] _
      refine v_if (hz_X12_odds hT _ _ rfl) (fun _ => ?_) (fun hc11 => absurd (show (0 : Int) = 0 from (by omega)) hc11)
      refine v_load (v := (2, 121)) (hz_X12_odds hT _ _ rfl) rfl rfl ?_
      refine v_push (2) (hz_X12_odds hT _ _ rfl) rfl ?_
      refine v_call (w := 2) [some (2, 121), some (0, 2)] hO (hz_X12_odds hT _ _ rfl) rfl rfl ?_
      refine v_load (v := (2, 121)) (hz_X12_no hT _ _ rfl) rfl rfl ?_
      refine v_load (v := (0, 2)) (hz_X12_no hT _ _ rfl) rfl rfl ?_
      refine v_putf (r := 121) hO (hz_X12_no hT _ _ rfl) rfl (fun hf12 => ?_)
      refine v_push (0) (hz_X12_no hT _ _ rfl) rfl ?_
      refine v_ret (hz_X12_no hT _ _ rfl) (Or.inl rfl) ?_
      show vP D T N 287 34 (zset (zset (zset h 121 1 (0, 0)) 121 0 (0, 0)) 121 0 (0, 2)) [some (2, 121), some (0, x), some (0, y), some (0, x1), some (0, y1), some (0, n)] [(0, 0)] _
      refine v_ret (hz_X12_odds hT _ _ rfl) (Or.inl rfl) ?_
      exact k1 hc5 hc9
    · have hc9 : x ≤ ((P 0 0) - 1) := Int.not_lt.mp hc9
      refine v_push (1) (hz_X12_isIn hT _ _ rfl) rfl ?_
      refine v_goto (hz_X12_isIn hT _ _ rfl) ?_
      refine v_ret (hz_X12_isIn hT _ _ rfl) (Or.inl rfl) ?_
      show vP D T N 244 15 (zset (zset h 121 1 (0, 0)) 121 0 (0, 0)) [some (2, 121), some (0, x), some (0, y)] [(0, 1)] _
      refine v_if (hz_X12_isCell hT _ _ rfl) (fun hc13 => absurd (show (1 : Int) = 0 from hc13) (by omega)) (fun _ => ?_)
      refine v_load (v := (0, y)) (hz_X12_isCell hT _ _ rfl) rfl rfl ?_
      refine v_i2l (hz_X12_isCell hT _ _ rfl) ?_
      refine v_push (0) (hz_X12_isCell hT _ _ rfl) rfl ?_
      refine v_load (v := (2, 121)) (hz_X12_isCell hT _ _ rfl) rfl rfl ?_
      refine v_getR (c := 126) (r := 121) (hz_X12_isCell hT _ _ rfl) rfl rfl rfl ?_
      refine v_push (1) (hz_X12_isCell hT _ _ rfl) rfl ?_
      refine v_aldV (v := (0, (P 0 1))) (r := 126) (hz_X12_isCell hT _ _ rfl) rfl rfl (fun _ _ _ => (Eq.trans (Eq.trans (zset_ne (fun c => absurd c.1 (by decide))) (zset_ne (fun c => absurd c.1 (by decide)))) (g1))) (fun ha14 hb15 => ?_)
      refine v_push (1) (hz_X12_isCell hT _ _ rfl) rfl ?_
      refine v_bin (w := ((P 0 1) - 1)) (hz_X12_isCell hT _ _ rfl) (hq_sub (by omega) (by omega)) ?_
      refine v_i2l (hz_X12_isCell hT _ _ rfl) ?_
      refine v_call (w := 6) [some (1, y), none, some (1, 0), none, some (1, ((P 0 1) - 1)), none] hO (hz_X12_isCell hT _ _ rfl) rfl rfl ?_
      refine v_load (v := (1, y)) (hz_X12_isIn hT _ _ rfl) rfl rfl ?_
      refine v_load (v := (1, 0)) (hz_X12_isIn hT _ _ rfl) rfl rfl ?_
      refine v_lif (hz_X12_isIn hT _ _ rfl) (hz_X12_isIn hT _ _ rfl) (fun hc16 => ?_) (fun hc16 => ?_)
      · have hc16 : y < 0 := hc16
        refine v_push (0) (hz_X12_isIn hT _ _ rfl) rfl ?_
        refine v_ret (hz_X12_isIn hT _ _ rfl) (Or.inl rfl) ?_
        show vP D T N 244 33 (zset (zset h 121 1 (0, 0)) 121 0 (0, 0)) [some (2, 121), some (0, x), some (0, y)] [(0, 0)] _
        refine v_if (hz_X12_isCell hT _ _ rfl) (fun _ => ?_) (fun hc17 => absurd (show (0 : Int) = 0 from (by omega)) hc17)
        refine v_push (0) (hz_X12_isCell hT _ _ rfl) rfl ?_
        refine v_ret (hz_X12_isCell hT _ _ rfl) (Or.inl rfl) ?_
        show vP D T N 287 16 (zset (zset h 121 1 (0, 0)) 121 0 (0, 0)) [some (2, 121), some (0, x), some (0, y), some (0, x1), some (0, y1), some (0, n)] [(0, 0)] _
        refine v_if (hz_X12_odds hT _ _ rfl) (fun _ => ?_) (fun hc18 => absurd (show (0 : Int) = 0 from (by omega)) hc18)
        refine v_load (v := (2, 121)) (hz_X12_odds hT _ _ rfl) rfl rfl ?_
        refine v_push (2) (hz_X12_odds hT _ _ rfl) rfl ?_
        refine v_call (w := 2) [some (2, 121), some (0, 2)] hO (hz_X12_odds hT _ _ rfl) rfl rfl ?_
        refine v_load (v := (2, 121)) (hz_X12_no hT _ _ rfl) rfl rfl ?_
        refine v_load (v := (0, 2)) (hz_X12_no hT _ _ rfl) rfl rfl ?_
        refine v_putf (r := 121) hO (hz_X12_no hT _ _ rfl) rfl (fun hf19 => ?_)
        refine v_push (0) (hz_X12_no hT _ _ rfl) rfl ?_
        refine v_ret (hz_X12_no hT _ _ rfl) (Or.inl rfl) ?_
        show vP D T N 287 34 (zset (zset (zset h 121 1 (0, 0)) 121 0 (0, 0)) 121 0 (0, 2)) [some (2, 121), some (0, x), some (0, y), some (0, x1), some (0, y1), some (0, n)] [(0, 0)] _
        refine v_ret (hz_X12_odds hT _ _ rfl) (Or.inl rfl) ?_
        exact k2 hc5 hc9 hc16
      · have hc16 : 0 ≤ y := Int.not_lt.mp hc16
        refine v_load (v := (1, y)) (hz_X12_isIn hT _ _ rfl) rfl rfl ?_
        refine v_load (v := (1, ((P 0 1) - 1))) (hz_X12_isIn hT _ _ rfl) rfl rfl ?_
        refine v_lif (hz_X12_isIn hT _ _ rfl) (hz_X12_isIn hT _ _ rfl) (fun hc20 => ?_) (fun hc20 => ?_)
        · have hc20 : ((P 0 1) - 1) < y := hc20
          refine v_push (0) (hz_X12_isIn hT _ _ rfl) rfl ?_
          refine v_ret (hz_X12_isIn hT _ _ rfl) (Or.inl rfl) ?_
          show vP D T N 244 33 (zset (zset h 121 1 (0, 0)) 121 0 (0, 0)) [some (2, 121), some (0, x), some (0, y)] [(0, 0)] _
          refine v_if (hz_X12_isCell hT _ _ rfl) (fun _ => ?_) (fun hc21 => absurd (show (0 : Int) = 0 from (by omega)) hc21)
          refine v_push (0) (hz_X12_isCell hT _ _ rfl) rfl ?_
          refine v_ret (hz_X12_isCell hT _ _ rfl) (Or.inl rfl) ?_
          show vP D T N 287 16 (zset (zset h 121 1 (0, 0)) 121 0 (0, 0)) [some (2, 121), some (0, x), some (0, y), some (0, x1), some (0, y1), some (0, n)] [(0, 0)] _
          refine v_if (hz_X12_odds hT _ _ rfl) (fun _ => ?_) (fun hc22 => absurd (show (0 : Int) = 0 from (by omega)) hc22)
          refine v_load (v := (2, 121)) (hz_X12_odds hT _ _ rfl) rfl rfl ?_
          refine v_push (2) (hz_X12_odds hT _ _ rfl) rfl ?_
          refine v_call (w := 2) [some (2, 121), some (0, 2)] hO (hz_X12_odds hT _ _ rfl) rfl rfl ?_
          refine v_load (v := (2, 121)) (hz_X12_no hT _ _ rfl) rfl rfl ?_
          refine v_load (v := (0, 2)) (hz_X12_no hT _ _ rfl) rfl rfl ?_
          refine v_putf (r := 121) hO (hz_X12_no hT _ _ rfl) rfl (fun hf23 => ?_)
          refine v_push (0) (hz_X12_no hT _ _ rfl) rfl ?_
          refine v_ret (hz_X12_no hT _ _ rfl) (Or.inl rfl) ?_
          show vP D T N 287 34 (zset (zset (zset h 121 1 (0, 0)) 121 0 (0, 0)) 121 0 (0, 2)) [some (2, 121), some (0, x), some (0, y), some (0, x1), some (0, y1), some (0, n)] [(0, 0)] _
          refine v_ret (hz_X12_odds hT _ _ rfl) (Or.inl rfl) ?_
          exact k3 hc5 hc9 hc16 hc20
        · have hc20 : y ≤ ((P 0 1) - 1) := Int.not_lt.mp hc20
          refine v_push (1) (hz_X12_isIn hT _ _ rfl) rfl ?_
          refine v_goto (hz_X12_isIn hT _ _ rfl) ?_
          refine v_ret (hz_X12_isIn hT _ _ rfl) (Or.inl rfl) ?_
          show vP D T N 244 33 (zset (zset h 121 1 (0, 0)) 121 0 (0, 0)) [some (2, 121), some (0, x), some (0, y)] [(0, 1)] _
          refine v_if (hz_X12_isCell hT _ _ rfl) (fun hc24 => absurd (show (1 : Int) = 0 from hc24) (by omega)) (fun _ => ?_)
          refine v_push (1) (hz_X12_isCell hT _ _ rfl) rfl ?_
          refine v_goto (hz_X12_isCell hT _ _ rfl) ?_
          refine v_ret (hz_X12_isCell hT _ _ rfl) (Or.inl rfl) ?_
          show vP D T N 287 16 (zset (zset h 121 1 (0, 0)) 121 0 (0, 0)) [some (2, 121), some (0, x), some (0, y), some (0, x1), some (0, y1), some (0, n)] [(0, 1)] _
          refine v_if (hz_X12_odds hT _ _ rfl) (fun hc25 => absurd (show (1 : Int) = 0 from hc25) (by omega)) (fun _ => ?_)
          refine v_load (v := (2, 121)) (hz_X12_odds hT _ _ rfl) rfl rfl ?_
          refine v_load (v := (0, x1)) (hz_X12_odds hT _ _ rfl) rfl rfl ?_
          refine v_load (v := (0, y1)) (hz_X12_odds hT _ _ rfl) rfl rfl ?_
          refine v_call (w := 3) [some (2, 121), some (0, x1), some (0, y1)] hO (hz_X12_odds hT _ _ rfl) rfl rfl ?_
          refine v_load (v := (0, x1)) (hz_X12_isCell hT _ _ rfl) rfl rfl ?_
          refine v_i2l (hz_X12_isCell hT _ _ rfl) ?_
          refine v_push (0) (hz_X12_isCell hT _ _ rfl) rfl ?_
          refine v_load (v := (2, 121)) (hz_X12_isCell hT _ _ rfl) rfl rfl ?_
          refine v_getR (c := 126) (r := 121) (hz_X12_isCell hT _ _ rfl) rfl rfl rfl ?_
          refine v_push (0) (hz_X12_isCell hT _ _ rfl) rfl ?_
          refine v_aldV (v := (0, (P 0 0))) (r := 126) (hz_X12_isCell hT _ _ rfl) rfl rfl (fun _ _ _ => (Eq.trans (Eq.trans (zset_ne (fun c => absurd c.1 (by decide))) (zset_ne (fun c => absurd c.1 (by decide)))) (g0))) (fun ha26 hb27 => ?_)
          refine v_push (1) (hz_X12_isCell hT _ _ rfl) rfl ?_
          refine v_bin (w := ((P 0 0) - 1)) (hz_X12_isCell hT _ _ rfl) (hq_sub (by omega) (by omega)) ?_
          refine v_i2l (hz_X12_isCell hT _ _ rfl) ?_
          refine v_call (w := 6) [some (1, x1), none, some (1, 0), none, some (1, ((P 0 0) - 1)), none] hO (hz_X12_isCell hT _ _ rfl) rfl rfl ?_
          refine v_load (v := (1, x1)) (hz_X12_isIn hT _ _ rfl) rfl rfl ?_
          refine v_load (v := (1, 0)) (hz_X12_isIn hT _ _ rfl) rfl rfl ?_
          refine v_lif (hz_X12_isIn hT _ _ rfl) (hz_X12_isIn hT _ _ rfl) (fun hc28 => ?_) (fun hc28 => ?_)
          · have hc28 : x1 < 0 := hc28
            refine v_push (0) (hz_X12_isIn hT _ _ rfl) rfl ?_
            refine v_ret (hz_X12_isIn hT _ _ rfl) (Or.inl rfl) ?_
            show vP D T N 244 15 (zset (zset h 121 1 (0, 0)) 121 0 (0, 0)) [some (2, 121), some (0, x1), some (0, y1)] [(0, 0)] _
            refine v_if (hz_X12_isCell hT _ _ rfl) (fun _ => ?_) (fun hc29 => absurd (show (0 : Int) = 0 from (by omega)) hc29)
            refine v_push (0) (hz_X12_isCell hT _ _ rfl) rfl ?_
            refine v_ret (hz_X12_isCell hT _ _ rfl) (Or.inl rfl) ?_
            show vP D T N 287 26 (zset (zset h 121 1 (0, 0)) 121 0 (0, 0)) [some (2, 121), some (0, x), some (0, y), some (0, x1), some (0, y1), some (0, n)] [(0, 0)] _
            refine v_if (hz_X12_odds hT _ _ rfl) (fun _ => ?_) (fun hc30 => absurd (show (0 : Int) = 0 from (by omega)) hc30)
            refine v_load (v := (2, 121)) (hz_X12_odds hT _ _ rfl) rfl rfl ?_
            refine v_push (2) (hz_X12_odds hT _ _ rfl) rfl ?_
            refine v_call (w := 2) [some (2, 121), some (0, 2)] hO (hz_X12_odds hT _ _ rfl) rfl rfl ?_
            refine v_load (v := (2, 121)) (hz_X12_no hT _ _ rfl) rfl rfl ?_
            refine v_load (v := (0, 2)) (hz_X12_no hT _ _ rfl) rfl rfl ?_
            refine v_putf (r := 121) hO (hz_X12_no hT _ _ rfl) rfl (fun hf31 => ?_)
            refine v_push (0) (hz_X12_no hT _ _ rfl) rfl ?_
            refine v_ret (hz_X12_no hT _ _ rfl) (Or.inl rfl) ?_
            show vP D T N 287 34 (zset (zset (zset h 121 1 (0, 0)) 121 0 (0, 0)) 121 0 (0, 2)) [some (2, 121), some (0, x), some (0, y), some (0, x1), some (0, y1), some (0, n)] [(0, 0)] _
            refine v_ret (hz_X12_odds hT _ _ rfl) (Or.inl rfl) ?_
            exact k4 hc5 hc9 hc16 hc20 hc28
          · have hc28 : 0 ≤ x1 := Int.not_lt.mp hc28
            refine v_load (v := (1, x1)) (hz_X12_isIn hT _ _ rfl) rfl rfl ?_
            refine v_load (v := (1, ((P 0 0) - 1))) (hz_X12_isIn hT _ _ rfl) rfl rfl ?_
            refine v_lif (hz_X12_isIn hT _ _ rfl) (hz_X12_isIn hT _ _ rfl) (fun hc32 => ?_) (fun hc32 => ?_)
            · have hc32 : ((P 0 0) - 1) < x1 := hc32
              refine v_push (0) (hz_X12_isIn hT _ _ rfl) rfl ?_
              refine v_ret (hz_X12_isIn hT _ _ rfl) (Or.inl rfl) ?_
              show vP D T N 244 15 (zset (zset h 121 1 (0, 0)) 121 0 (0, 0)) [some (2, 121), some (0, x1), some (0, y1)] [(0, 0)] _
              refine v_if (hz_X12_isCell hT _ _ rfl) (fun _ => ?_) (fun hc33 => absurd (show (0 : Int) = 0 from (by omega)) hc33)
              refine v_push (0) (hz_X12_isCell hT _ _ rfl) rfl ?_
              refine v_ret (hz_X12_isCell hT _ _ rfl) (Or.inl rfl) ?_
              show vP D T N 287 26 (zset (zset h 121 1 (0, 0)) 121 0 (0, 0)) [some (2, 121), some (0, x), some (0, y), some (0, x1), some (0, y1), some (0, n)] [(0, 0)] _
              refine v_if (hz_X12_odds hT _ _ rfl) (fun _ => ?_) (fun hc34 => absurd (show (0 : Int) = 0 from (by omega)) hc34)
              refine v_load (v := (2, 121)) (hz_X12_odds hT _ _ rfl) rfl rfl ?_
              refine v_push (2) (hz_X12_odds hT _ _ rfl) rfl ?_
              refine v_call (w := 2) [some (2, 121), some (0, 2)] hO (hz_X12_odds hT _ _ rfl) rfl rfl ?_
              refine v_load (v := (2, 121)) (hz_X12_no hT _ _ rfl) rfl rfl ?_
              refine v_load (v := (0, 2)) (hz_X12_no hT _ _ rfl) rfl rfl ?_
              refine v_putf (r := 121) hO (hz_X12_no hT _ _ rfl) rfl (fun hf35 => ?_)
              refine v_push (0) (hz_X12_no hT _ _ rfl) rfl ?_
              refine v_ret (hz_X12_no hT _ _ rfl) (Or.inl rfl) ?_
              show vP D T N 287 34 (zset (zset (zset h 121 1 (0, 0)) 121 0 (0, 0)) 121 0 (0, 2)) [some (2, 121), some (0, x), some (0, y), some (0, x1), some (0, y1), some (0, n)] [(0, 0)] _
              refine v_ret (hz_X12_odds hT _ _ rfl) (Or.inl rfl) ?_
              exact k5 hc5 hc9 hc16 hc20 hc28 hc32
            · have hc32 : x1 ≤ ((P 0 0) - 1) := Int.not_lt.mp hc32
              refine v_push (1) (hz_X12_isIn hT _ _ rfl) rfl ?_
              refine v_goto (hz_X12_isIn hT _ _ rfl) ?_
              refine v_ret (hz_X12_isIn hT _ _ rfl) (Or.inl rfl) ?_
              show vP D T N 244 15 (zset (zset h 121 1 (0, 0)) 121 0 (0, 0)) [some (2, 121), some (0, x1), some (0, y1)] [(0, 1)] _
              refine v_if (hz_X12_isCell hT _ _ rfl) (fun hc36 => absurd (show (1 : Int) = 0 from hc36) (by omega)) (fun _ => ?_)
              refine v_load (v := (0, y1)) (hz_X12_isCell hT _ _ rfl) rfl rfl ?_
              refine v_i2l (hz_X12_isCell hT _ _ rfl) ?_
              refine v_push (0) (hz_X12_isCell hT _ _ rfl) rfl ?_
              refine v_load (v := (2, 121)) (hz_X12_isCell hT _ _ rfl) rfl rfl ?_
              refine v_getR (c := 126) (r := 121) (hz_X12_isCell hT _ _ rfl) rfl rfl rfl ?_
              refine v_push (1) (hz_X12_isCell hT _ _ rfl) rfl ?_
              refine v_aldV (v := (0, (P 0 1))) (r := 126) (hz_X12_isCell hT _ _ rfl) rfl rfl (fun _ _ _ => (Eq.trans (Eq.trans (zset_ne (fun c => absurd c.1 (by decide))) (zset_ne (fun c => absurd c.1 (by decide)))) (g1))) (fun ha37 hb38 => ?_)
              refine v_push (1) (hz_X12_isCell hT _ _ rfl) rfl ?_
              refine v_bin (w := ((P 0 1) - 1)) (hz_X12_isCell hT _ _ rfl) (hq_sub (by omega) (by omega)) ?_
              refine v_i2l (hz_X12_isCell hT _ _ rfl) ?_
              refine v_call (w := 6) [some (1, y1), none, some (1, 0), none, some (1, ((P 0 1) - 1)), none] hO (hz_X12_isCell hT _ _ rfl) rfl rfl ?_
              refine v_load (v := (1, y1)) (hz_X12_isIn hT _ _ rfl) rfl rfl ?_
              refine v_load (v := (1, 0)) (hz_X12_isIn hT _ _ rfl) rfl rfl ?_
              refine v_lif (hz_X12_isIn hT _ _ rfl) (hz_X12_isIn hT _ _ rfl) (fun hc39 => ?_) (fun hc39 => ?_)
              · have hc39 : y1 < 0 := hc39
                refine v_push (0) (hz_X12_isIn hT _ _ rfl) rfl ?_
                refine v_ret (hz_X12_isIn hT _ _ rfl) (Or.inl rfl) ?_
                show vP D T N 244 33 (zset (zset h 121 1 (0, 0)) 121 0 (0, 0)) [some (2, 121), some (0, x1), some (0, y1)] [(0, 0)] _
                refine v_if (hz_X12_isCell hT _ _ rfl) (fun _ => ?_) (fun hc40 => absurd (show (0 : Int) = 0 from (by omega)) hc40)
                refine v_push (0) (hz_X12_isCell hT _ _ rfl) rfl ?_
                refine v_ret (hz_X12_isCell hT _ _ rfl) (Or.inl rfl) ?_
                show vP D T N 287 26 (zset (zset h 121 1 (0, 0)) 121 0 (0, 0)) [some (2, 121), some (0, x), some (0, y), some (0, x1), some (0, y1), some (0, n)] [(0, 0)] _
                refine v_if (hz_X12_odds hT _ _ rfl) (fun _ => ?_) (fun hc41 => absurd (show (0 : Int) = 0 from (by omega)) hc41)
                refine v_load (v := (2, 121)) (hz_X12_odds hT _ _ rfl) rfl rfl ?_
                refine v_push (2) (hz_X12_odds hT _ _ rfl) rfl ?_
                refine v_call (w := 2) [some (2, 121), some (0, 2)] hO (hz_X12_odds hT _ _ rfl) rfl rfl ?_
                refine v_load (v := (2, 121)) (hz_X12_no hT _ _ rfl) rfl rfl ?_
                refine v_load (v := (0, 2)) (hz_X12_no hT _ _ rfl) rfl rfl ?_
                refine v_putf (r := 121) hO (hz_X12_no hT _ _ rfl) rfl (fun hf42 => ?_)
                refine v_push (0) (hz_X12_no hT _ _ rfl) rfl ?_
                refine v_ret (hz_X12_no hT _ _ rfl) (Or.inl rfl) ?_
                show vP D T N 287 34 (zset (zset (zset h 121 1 (0, 0)) 121 0 (0, 0)) 121 0 (0, 2)) [some (2, 121), some (0, x), some (0, y), some (0, x1), some (0, y1), some (0, n)] [(0, 0)] _
                refine v_ret (hz_X12_odds hT _ _ rfl) (Or.inl rfl) ?_
                exact k6 hc5 hc9 hc16 hc20 hc28 hc32 hc39
              · have hc39 : 0 ≤ y1 := Int.not_lt.mp hc39
                refine v_load (v := (1, y1)) (hz_X12_isIn hT _ _ rfl) rfl rfl ?_
                refine v_load (v := (1, ((P 0 1) - 1))) (hz_X12_isIn hT _ _ rfl) rfl rfl ?_
                refine v_lif (hz_X12_isIn hT _ _ rfl) (hz_X12_isIn hT _ _ rfl) (fun hc43 => ?_) (fun hc43 => ?_)
                · have hc43 : ((P 0 1) - 1) < y1 := hc43
                  refine v_push (0) (hz_X12_isIn hT _ _ rfl) rfl ?_
                  refine v_ret (hz_X12_isIn hT _ _ rfl) (Or.inl rfl) ?_
                  show vP D T N 244 33 (zset (zset h 121 1 (0, 0)) 121 0 (0, 0)) [some (2, 121), some (0, x1), some (0, y1)] [(0, 0)] _
                  refine v_if (hz_X12_isCell hT _ _ rfl) (fun _ => ?_) (fun hc44 => absurd (show (0 : Int) = 0 from (by omega)) hc44)
                  refine v_push (0) (hz_X12_isCell hT _ _ rfl) rfl ?_
                  refine v_ret (hz_X12_isCell hT _ _ rfl) (Or.inl rfl) ?_
                  show vP D T N 287 26 (zset (zset h 121 1 (0, 0)) 121 0 (0, 0)) [some (2, 121), some (0, x), some (0, y), some (0, x1), some (0, y1), some (0, n)] [(0, 0)] _
                  refine v_if (hz_X12_odds hT _ _ rfl) (fun _ => ?_) (fun hc45 => absurd (show (0 : Int) = 0 from (by omega)) hc45)
                  refine v_load (v := (2, 121)) (hz_X12_odds hT _ _ rfl) rfl rfl ?_
                  refine v_push (2) (hz_X12_odds hT _ _ rfl) rfl ?_
                  refine v_call (w := 2) [some (2, 121), some (0, 2)] hO (hz_X12_odds hT _ _ rfl) rfl rfl ?_
                  refine v_load (v := (2, 121)) (hz_X12_no hT _ _ rfl) rfl rfl ?_
                  refine v_load (v := (0, 2)) (hz_X12_no hT _ _ rfl) rfl rfl ?_
                  refine v_putf (r := 121) hO (hz_X12_no hT _ _ rfl) rfl (fun hf46 => ?_)
                  refine v_push (0) (hz_X12_no hT _ _ rfl) rfl ?_
                  refine v_ret (hz_X12_no hT _ _ rfl) (Or.inl rfl) ?_
                  show vP D T N 287 34 (zset (zset (zset h 121 1 (0, 0)) 121 0 (0, 0)) 121 0 (0, 2)) [some (2, 121), some (0, x), some (0, y), some (0, x1), some (0, y1), some (0, n)] [(0, 0)] _
                  refine v_ret (hz_X12_odds hT _ _ rfl) (Or.inl rfl) ?_
                  exact k7 hc5 hc9 hc16 hc20 hc28 hc32 hc39 hc43
                · have hc43 : y1 ≤ ((P 0 1) - 1) := Int.not_lt.mp hc43
                  refine v_push (1) (hz_X12_isIn hT _ _ rfl) rfl ?_
                  refine v_goto (hz_X12_isIn hT _ _ rfl) ?_
                  refine v_ret (hz_X12_isIn hT _ _ rfl) (Or.inl rfl) ?_
                  show vP D T N 244 33 (zset (zset h 121 1 (0, 0)) 121 0 (0, 0)) [some (2, 121), some (0, x1), some (0, y1)] [(0, 1)] _
                  refine v_if (hz_X12_isCell hT _ _ rfl) (fun hc47 => absurd (show (1 : Int) = 0 from hc47) (by omega)) (fun _ => ?_)
                  refine v_push (1) (hz_X12_isCell hT _ _ rfl) rfl ?_
                  refine v_goto (hz_X12_isCell hT _ _ rfl) ?_
                  refine v_ret (hz_X12_isCell hT _ _ rfl) (Or.inl rfl) ?_
                  show vP D T N 287 26 (zset (zset h 121 1 (0, 0)) 121 0 (0, 0)) [some (2, 121), some (0, x), some (0, y), some (0, x1), some (0, y1), some (0, n)] [(0, 1)] _
                  refine v_if (hz_X12_odds hT _ _ rfl) (fun hc48 => absurd (show (1 : Int) = 0 from hc48) (by omega)) (fun _ => ?_)
                  refine v_load (v := (0, n)) (hz_X12_odds hT _ _ rfl) rfl rfl ?_
                  refine v_i2l (hz_X12_odds hT _ _ rfl) ?_
                  refine v_push (0) (hz_X12_odds hT _ _ rfl) rfl ?_
                  refine v_push (12) (hz_X12_odds hT _ _ rfl) rfl ?_
                  refine v_call (w := 6) [some (1, n), none, some (1, 0), none, some (1, 12), none] hO (hz_X12_odds hT _ _ rfl) rfl rfl ?_
                  refine v_load (v := (1, n)) (hz_X12_isIn hT _ _ rfl) rfl rfl ?_
                  refine v_load (v := (1, 0)) (hz_X12_isIn hT _ _ rfl) rfl rfl ?_
                  refine v_lif (hz_X12_isIn hT _ _ rfl) (hz_X12_isIn hT _ _ rfl) (fun hc49 => ?_) (fun hc49 => ?_)
                  · have hc49 : n < 0 := hc49
                    refine v_push (0) (hz_X12_isIn hT _ _ rfl) rfl ?_
                    refine v_ret (hz_X12_isIn hT _ _ rfl) (Or.inl rfl) ?_
                    show vP D T N 287 45 (zset (zset h 121 1 (0, 0)) 121 0 (0, 0)) [some (2, 121), some (0, x), some (0, y), some (0, x1), some (0, y1), some (0, n)] [(0, 0)] _
                    refine v_if (hz_X12_odds hT _ _ rfl) (fun _ => ?_) (fun hc50 => absurd (show (0 : Int) = 0 from (by omega)) hc50)
                    refine v_load (v := (2, 121)) (hz_X12_odds hT _ _ rfl) rfl rfl ?_
                    refine v_push (5) (hz_X12_odds hT _ _ rfl) rfl ?_
                    refine v_call (w := 2) [some (2, 121), some (0, 5)] hO (hz_X12_odds hT _ _ rfl) rfl rfl ?_
                    refine v_load (v := (2, 121)) (hz_X12_no hT _ _ rfl) rfl rfl ?_
                    refine v_load (v := (0, 5)) (hz_X12_no hT _ _ rfl) rfl rfl ?_
                    refine v_putf (r := 121) hO (hz_X12_no hT _ _ rfl) rfl (fun hf51 => ?_)
                    refine v_push (0) (hz_X12_no hT _ _ rfl) rfl ?_
                    refine v_ret (hz_X12_no hT _ _ rfl) (Or.inl rfl) ?_
                    show vP D T N 287 53 (zset (zset (zset h 121 1 (0, 0)) 121 0 (0, 0)) 121 0 (0, 5)) [some (2, 121), some (0, x), some (0, y), some (0, x1), some (0, y1), some (0, n)] [(0, 0)] _
                    refine v_ret (hz_X12_odds hT _ _ rfl) (Or.inl rfl) ?_
                    exact k8 hc5 hc9 hc16 hc20 hc28 hc32 hc39 hc43 hc49
                  · have hc49 : 0 ≤ n := Int.not_lt.mp hc49
                    refine v_load (v := (1, n)) (hz_X12_isIn hT _ _ rfl) rfl rfl ?_
                    refine v_load (v := (1, 12)) (hz_X12_isIn hT _ _ rfl) rfl rfl ?_
                    refine v_lif (hz_X12_isIn hT _ _ rfl) (hz_X12_isIn hT _ _ rfl) (fun hc52 => ?_) (fun hc52 => ?_)
                    · have hc52 : 12 < n := hc52
                      refine v_push (0) (hz_X12_isIn hT _ _ rfl) rfl ?_
                      refine v_ret (hz_X12_isIn hT _ _ rfl) (Or.inl rfl) ?_
                      show vP D T N 287 45 (zset (zset h 121 1 (0, 0)) 121 0 (0, 0)) [some (2, 121), some (0, x), some (0, y), some (0, x1), some (0, y1), some (0, n)] [(0, 0)] _
                      refine v_if (hz_X12_odds hT _ _ rfl) (fun _ => ?_) (fun hc53 => absurd (show (0 : Int) = 0 from (by omega)) hc53)
                      refine v_load (v := (2, 121)) (hz_X12_odds hT _ _ rfl) rfl rfl ?_
                      refine v_push (5) (hz_X12_odds hT _ _ rfl) rfl ?_
                      refine v_call (w := 2) [some (2, 121), some (0, 5)] hO (hz_X12_odds hT _ _ rfl) rfl rfl ?_
                      refine v_load (v := (2, 121)) (hz_X12_no hT _ _ rfl) rfl rfl ?_
                      refine v_load (v := (0, 5)) (hz_X12_no hT _ _ rfl) rfl rfl ?_
                      refine v_putf (r := 121) hO (hz_X12_no hT _ _ rfl) rfl (fun hf54 => ?_)
                      refine v_push (0) (hz_X12_no hT _ _ rfl) rfl ?_
                      refine v_ret (hz_X12_no hT _ _ rfl) (Or.inl rfl) ?_
                      show vP D T N 287 53 (zset (zset (zset h 121 1 (0, 0)) 121 0 (0, 0)) 121 0 (0, 5)) [some (2, 121), some (0, x), some (0, y), some (0, x1), some (0, y1), some (0, n)] [(0, 0)] _
                      refine v_ret (hz_X12_odds hT _ _ rfl) (Or.inl rfl) ?_
                      exact k9 hc5 hc9 hc16 hc20 hc28 hc32 hc39 hc43 hc49 hc52
                    · have hc52 : n ≤ 12 := Int.not_lt.mp hc52
                      refine v_push (1) (hz_X12_isIn hT _ _ rfl) rfl ?_
                      refine v_goto (hz_X12_isIn hT _ _ rfl) ?_
                      refine v_ret (hz_X12_isIn hT _ _ rfl) (Or.inl rfl) ?_
                      show vP D T N 287 45 (zset (zset h 121 1 (0, 0)) 121 0 (0, 0)) [some (2, 121), some (0, x), some (0, y), some (0, x1), some (0, y1), some (0, n)] [(0, 1)] _
                      refine v_if (hz_X12_odds hT _ _ rfl) (fun hc55 => absurd (show (1 : Int) = 0 from hc55) (by omega)) (fun _ => ?_)
                      refine v_load (v := (2, 121)) (hz_X12_odds hT _ _ rfl) rfl rfl ?_
                      refine v_load (v := (0, n)) (hz_X12_odds hT _ _ rfl) rfl rfl ?_
                      refine v_call (w := 4) [some (0, n), none, none, none] hO (hz_X12_odds hT _ _ rfl) rfl rfl (vKU_k (hL _ n _ (oH.seti (oH.seti hU))) (fun g56 z56 u56 => ?_))
                      · show vP D T N 287 60 g56 [some (2, 121), some (0, x), some (0, y), some (0, x1), some (0, y1), some (0, n)] [(1, z56), (2, 121)] _
                        refine vP_hv (fun hv56 => ?_)
                        refine v_load (v := (2, 121)) (hz_X12_odds hT _ _ rfl) rfl rfl ?_
                        refine v_load (v := (2, 121)) (hz_X12_odds hT _ _ rfl) rfl rfl ?_
                        refine v_load (v := (0, x)) (hz_X12_odds hT _ _ rfl) rfl rfl ?_
                        refine v_load (v := (0, y)) (hz_X12_odds hT _ _ rfl) rfl rfl ?_
                        refine v_call (w := 3) [some (2, 121), some (0, x), some (0, y)] hO (hz_X12_odds hT _ _ rfl) rfl rfl ?_
                        refine v_load (v := (2, 121)) (hz_X12_at2 hT _ _ rfl) rfl rfl ?_
                        refine v_getR (c := 126) (r := 121) (hz_X12_at2 hT _ _ rfl) rfl rfl rfl ?_
                        refine v_push (0) (hz_X12_at2 hT _ _ rfl) rfl ?_
                        refine v_aldV (v := (0, (P 0 0))) (r := 126) (hz_X12_at2 hT _ _ rfl) rfl rfl (fun _ _ _ => (Eq.trans (u56 0) (Eq.trans (Eq.trans (zset_ne (fun c => absurd c.1 (by decide))) (zset_ne (fun c => absurd c.1 (by decide)))) (g0)))) (fun ha57 hb58 => ?_)
                        refine v_load (v := (0, y)) (hz_X12_at2 hT _ _ rfl) rfl rfl ?_
                        refine v_bin (w := ((P 0 0) * y)) (hz_X12_at2 hT _ _ rfl) (hq_mul (by omega) (by omega)) ?_
                        refine v_load (v := (0, x)) (hz_X12_at2 hT _ _ rfl) rfl rfl ?_
                        refine v_bin (w := (((P 0 0) * y) + x)) (hz_X12_at2 hT _ _ rfl) (hq_add (by omega) (by omega)) ?_
                        refine v_ret (hz_X12_at2 hT _ _ rfl) (Or.inl rfl) ?_
                        show vP D T N 287 67 g56 [some (2, 121), some (0, x), some (0, y), some (0, x1), some (0, y1), some (0, n)] [(0, (((P 0 0) * y) + x)), (2, 121), (1, z56), (2, 121)] _
                        refine v_load (v := (2, 121)) (hz_X12_odds hT _ _ rfl) rfl rfl ?_
                        refine v_load (v := (0, x1)) (hz_X12_odds hT _ _ rfl) rfl rfl ?_
                        refine v_load (v := (0, y1)) (hz_X12_odds hT _ _ rfl) rfl rfl ?_
                        refine v_call (w := 3) [some (2, 121), some (0, x1), some (0, y1)] hO (hz_X12_odds hT _ _ rfl) rfl rfl ?_
                        refine v_load (v := (2, 121)) (hz_X12_at2 hT _ _ rfl) rfl rfl ?_
                        refine v_getR (c := 126) (r := 121) (hz_X12_at2 hT _ _ rfl) rfl rfl rfl ?_
                        refine v_push (0) (hz_X12_at2 hT _ _ rfl) rfl ?_
                        refine v_aldV (v := (0, (P 0 0))) (r := 126) (hz_X12_at2 hT _ _ rfl) rfl rfl (fun _ _ _ => (Eq.trans (u56 0) (Eq.trans (Eq.trans (zset_ne (fun c => absurd c.1 (by decide))) (zset_ne (fun c => absurd c.1 (by decide)))) (g0)))) (fun ha59 hb60 => ?_)
                        refine v_load (v := (0, y1)) (hz_X12_at2 hT _ _ rfl) rfl rfl ?_
                        refine v_bin (w := ((P 0 0) * y1)) (hz_X12_at2 hT _ _ rfl) (hq_mul (by omega) (by omega)) ?_
                        refine v_load (v := (0, x1)) (hz_X12_at2 hT _ _ rfl) rfl rfl ?_
                        refine v_bin (w := (((P 0 0) * y1) + x1)) (hz_X12_at2 hT _ _ rfl) (hq_add (by omega) (by omega)) ?_
                        refine v_ret (hz_X12_at2 hT _ _ rfl) (Or.inl rfl) ?_
                        show vP D T N 287 74 g56 [some (2, 121), some (0, x), some (0, y), some (0, x1), some (0, y1), some (0, n)] [(0, (((P 0 0) * y1) + x1)), (0, (((P 0 0) * y) + x)), (2, 121), (1, z56), (2, 121)] _
                        refine v_load (v := (0, n)) (hz_X12_odds hT _ _ rfl) rfl rfl ?_
                        refine v_call (w := 8) [some (2, 121), some (0, (((P 0 0) * y) + x)), some (0, (((P 0 0) * y1) + x1)), some (0, n), none, none, none, none] hO (hz_X12_odds hT _ _ rfl) rfl rfl (vK2_k (hW _ _ _) (fun g61 z61 => ?_))
                        · show vP D T N 287 79 g61 [some (2, 121), some (0, x), some (0, y), some (0, x1), some (0, y1), some (0, n)] [(1, z61), (1, z56), (2, 121)] _
                          refine vP_hv (fun hv61 => ?_)
                          refine v_bin64 (w := ((zf64 1 (Int64.ofInt z56) (Int64.ofInt z61)).toInt)) (hz_X12_odds hT _ _ rfl) rfl ?_
                          refine v_load (v := (0, n)) (hz_X12_odds hT _ _ rfl) rfl rfl ?_
                          refine v_call (w := 4) [some (0, n), none, none, none] hO (hz_X12_odds hT _ _ rfl) rfl rfl (vK2_k (hL2 _ _ _) (fun g62 z62 => ?_))
                          · show vP D T N 287 85 g62 [some (2, 121), some (0, x), some (0, y), some (0, x1), some (0, y1), some (0, n)] [(1, z62), (1, ((zf64 1 (Int64.ofInt z56) (Int64.ofInt z61)).toInt)), (2, 121)] _
                            refine vP_hv (fun hv62 => ?_)
                            refine v_call (w := 11) [some (2, 121), some (1, ((zf64 1 (Int64.ofInt z56) (Int64.ofInt z61)).toInt)), none, some (1, z62), none, none, none, none, none, none, none] hO (hz_X12_odds hT _ _ rfl) rfl rfl (vFr_k (hFr _ (((zf64 1 (Int64.ofInt z56) (Int64.ofInt z61)).toInt)) z62 _) (fun g63 u63 => ?_))
                            · show vP D T N 287 88 g63 [some (2, 121), some (0, x), some (0, y), some (0, x1), some (0, y1), some (0, n)] [(0, 1)] _
                              refine vP_hv (fun hv63 => ?_)
                              refine v_ret (hz_X12_odds hT _ _ rfl) (Or.inl rfl) ?_
                              exact k10 hc5 hc9 hc16 hc20 hc28 hc32 hc39 hc43 hc49 hc52 g56 z56 u56 g61 z61 g62 z62 g63 u63
theorem fo_fw : fwOK (inS [(229, 0)]) 99 0 TLw := fwOK_of (by decide +kernel)
theorem fo_gu : guOK (inS [(229, 0)]) 12 20 TLw := guOK_of (by decide +kernel)
theorem rx_fours {D : zD} (N : Nat) (m : Int) (g : zH) (hU : oH 126 121 20 g) : vP D TLw N 229 0 g [some (0, m), none, none, none] [] (fun r => rtK 2 r.2 ∧ ∀ j, r.1 126 j = g 126 j) := by
  refine vP_Q (fun r hr => ⟨hr.1, hr.2.2⟩) (vP_and (vP_rt (b := 2) zt_X12_fours rfl (by decide +kernel) (by decide)) (vP_un (u := 126) (k0 := 20) (r0 := 121) (w := 48) rfl vOK_T fo_fw fo_gu (by decide) hU (fun i v h => ?_) oS_nil))
  match i, h with
  | 0, h => cases h; exact oV_0
  | 1, h => cases h
  | 2, h => cases h
  | 3, h => cases h
  | i + 4, h => cases h
theorem lRk_odds {D : zD} (hD : ∀ i, -2147483648 ≤ D.2 i ∧ D.2 i ≤ 2147483647) {h h1 h2 : zH} {x y x1 y1 n v1 v2 : Int} (hZ : lZ D h) (hZ1 : lZ D h1) (hR : lR h) (z1 : zRun D TLw 614 169 0 (h, zargs 0 [(2, 0), (0, x), (0, y), (0, x1), (0, y1), (0, n)], []) (h1, some (0, v1))) (f1 : aFr lM_169 h h1) (z2 : zRun D TLw 614 287 0 (h1, zargs 0 [(2, 121), (0, x), (0, y), (0, x1), (0, y1), (0, n)], []) (h2, some (0, v2))) (f2 : aFr lM_287 h1 h2) : lR h2 ∧ v1 = v2 := by
  refine ⟨lR_S.fr (M := lM_287) (by decide +kernel) f2 (lR_S.fr (M := lM_169) (by decide +kernel) f1 hR), ?_⟩
  obtain ⟨r, c, P, hc, e7, e8, gc, gr, lb, go⟩ := hR.at f1 (by decide +kernel)
  have a1 : v1 = (if 0 ≤ x ∧ x < P 0 0 ∧ 0 ≤ y ∧ y < P 0 1 ∧ 0 ≤ x1 ∧ x1 < P 0 0 ∧ 0 ≤ y1 ∧ y1 < P 0 1 ∧ 0 ≤ n ∧ n ≤ 12 then 1 else 0) := by
    refine sv_i (hZ.run 8 z1 (Q := fun x_ => x_.2 = some (0, (if 0 ≤ x ∧ x < P 0 0 ∧ 0 ≤ y ∧ y < P 0 1 ∧ 0 ≤ x1 ∧ x1 < P 0 0 ∧ 0 ≤ y1 ∧ y1 < P 0 1 ∧ 0 ≤ n ∧ n ≤ 12 then 1 else 0))) (fun N => vP_hv (fun hv => ?_)))
    rcases hc with ⟨rfl, rfl⟩ | ⟨rfl, rfl⟩
    · refine qc_odds_24 TLw_T vOK_T x y x1 y1 n hv e7 gc.1.1 gc.1.2.1 gc.1.2.2.1 gc.1.2.2.2 lb (fun _ _ _ => vP_rt (b := 2) zt_X4_allWalks rfl (by decide +kernel) (by decide)) (fun _ _ _ => vP_rt (b := 2) zt_X4_walksThrough rfl (by decide +kernel) (by decide)) (fun _ _ _ => vP_rt (b := 0) zt_X11_tellFraction rfl (by decide +kernel) (by decide)) ?_ ?_ ?_ ?_ ?_ ?_ ?_ ?_ ?_ ?_ ?_ <;> (intros; exact sv (by omega))
    · refine qc_odds_39 TLw_T vOK_T x y x1 y1 n hv e7 gc.1.1 gc.1.2.1 gc.1.2.2.1 gc.1.2.2.2 lb (fun _ _ _ => vP_rt (b := 2) zt_X4_allWalks rfl (by decide +kernel) (by decide)) (fun _ _ _ => vP_rt (b := 2) zt_X4_walksThrough rfl (by decide +kernel) (by decide)) (fun _ _ _ => vP_rt (b := 0) zt_X11_tellFraction rfl (by decide +kernel) (by decide)) ?_ ?_ ?_ ?_ ?_ ?_ ?_ ?_ ?_ ?_ ?_ <;> (intros; exact sv (by omega))
  have a2 : v2 = (if 0 ≤ x ∧ x < P 0 0 ∧ 0 ≤ y ∧ y < P 0 1 ∧ 0 ≤ x1 ∧ x1 < P 0 0 ∧ 0 ≤ y1 ∧ y1 < P 0 1 ∧ 0 ≤ n ∧ n ≤ 12 then 1 else 0) := by
    refine sv_i (hZ1.run 6 z2 (Q := fun x_ => x_.2 = some (0, (if 0 ≤ x ∧ x < P 0 0 ∧ 0 ≤ y ∧ y < P 0 1 ∧ 0 ≤ x1 ∧ x1 < P 0 0 ∧ 0 ≤ y1 ∧ y1 < P 0 1 ∧ 0 ≤ n ∧ n ≤ 12 then 1 else 0))) (fun N => vP_hv (fun hv => ?_)))
    refine qr_odds TLw_T vOK_T x y x1 y1 n hv gr.1.1 gr.1.2.1 gr.1.2.2.1 gr.1.2.2.2 lb (lI.outc (show lI aG1 D Fl0 lQs h1 from hZ1)) rx_fours (fun _ _ _ => vP_rt (b := 2) zt_X12_fours rfl (by decide +kernel) (by decide)) (fun _ _ _ => vP_rt (b := 2) zt_X12_avoids rfl (by decide +kernel) (by decide)) (fun N t b g => rx_frac TLw_T vOK_T t b) (hxy lb.1.1 lb.1.2) (hxy lb.1.1 lb.1.2) ?_ ?_ ?_ ?_ ?_ ?_ ?_ ?_ ?_ ?_ ?_ <;> (intros; exact sv (by omega))
  rw [a1, a2]
end
