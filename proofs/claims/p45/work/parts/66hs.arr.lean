theorem lQA_of {D : zD} {h : zH} (hZ : lZ D h) (e7 : h 0 7 = (2, ((24 : Nat) : Int))) (e8 : h 0 8 = (2, ((39 : Nat) : Int))) : lI aG1 D Fl0 lQA h := by
  obtain ⟨q, hq, ρ, g⟩ := hZ
  have hq : q = lQ_0 ∨ q = lQ_1 ∨ q = lQ_2 ∨ q = lQ_3 := by simpa only [lQs, List.mem_cons, List.not_mem_nil, or_false] using hq
  rcases hq with rfl | rfl | rfl | rfl
  · exact ⟨lQA_0, List.mem_cons_self, ρ, ⟨g.1, g.2.1, List.forall_mem_cons.mpr ⟨⟨Nat.zero_le _, (show (0 : Int) ≤ 7 from by decide), Nat.zero_le _, e7⟩, List.forall_mem_cons.mpr ⟨⟨Nat.zero_le _, (show (0 : Int) ≤ 8 from by decide), Nat.zero_le _, e8⟩, g.2.2.1⟩⟩, g.2.2.2.1, g.2.2.2.2.1, g.2.2.2.2.2⟩⟩
  · exact ⟨lQA_1, (List.mem_cons_of_mem _ List.mem_cons_self), ρ, ⟨g.1, g.2.1, List.forall_mem_cons.mpr ⟨⟨Nat.zero_le _, (show (0 : Int) ≤ 7 from by decide), Nat.zero_le _, e7⟩, List.forall_mem_cons.mpr ⟨⟨Nat.zero_le _, (show (0 : Int) ≤ 8 from by decide), Nat.zero_le _, e8⟩, g.2.2.1⟩⟩, g.2.2.2.1, g.2.2.2.2.1, g.2.2.2.2.2⟩⟩
  · exact ⟨lQA_2, (List.mem_cons_of_mem _ (List.mem_cons_of_mem _ List.mem_cons_self)), ρ, ⟨g.1, g.2.1, List.forall_mem_cons.mpr ⟨⟨Nat.zero_le _, (show (0 : Int) ≤ 7 from by decide), Nat.zero_le _, e7⟩, List.forall_mem_cons.mpr ⟨⟨Nat.zero_le _, (show (0 : Int) ≤ 8 from by decide), Nat.zero_le _, e8⟩, g.2.2.1⟩⟩, g.2.2.2.1, g.2.2.2.2.1, g.2.2.2.2.2⟩⟩
  · exact ⟨lQA_3, (List.mem_cons_of_mem _ (List.mem_cons_of_mem _ (List.mem_cons_of_mem _ List.mem_cons_self))), ρ, ⟨g.1, g.2.1, List.forall_mem_cons.mpr ⟨⟨Nat.zero_le _, (show (0 : Int) ≤ 7 from by decide), Nat.zero_le _, e7⟩, List.forall_mem_cons.mpr ⟨⟨Nat.zero_le _, (show (0 : Int) ≤ 8 from by decide), Nat.zero_le _, e8⟩, g.2.2.1⟩⟩, g.2.2.2.1, g.2.2.2.2.1, g.2.2.2.2.2⟩⟩
theorem lQB_of {D : zD} {h : zH} (hZ : lZ D h) (e7 : h 0 7 = (2, ((39 : Nat) : Int))) (e8 : h 0 8 = (2, ((24 : Nat) : Int))) : lI aG1 D Fl0 lQB h := by
  obtain ⟨q, hq, ρ, g⟩ := hZ
  have hq : q = lQ_0 ∨ q = lQ_1 ∨ q = lQ_2 ∨ q = lQ_3 := by simpa only [lQs, List.mem_cons, List.not_mem_nil, or_false] using hq
  rcases hq with rfl | rfl | rfl | rfl
  · exact ⟨lQB_0, List.mem_cons_self, ρ, ⟨g.1, g.2.1, List.forall_mem_cons.mpr ⟨⟨Nat.zero_le _, (show (0 : Int) ≤ 7 from by decide), Nat.zero_le _, e7⟩, List.forall_mem_cons.mpr ⟨⟨Nat.zero_le _, (show (0 : Int) ≤ 8 from by decide), Nat.zero_le _, e8⟩, g.2.2.1⟩⟩, g.2.2.2.1, g.2.2.2.2.1, g.2.2.2.2.2⟩⟩
  · exact ⟨lQB_1, (List.mem_cons_of_mem _ List.mem_cons_self), ρ, ⟨g.1, g.2.1, List.forall_mem_cons.mpr ⟨⟨Nat.zero_le _, (show (0 : Int) ≤ 7 from by decide), Nat.zero_le _, e7⟩, List.forall_mem_cons.mpr ⟨⟨Nat.zero_le _, (show (0 : Int) ≤ 8 from by decide), Nat.zero_le _, e8⟩, g.2.2.1⟩⟩, g.2.2.2.1, g.2.2.2.2.1, g.2.2.2.2.2⟩⟩
  · exact ⟨lQB_2, (List.mem_cons_of_mem _ (List.mem_cons_of_mem _ List.mem_cons_self)), ρ, ⟨g.1, g.2.1, List.forall_mem_cons.mpr ⟨⟨Nat.zero_le _, (show (0 : Int) ≤ 7 from by decide), Nat.zero_le _, e7⟩, List.forall_mem_cons.mpr ⟨⟨Nat.zero_le _, (show (0 : Int) ≤ 8 from by decide), Nat.zero_le _, e8⟩, g.2.2.1⟩⟩, g.2.2.2.1, g.2.2.2.2.1, g.2.2.2.2.2⟩⟩
  · exact ⟨lQB_3, (List.mem_cons_of_mem _ (List.mem_cons_of_mem _ (List.mem_cons_of_mem _ List.mem_cons_self))), ρ, ⟨g.1, g.2.1, List.forall_mem_cons.mpr ⟨⟨Nat.zero_le _, (show (0 : Int) ≤ 7 from by decide), Nat.zero_le _, e7⟩, List.forall_mem_cons.mpr ⟨⟨Nat.zero_le _, (show (0 : Int) ≤ 8 from by decide), Nat.zero_le _, e8⟩, g.2.2.1⟩⟩, g.2.2.2.1, g.2.2.2.2.1, g.2.2.2.2.2⟩⟩
theorem arr_b {D : zD} (hD : ∀ i, -2147483648 ≤ D.2 i ∧ D.2 i ≤ 2147483647) {h h1 : zH} {x y z : Nat} {v1 : Int} {M : aM} {qs : List aQ} (hck : a_all (lCk (aG0 aG1) sLaw 614 143 0 [0, 0, 0] 0 M lQs) qs = true) (hI : lI aG1 D Fl0 qs h) (z1 : zRun D TLw 614 143 0 (h, zargs 0 [(2, 0), (0, D.2 x), (0, D.2 y), (0, D.2 z)], []) (h1, some (0, v1))) : aFr M h h1 := by
  obtain ⟨g, w, zr, _, f⟩ := lCallZ hD hck hI (bs := [(0, D.2 x), (0, D.2 y), (0, D.2 z)]) ⟨⟨rfl, hD _⟩, ⟨rfl, hD _⟩, ⟨rfl, hD _⟩, trivial⟩
  have e := zRun_det z1 zr
  have e1 : h1 = g := congrArg Prod.fst e
  rw [e1]
  exact f
abbrev tpX (c : Nat) : aM := tp0 ++ (cLs c ++ (cLs 55 ++ (cLs 70 ++ (cLs 85 ++ bAll))))
theorem tpX_m {c m : Nat} (hm : m < 3) : ∀ e ∈ cLs (55 + 15 * m), e ∈ tpX c := by
  have : m = 0 ∨ m = 1 ∨ m = 2 := by omega
  rcases this with rfl | rfl | rfl
  · exact fun e he => List.mem_append_right _ (List.mem_append_right _ (List.mem_append_left _ he))
  · exact fun e he => List.mem_append_right _ (List.mem_append_right _ (List.mem_append_right _ (List.mem_append_left _ he)))
  · exact fun e he => List.mem_append_right _ (List.mem_append_right _ (List.mem_append_right _ (List.mem_append_right _ (List.mem_append_left _ he))))
theorem lR_arr {h h1 h2 : zH} {r c : Nat} (hR : lR h) (s1 : lSw r c) (s2 : h 0 7 = (2, (c : Int))) (k1 : ∀ a k, aIn (tpX c) a k → h1 a k = h a k) (k2 : ∀ a k, aIn (tp0 ++ (cAll ++ (bLs 1 ++ (bLs 2 ++ (bLs 3 ++ [(126, 275, 275), (128, 0, 5)]))))) a k → h2 a k = h1 a k) (k3 : ∀ j, j < 275 → h2 126 j = h1 126 j) : lR h2 := by
  obtain ⟨hT, hF, hM, r', c', t1, t2, t3, hL⟩ := hR
  have ec : c' = c := by
    rw [s2] at t2
    have := congrArg Prod.snd t2
    have : (c : Int) = (c' : Int) := this
    omega
  subst ec
  have h0 : ∀ a k, aIn tp0 a k → h2 a k = h a k := fun a k ⟨e, he, x⟩ => (k2 a k ⟨e, List.mem_append_left _ he, x⟩).trans (k1 a k ⟨e, List.mem_append_left _ he, x⟩)
  have kc : ∀ d, cOb d → (∀ e ∈ cLs d, e ∈ tpX c') → cK d d h h2 := fun d hd hx => (cK_S k1 hx).trans (cK_S k2 (fun e he => List.mem_append_right _ (List.mem_append_left _ (cAll_in hd e he))))
  have kb1 : ∀ b, b < 4 → bK b b h h1 := fun b hb => bK_S k1 (fun e he => List.mem_append_right _ (List.mem_append_right _ (List.mem_append_right _ (List.mem_append_right _ (List.mem_append_right _ (bAll_in hb e he))))))
  have kb2 : ∀ m, m < 3 → bK (m + 1) (m + 1) h1 h2 := fun m hm => by
    have : m = 0 ∨ m = 1 ∨ m = 2 := by omega
    rcases this with rfl | rfl | rfl
    · exact bK_S k2 (fun e he => List.mem_append_right _ (List.mem_append_right _ (List.mem_append_left _ he)))
    · exact bK_S k2 (fun e he => List.mem_append_right _ (List.mem_append_right _ (List.mem_append_right _ (List.mem_append_left _ he))))
    · exact bK_S k2 (fun e he => List.mem_append_right _ (List.mem_append_right _ (List.mem_append_right _ (List.mem_append_right _ (List.mem_append_left _ he)))))
  have kb0 : bK 0 0 h1 h2 := by
    refine ⟨fun j hj => ?_, fun k hk => k2 _ _ ⟨(128, 0, 5), ?_, rfl, Nat.zero_le _, (show 6 * 0 + k ≤ 5 from by omega)⟩⟩
    · rw [show 550 * 0 + j = j by omega]
      rcases hj with e | e | e | e
      · exact k3 j (by omega)
      · exact k3 j (by omega)
      · exact k3 j (by omega)
      · exact k2 _ _ ⟨(126, 275, 275), by decide, rfl, (show 275 ≤ j from by omega), (show j ≤ 275 from by omega)⟩
    · decide
  refine ⟨hT.of (h0 _ _ ⟨(10, 1, 1), by decide, rfl, by decide, by decide⟩) (fun q hq => h0 _ _ ⟨(11, 0, 899), by decide, rfl, Nat.zero_le _, hq⟩) (h0 _ _ ⟨(121, 8, 8), by decide, rfl, by decide, by decide⟩) (fun q hq => h0 _ _ ⟨(125, 0, 899), by decide, rfl, Nat.zero_le _, hq⟩), hF.of h0, hM.of (h0 _ _ ⟨(0, 10, 10), by decide, rfl, by decide, by decide⟩) (h0 _ _ ⟨(121, 23, 23), by decide, rfl, by decide, by decide⟩) (fun m hm => kc _ (mOb hm) (tpX_m hm)) (fun m hm => (kb1 _ (by omega)).trans (kb2 m hm)), r', c', t1, (h0 _ _ ⟨(0, 7, 8), by decide, rfl, by decide, by decide⟩).trans t2, (h0 _ _ ⟨(0, 7, 8), by decide, rfl, by decide, by decide⟩).trans t3, hL.tr (kc c' t1.ob (fun e he => List.mem_append_right _ (List.mem_append_left _ he))) ((kb1 0 (by decide)).trans kb0)⟩
theorem arr_r {D : zD} {h1 h2 : zH} {a b c v2 : Int} (hZ1 : lZ D h1) (b3 : 0 ≤ (h1 126 3).2 ∧ (h1 126 3).2 ≤ 6) (z2 : zRun D TLw 614 196 0 (h1, zargs 0 [(2, 121), (0, a), (0, b), (0, c)], []) (h2, some (0, v2))) : rAr a b c h1 (h2, some (0, v2)) := hZ1.run 7 z2 (Q := rAr a b c h1) (fun N => vP_hv (fun hv => rx_arr TLw_T vOK_T rx_runs hv (lI.out (show lI aG1 D Fl0 lQs h1 from hZ1)) b3))
theorem lRk_arrivals {D : zD} (hD : ∀ i, -2147483648 ≤ D.2 i ∧ D.2 i ≤ 2147483647) {h h1 h2 : zH} {x y z : Nat} {v1 v2 : Int} (hZ : lZ D h) (hZ1 : lZ D h1) (hR : lR h) (z1 : zRun D TLw 614 143 0 (h, zargs 0 [(2, 0), (0, D.2 x), (0, D.2 y), (0, D.2 z)], []) (h1, some (0, v1))) (f1 : aFr lM_143 h h1) (z2 : zRun D TLw 614 196 0 (h1, zargs 0 [(2, 121), (0, D.2 x), (0, D.2 y), (0, D.2 z)], []) (h2, some (0, v2))) (f2 : aFr lM_196 h1 h2) : lR h2 ∧ True := by
  refine ⟨?_, trivial⟩
  have hR' := hR
  obtain ⟨_, _, _, r, c, s1, s2, s3, P, _, hp, lb, _⟩ := hR'
  have b3 : 0 ≤ (h1 126 3).2 ∧ (h1 126 3).2 ≤ 6 := by
    have e : h1 126 3 = h 126 3 := f1.keep (S := [(126, 3, 3)]) (by decide +kernel) ⟨(126, 3, 3), by decide, rfl, by decide, by decide⟩
    have e2 : h 126 3 = (0, P 0 3) := hp.1.2.2.2
    rw [e, e2]
    exact lb.2.2.2
  have k3 : ∀ j, j < 275 → h2 126 j = h1 126 j := by
    rcases arr_r hZ1 b3 z2 with ⟨_, _, q⟩ | ⟨_, _, q⟩
    · exact fun j _ => q j
    · exact q
  have k2 : ∀ a k, aIn (tp0 ++ (cAll ++ (bLs 1 ++ (bLs 2 ++ (bLs 3 ++ [(126, 275, 275), (128, 0, 5)]))))) a k → h2 a k = h1 a k := fun a k hi => f2.keep (by decide +kernel) hi
  rcases s1 with ⟨rfl, rfl⟩ | ⟨rfl, rfl⟩
  · have g := arr_b hD lckB_143 (lQB_of hZ s2 s3) z1
    exact lR_arr hR (Or.inl ⟨rfl, rfl⟩) s2 (fun a k hi => g.keep (by decide +kernel) hi) k2 k3
  · have g := arr_b hD lckA_143 (lQA_of hZ s2 s3) z1
    exact lR_arr hR (Or.inr ⟨rfl, rfl⟩) s2 (fun a k hi => g.keep (by decide +kernel) hi) k2 k3
