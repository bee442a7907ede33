/-! arrivals, all contents -/
abbrev fz0 : aM := [(0, 7, 8), (0, 10, 10)]
abbrev fzX (c : Nat) : aM := fz0 ++ (kLf c ++ (kLf 55 ++ (kLf 70 ++ (kLf 85 ++ bAf))))
abbrev fzR : aM := fz0 ++ (cAf ++ ([(126, 275, 546)] ++ (kLb 550 ++ (kLb 1100 ++ kLb 1650))))
theorem fX_arr {h h1 h2 : zH} {r c : Nat} (hX : fX h) (s1 : lSw r c) (s2 : h 0 7 = (2, (c : Int))) (k1 : ∀ a k, aIn (fzX c) a k → h1 a k = h a k) (k2 : ∀ a k, aIn fzR a k → h2 a k = h1 a k) (k3 : ∀ j, j < 275 → h2 126 j = h1 126 j) : fX h2 := by
  obtain ⟨hM, r', c', t1, t2, t3, hL⟩ := hX
  have ec : c' = c := by
    rw [s2] at t2
    have := congrArg Prod.snd t2
    have : (c : Int) = (c' : Int) := this
    omega
  subst ec
  have h0 : ∀ a k, aIn fz0 a k → h2 a k = h a k := fun a k hi => (k2 a k (aIn_l hi)).trans (k1 a k (aIn_l hi))
  have kc2 : ∀ d, cOb d → cKf d d h1 h2 := fun d hd => cKf_S (fun a k hi => k2 a k (aIn_r (aIn_l hi))) hd
  have kc1 : cKf c' c' h h1 := fun j k hj => k1 _ _ (aIn_r (aIn_l (kLf_in hj)))
  have km1 : ∀ m, m < 3 → cKf (55 + 15 * m) (55 + 15 * m) h h1 := fun m hm j k hj => by
    have : m = 0 ∨ m = 1 ∨ m = 2 := by omega
    rcases this with rfl | rfl | rfl
    · exact k1 _ _ (aIn_r (aIn_r (aIn_l (kLf_in hj))))
    · exact k1 _ _ (aIn_r (aIn_r (aIn_r (aIn_l (kLf_in hj)))))
    · exact k1 _ _ (aIn_r (aIn_r (aIn_r (aIn_r (aIn_l (kLf_in hj))))))
  have kb1 : ∀ b, b < 4 → bKf (550 * b) (550 * b) h h1 := fun b hb => bKf_S (fun a k hi => k1 a k (aIn_r (aIn_r (aIn_r (aIn_r (aIn_r hi)))))) hb
  have l : ∀ o j, j < 547 → aIn (kLb o) 126 (o + j) := fun o j hj => aIn_of (lo := o) (hi := o + 546) List.mem_cons_self (by omega) (by omega)
  have kb2 : ∀ m, m < 3 → bKf (550 * (m + 1)) (550 * (m + 1)) h1 h2 := fun m hm j hj => by
    have : m = 0 ∨ m = 1 ∨ m = 2 := by omega
    rcases this with rfl | rfl | rfl
    · exact k2 _ _ (aIn_r (aIn_r (aIn_r (aIn_l (l 550 j hj)))))
    · exact k2 _ _ (aIn_r (aIn_r (aIn_r (aIn_r (aIn_l (l 1100 j hj))))))
    · exact k2 _ _ (aIn_r (aIn_r (aIn_r (aIn_r (aIn_r (l 1650 j hj))))))
  have kb0 : bKf 0 0 h1 h2 := fun j hj => by
    rw [Nat.zero_add]
    by_cases c : j < 275
    · exact k3 j c
    · exact k2 _ _ (aIn_r (aIn_r (aIn_l (aIn_of (lo := 275) (hi := 546) List.mem_cons_self (by omega) (by omega)))))
  refine ⟨fun m hm hq => ?_, r', c', t1, (h0 _ _ ⟨(0, 7, 8), by decide, rfl, by decide, by decide⟩).trans t2, (h0 _ _ ⟨(0, 7, 8), by decide, rfl, by decide, by decide⟩).trans t3, hL.tr (kc1.trans (kc2 c' t1.ob)) ((kb1 0 (by decide)).trans kb0)⟩
  rw [h0 0 10 ⟨(0, 10, 10), by decide, rfl, by decide, by decide⟩] at hq
  exact (hM m hm hq).tr ((km1 m hm).trans (kc2 _ (mOb hm))) ((kb1 _ (by omega)).trans (kb2 m hm))
theorem fRk_arrivals {D : zD} (hD : ∀ i, -2147483648 ≤ D.2 i ∧ D.2 i ≤ 2147483647) {h h1 h2 : zH} {x y z : Nat} {v1 v2 : Int} (hZ : lZ D h) (hZ1 : lZ D h1) (hR : fR h) (z1 : zRun D TLw 614 143 0 (h, zargs 0 [(2, 0), (0, D.2 x), (0, D.2 y), (0, D.2 z)], []) (h1, some (0, v1))) (f1 : aFr lM_143 h h1) (z2 : zRun D TLw 614 196 0 (h1, zargs 0 [(2, 121), (0, D.2 x), (0, D.2 y), (0, D.2 z)], []) (h2, some (0, v2))) (f2 : aFr lM_196 h1 h2) : fR h2 ∧ True := by
  refine ⟨⟨(lRk_arrivals hD hZ hZ1 hR.1 z1 f1 z2 f2).1, ?_⟩, trivial⟩
  have hR' := hR
  obtain ⟨_, _, r, c, s1, s2, s3, P, _, hp, fb, _, _⟩ := hR'
  have lb := fb.1
  have b3 : 0 ≤ (h1 126 3).2 ∧ (h1 126 3).2 ≤ 6 := by
    have e : h1 126 3 = h 126 3 := f1.keep (S := [(126, 3, 3)]) (by decide +kernel) ⟨(126, 3, 3), by decide, rfl, by decide, by decide⟩
    rw [e, hp.m]
    exact lb.2.2.2
  have k3 : ∀ j, j < 275 → h2 126 j = h1 126 j := by
    rcases arr_r hZ1 b3 z2 with ⟨_, _, q⟩ | ⟨_, _, q⟩
    · exact fun j _ => q j
    · exact q
  have k2 : ∀ a k, aIn fzR a k → h2 a k = h1 a k := fun a k hi => f2.keep (by decide +kernel) hi
  rcases s1 with ⟨rfl, rfl⟩ | ⟨rfl, rfl⟩
  · have g := arr_b hD lckB_143 (lQB_of hZ s2 s3) z1
    exact fX_arr hR.2 (Or.inl ⟨rfl, rfl⟩) s2 (fun a k hi => g.keep (by decide +kernel) hi) k2 k3
  · have g := arr_b hD lckA_143 (lQA_of hZ s2 s3) z1
    exact fX_arr hR.2 (Or.inr ⟨rfl, rfl⟩) s2 (fun a k hi => g.keep (by decide +kernel) hi) k2 k3
