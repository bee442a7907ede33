theorem cx_carry_39 {D : zD} {T : zT} (hT : hTab T) (hO : vOK T) {N : Nat} {h : zH} {Q : zR → Prop} {P : PT} {t : OT} (seed : Nat) (hsd : seed ≤ 9999) (hP : cP 39 P h) (hb : fB P) (hw : 1 ≤ P 0 0 ∧ 1 ≤ P 0 1) (ok : oOk P t) (ly : cLay 39 h t 0) (hn : tN t ≤ 60) (ez : h 49 0 = (0, (tN t : Int))) (k : ∀ g : zH, cR1 39 (ev t (runS P seed)) g → g 117 11 = (0, if (ev t (runS P seed)).ov = 2 then 1 else 0) → cCF 39 h g → Q (g, some (0, ((ev t (runS P seed)).dn : Int)))) : vP D T N 90 0 h [some (2, 117), some (2, 39), some (0, (seed : Int)), none] [] Q := by
  refine vP_hv (fun hv => qk_co0_39 hT hO _ hv ?_)
  generalize eg : (zset (zset (zset (zset (zset (zset (zset (zset (zset (zset h 117 2 (2, 39)) 117 3 (2, 49)) 117 4 (0, (seed : Int))) 117 5 (0, 0)) 117 6 (0, 0)) 117 7 (0, 0)) 117 8 (0, 0)) 117 9 (0, 0)) 117 10 (0, 0)) 117 11 (0, 0)) = g0
  have F : ∀ a b, a ≠ 117 → g0 a b = h a b := fun a b ha => by
    rw [← eg]
    exact (zset_ne (fun e => ha e.1)).trans ((zset_ne (fun e => ha e.1)).trans ((zset_ne (fun e => ha e.1)).trans ((zset_ne (fun e => ha e.1)).trans ((zset_ne (fun e => ha e.1)).trans ((zset_ne (fun e => ha e.1)).trans ((zset_ne (fun e => ha e.1)).trans ((zset_ne (fun e => ha e.1)).trans ((zset_ne (fun e => ha e.1)).trans (zset_ne (fun e => ha e.1))))))))))
  have v11 : g0 117 11 = (0, 0) := by rw [← eg]; exact zset_same
  have v10 : g0 117 10 = (0, 0) := by rw [← eg]; exact (zset_ne (by decide)).trans zset_same
  have v9 : g0 117 9 = (0, 0) := by rw [← eg]; exact (zset_ne (by decide)).trans ((zset_ne (by decide)).trans zset_same)
  have v8 : g0 117 8 = (0, 0) := by rw [← eg]; exact (zset_ne (by decide)).trans ((zset_ne (by decide)).trans ((zset_ne (by decide)).trans zset_same))
  have v7 : g0 117 7 = (0, 0) := by rw [← eg]; exact (zset_ne (by decide)).trans ((zset_ne (by decide)).trans ((zset_ne (by decide)).trans ((zset_ne (by decide)).trans zset_same)))
  have v6 : g0 117 6 = (0, 0) := by rw [← eg]; exact (zset_ne (by decide)).trans ((zset_ne (by decide)).trans ((zset_ne (by decide)).trans ((zset_ne (by decide)).trans ((zset_ne (by decide)).trans zset_same))))
  have v5 : g0 117 5 = (0, 0) := by rw [← eg]; exact (zset_ne (by decide)).trans ((zset_ne (by decide)).trans ((zset_ne (by decide)).trans ((zset_ne (by decide)).trans ((zset_ne (by decide)).trans ((zset_ne (by decide)).trans zset_same)))))
  have v4 : g0 117 4 = (0, (seed : Int)) := by rw [← eg]; exact (zset_ne (by decide)).trans ((zset_ne (by decide)).trans ((zset_ne (by decide)).trans ((zset_ne (by decide)).trans ((zset_ne (by decide)).trans ((zset_ne (by decide)).trans ((zset_ne (by decide)).trans zset_same))))))
  have v3 : g0 117 3 = (2, 49) := by rw [← eg]; exact (zset_ne (by decide)).trans ((zset_ne (by decide)).trans ((zset_ne (by decide)).trans ((zset_ne (by decide)).trans ((zset_ne (by decide)).trans ((zset_ne (by decide)).trans ((zset_ne (by decide)).trans ((zset_ne (by decide)).trans zset_same)))))))
  have v2 : g0 117 2 = (2, 39) := by rw [← eg]; exact (zset_ne (by decide)).trans ((zset_ne (by decide)).trans ((zset_ne (by decide)).trans ((zset_ne (by decide)).trans ((zset_ne (by decide)).trans ((zset_ne (by decide)).trans ((zset_ne (by decide)).trans ((zset_ne (by decide)).trans ((zset_ne (by decide)).trans zset_same))))))))
  have hP0 : cP 39 P g0 := hP.eq (fun a b h1 h2 => F a b (by omega))
  have ly0 : cLay 39 g0 t 0 := ly.tr (fun j k h1 h2 _ => F _ _ (by omega)) (by omega)
  have ez0 : g0 49 0 = (0, (tN t : Int)) := (F 49 0 (by decide)).trans ez
  have FC : ∀ {g : zH}, cDF 39 g0 g → cCF 39 h g := fun f a b hn => (f a b (fun e => hn (by omega))).trans (F a b (fun e => hn (by omega)))
  refine cx_ev_39 hT hO (P0 := P) (z := tN t) (h0 := g0) ez0 hn t (runS P seed) 0 0 g0 ok ly0 (by omega) (runS_B hb hw hsd) pSh.rfl rfl ⟨⟨hP0, v4, v7, v8, v9, v10⟩, v2, v3, v5, v6, v11⟩ cDF.rfl (Nat.zero_le _) (by decide) (fun g x' ov hs f _ c5 => ?_) (fun g ov r1 e11 f => k g r1 e11 (FC f))
  obtain ⟨r1, e2, e3, e5, e6, e11⟩ := hs
  have d7 := (ev_ok t (runS P seed) ok (runS_B hb hw hsd) pSh.rfl).1.2.2.2.2.2.2.1
  have hx : x' < 30300 := by
    rcases c5 with ⟨_, c5⟩ | c5
    · omega
    · have e : (runS P seed).dn = 0 := rfl
      omega
  refine vP_dn (vP_hv (fun hv => qk_tx5_39 hT hO _ hv e2 e3 e5 e6 ((f 49 0 (by omega)).trans ez0) (by omega) r1.2.2.1 (by omega) ?_))
  exact k g r1 (by rw [if_neg (by omega)]; exact e11) (FC f)
theorem cx_runN_39 {D : zD} {T : zT} (hT : hTab T) (hO : vOK T) {N : Nat} {h : zH} (x s0 : Int) (e7 : h 0 7 = (2, 39)) (es : h 49 0 = (0, s0)) (hn : ¬ (0 ≤ x ∧ x ≤ 9999) ∨ s0 = -1) : vP D T N 178 0 h [some (2, 0), some (0, x), none] [] (fun r => (∃ w : Int, r.1 = zset h 0 0 (0, w)) ∧ r.2 = some (0, -1)) := by
  refine vP_hv (fun hv => qt_run0_39 hT hO x s0 hv e7 es (fun _ => ⟨⟨_, rfl⟩, rfl⟩) (fun _ _ => ⟨⟨_, rfl⟩, rfl⟩) (fun _ _ _ => ⟨⟨_, rfl⟩, rfl⟩) (fun c1 c2 c3 => ?_))
  exact absurd hn (by omega)
theorem cx_runY_39 {D : zD} {T : zT} (hT : hTab T) (hO : vOK T) {N : Nat} {h : zH} {P : PT} {t : OT} (seed : Nat) (hsd : seed ≤ 9999) (e7 : h 0 7 = (2, 39)) (hP : cP 39 P h) (hb : fB P) (hw : 1 ≤ P 0 0 ∧ 1 ≤ P 0 1) (ok : oOk P t) (ly : cLay 39 h t 0) (hn : tN t ≤ 60) (ez : h 49 0 = (0, (tN t : Int))) : vP D T N 178 0 h [some (2, 0), some (0, (seed : Int)), none] [] (fun r => cP 39 (ev t (runS P seed)).P r.1 ∧ cUF 39 h r.1 ∧ r.2 = some (0, ((ev t (runS P seed)).dn : Int)) ∧ r.1 120 0 = (0, ((ev t (runS P seed)).ms : Int)) ∧ r.1 120 1 = (0, ((ev t (runS P seed)).bt : Int)) ∧ r.1 120 2 = (0, ((ev t (runS P seed)).sk : Int)) ∧ r.1 120 3 = (0, if (ev t (runS P seed)).ov = 2 then 1 else 0)) := by
  refine vP_hv (fun hv => qt_run0_39 hT hO _ _ hv e7 ez (fun c => absurd c (by omega)) (fun _ c => absurd c (by omega)) (fun _ _ c => absurd c (by omega)) (fun _ _ _ => ?_))
  refine cx_carry_39 hT hO seed hsd hP hb hw ok ly hn ez (fun g r1 e11 f => ?_)
  show vP D T N 178 49 g [some (2, 0), some (0, (seed : Int)), none] [(0, ((ev t (runS P seed)).dn : Int))] _
  obtain ⟨q1, q4, q7, q8, q9, q10⟩ := r1
  have U : ∀ v3 : zV, cUF 39 h (zset (zset (zset (zset (zset g 120 0 (0, ((ev t (runS P seed)).ms : Int))) 120 1 (0, ((ev t (runS P seed)).bt : Int))) 120 2 (0, ((ev t (runS P seed)).sk : Int))) 120 3 v3) 0 0 (0, 0)) := fun v3 a b hn => (zset_ne (fun e => hn (by omega))).trans ((zset_ne (fun e => hn (by omega))).trans ((zset_ne (fun e => hn (by omega))).trans ((zset_ne (fun e => hn (by omega))).trans ((zset_ne (fun e => hn (by omega))).trans (f a b (fun e => hn (by omega)))))))
  have C : ∀ v3 : zV, cP 39 (ev t (runS P seed)).P (zset (zset (zset (zset (zset g 120 0 (0, ((ev t (runS P seed)).ms : Int))) 120 1 (0, ((ev t (runS P seed)).bt : Int))) 120 2 (0, ((ev t (runS P seed)).sk : Int))) 120 3 v3) 0 0 (0, 0)) := fun v3 => q1.eq (fun a b h1 h2 => (zset_ne (by omega)).trans ((zset_ne (by omega)).trans ((zset_ne (by omega)).trans ((zset_ne (by omega)).trans (zset_ne (by omega))))))
  have A0 : ∀ v3 : zV, (zset (zset (zset (zset (zset g 120 0 (0, ((ev t (runS P seed)).ms : Int))) 120 1 (0, ((ev t (runS P seed)).bt : Int))) 120 2 (0, ((ev t (runS P seed)).sk : Int))) 120 3 v3) 0 0 (0, 0)) 120 0 = (0, ((ev t (runS P seed)).ms : Int)) := fun v3 => (zset_ne (by decide)).trans ((zset_ne (by decide)).trans ((zset_ne (by decide)).trans ((zset_ne (by decide)).trans zset_same)))
  have A1 : ∀ v3 : zV, (zset (zset (zset (zset (zset g 120 0 (0, ((ev t (runS P seed)).ms : Int))) 120 1 (0, ((ev t (runS P seed)).bt : Int))) 120 2 (0, ((ev t (runS P seed)).sk : Int))) 120 3 v3) 0 0 (0, 0)) 120 1 = (0, ((ev t (runS P seed)).bt : Int)) := fun v3 => (zset_ne (by decide)).trans ((zset_ne (by decide)).trans ((zset_ne (by decide)).trans zset_same))
  have A2 : ∀ v3 : zV, (zset (zset (zset (zset (zset g 120 0 (0, ((ev t (runS P seed)).ms : Int))) 120 1 (0, ((ev t (runS P seed)).bt : Int))) 120 2 (0, ((ev t (runS P seed)).sk : Int))) 120 3 v3) 0 0 (0, 0)) 120 2 = (0, ((ev t (runS P seed)).sk : Int)) := fun v3 => (zset_ne (by decide)).trans ((zset_ne (by decide)).trans zset_same)
  have A3 : ∀ v3 : zV, (zset (zset (zset (zset (zset g 120 0 (0, ((ev t (runS P seed)).ms : Int))) 120 1 (0, ((ev t (runS P seed)).bt : Int))) 120 2 (0, ((ev t (runS P seed)).sk : Int))) 120 3 v3) 0 0 (0, 0)) 120 3 = v3 := fun v3 => (zset_ne (by decide)).trans zset_same
  by_cases c : (ev t (runS P seed)).ov = 2
  · rw [if_pos c] at e11 ⊢
    exact vP_hv (fun hv => qt_run49_1 hT hO _ hv q8 q9 q10 e11 ⟨C (0, 1), U (0, 1), rfl, A0 (0, 1), A1 (0, 1), A2 (0, 1), A3 (0, 1)⟩)
  · rw [if_neg c] at e11 ⊢
    exact vP_hv (fun hv => qt_run49_0 hT hO _ hv q8 q9 q10 e11 ⟨C (0, 0), U (0, 0), rfl, A0 (0, 0), A1 (0, 0), A2 (0, 0), A3 (0, 0)⟩)
