/-! A MARCH, PURE -/
def pMove (P : PT) (m q : Nat) : PT := pset (pset P 6 m (q : Int)) 9 m (wA (P 9 m) (gGr P q))
def pGo (P : PT) (m : Nat) (p : Nat → Nat) : Nat → PT
  | 0 => P
  | i + 1 => pMove (pGo P m p i) m (p (i + 1))
def wStop (P : PT) (p : Nat → Nat) : Nat → Nat → Nat
  | 0, i => i
  | f + 1, i => if P 1 (p (i + 1)) = 3 then i else wStop P p f (i + 1)
theorem pGo_1 {P : PT} {m : Nat} {p : Nat → Nat} : ∀ (i a k : Nat), a ≠ 6 → a ≠ 9 → pGo P m p i a k = P a k
  | 0, _, _, _, _ => rfl
  | i + 1, a, k, h6, h9 => by
    show pset (pset (pGo P m p i) 6 m ((p (i + 1) : Nat) : Int)) 9 m _ a k = P a k
    rw [pset_ne (fun c => h9 c.1), pset_ne (fun c => h6 c.1)]
    exact pGo_1 i a k h6 h9
theorem gIn_go {P : PT} {m : Nat} {p : Nat → Nat} {i q : Nat} : gIn (pGo P m p i) q ↔ gIn P q := by
  unfold gIn
  rw [pGo_1 i 0 0 (by decide) (by decide), pGo_1 i 0 1 (by decide) (by decide)]
theorem gJ_go {P : PT} {m : Nat} {p : Nat → Nat} {i q : Nat} : gJ (pGo P m p i) q = gJ P q := by
  unfold gJ
  rw [pGo_1 i 0 0 (by decide) (by decide)]
theorem gGr_go {P : PT} {m : Nat} {p : Nat → Nat} {i q : Nat} : gGr (pGo P m p i) q = gGr P q ∧ gCr (pGo P m p i) q = gCr P q := by
  unfold gGr gCr
  rw [pGo_1 i 1 q (by decide) (by decide), pGo_1 i 2 q (by decide) (by decide)]
  exact ⟨rfl, rfl⟩
theorem fB_go {P : PT} {m : Nat} {p : Nat → Nat} (hb : fB P) : ∀ i : Nat, (∀ k, 1 ≤ k → k ≤ i → gIn P (p k)) → fB (pGo P m p i)
  | 0, _ => hb
  | i + 1, h => by
    have ih := fB_go (m := m) hb i (fun k h1 h2 => h k h1 (by omega))
    exact (ih.s6 (gIn_go.mpr (h (i + 1) (by omega) (Nat.le_refl _)))).s9
theorem wStop_b {P : PT} {p : Nat → Nat} : ∀ (f i : Nat), i ≤ wStop P p f i ∧ wStop P p f i ≤ i + f
  | 0, i => ⟨Nat.le_refl _, Nat.le_refl _⟩
  | f + 1, i => by
    show i ≤ (if P 1 (p (i + 1)) = 3 then i else wStop P p f (i + 1)) ∧ (if P 1 (p (i + 1)) = 3 then i else wStop P p f (i + 1)) ≤ i + (f + 1)
    have := wStop_b (P := P) (p := p) f (i + 1)
    split <;> omega
theorem qk_ld0_24 {D : zD} {T : zT} (hT : hTab T) (hO : vOK T) {N : Nat} {h : zH} {Q : zR → Prop} {m : Nat} (hv0 : zHv h)
    (k0 : vP D T N 133 2 h [some (2, 100), some (2, 24), some (0, (m : Int)), some (0, 1)] [] Q) :
    vP D T N 133 0 h [some (2, 100), some (2, 24), some (0, (m : Int)), none] [] Q := by
  refine v_push (1) (hz_X10_lead hT _ _ rfl) rfl ?_
  refine v_store1 [some (2, 100), some (2, 24), some (0, (m : Int)), some (0, 1)] (hz_X10_lead hT _ _ rfl) ⟨rfl, Nat.ne_of_beq_eq_false rfl⟩ (Nat.le_of_ble_eq_true rfl) rfl ?_
  exact k0 
theorem qk_ld2_24 {D : zD} {T : zT} (hT : hTab T) (hO : vOK T) {N : Nat} {h : zH} {Q : zR → Prop} {P : PT} {m s n b : Nat} (hv0 : zHv h) (hP : cP 24 P h) (hb : fB P) (hm : (m : Int) < P 0 3) (m6 : m < 6) (e7 : h 100 7 = (0, (n : Int))) (e4 : h 104 s = (0, (b : Int))) (b48 : b < 48) (hs : s < 48) (hsn : (s : Int) ≤ (n : Int))
    (k0 : (0 ≤ (s : Int)) → ((s : Int) < 48) → (0 ≤ (b : Int)) → ((b : Int) < 48) → ((P 1 b) = 3) → Q (h, some (0, ((s : Int) - 1))))
    (k1 : (0 ≤ (s : Int)) → ((s : Int) < 48) → (0 ≤ (b : Int)) → ((b : Int) < 48) → ((P 1 b) ≠ 3) → (0 ≤ (m : Int)) → ((m : Int) < 6) → vP D T N 133 2 (zset (zset h 30 (((m : Int)).toNat) (0, (b : Int))) 33 (((m : Int)).toNat) (0, (wA ((P 9 m)) ((gGr P b))))) [some (2, 100), some (2, 24), some (0, (m : Int)), some (0, ((s : Int) + 1))] [] Q) :
    vP D T (N + 1) 133 2 h [some (2, 100), some (2, 24), some (0, (m : Int)), some (0, (s : Int))] [] Q := by
  refine v_loadS (v := (0, (s : Int))) (hz_X10_lead hT _ _ rfl) rfl rfl ?_
  refine v_load (v := (2, 100)) (hz_X10_lead hT _ _ rfl) rfl rfl ?_
  refine v_getf (v := (0, (n : Int))) (r := 100) (hz_X10_lead hT _ _ rfl) rfl rfl (fun _ => e7) ?_
  refine v_ic (hz_X10_lead hT _ _ rfl) (fun hc1 => absurd (show (n : Int) < (s : Int) from hc1) (by omega)) (fun _ => ?_)
  refine v_load (v := (2, 24)) (hz_X10_lead hT _ _ rfl) rfl rfl ?_
  refine v_load (v := (2, 100)) (hz_X10_lead hT _ _ rfl) rfl rfl ?_
  refine v_getR (c := 104) (r := 100) (hz_X10_lead hT _ _ rfl) rfl rfl rfl ?_
  refine v_load (v := (0, (s : Int))) (hz_X10_lead hT _ _ rfl) rfl rfl ?_
  refine v_aldB (t := 0) (r := 104) (w := (b : Int)) (hz_X10_lead hT _ _ rfl) rfl rfl rfl (fun _ _ => (congrArg Prod.snd e4)) (fun ha2 hb3 => ?_)
  refine v_call (w := 2) [some (2, 24), some (0, (b : Int))] hO (hz_X10_lead hT _ _ rfl) rfl rfl ?_
  refine v_load (v := (2, 24)) (hz_X2_isWater hT _ _ rfl) rfl rfl ?_
  refine v_getR (c := 25) (r := 24) (hz_X2_isWater hT _ _ rfl) rfl rfl rfl ?_
  refine v_load (v := (0, (b : Int))) (hz_X2_isWater hT _ _ rfl) rfl rfl ?_
  refine v_aldB (t := 0) (r := 25) (w := (P 1 b)) (hz_X2_isWater hT _ _ rfl) rfl rfl rfl (fun _ _ => (congrArg Prod.snd (hP.2.1 b (by omega)))) (fun ha4 hb5 => ?_)
  refine v_push (3) (hz_X2_isWater hT _ _ rfl) rfl ?_
  refine v_ic (hz_X2_isWater hT _ _ rfl) (fun hc6 => ?_) (fun hc6 => ?_)
  · have hc6 : (P 1 b) = 3 := hc6
    refine v_push (1) (hz_X2_isWater hT _ _ rfl) rfl ?_
    refine v_goto (hz_X2_isWater hT _ _ rfl) ?_
    refine v_ret (hz_X2_isWater hT _ _ rfl) (Or.inl rfl) ?_
    show vP D T N 133 20 h [some (2, 100), some (2, 24), some (0, (m : Int)), some (0, (s : Int))] [(0, 1)] _
    refine v_if (hz_X10_lead hT _ _ rfl) (fun hc7 => absurd (show (1 : Int) = 0 from hc7) (by omega)) (fun _ => ?_)
    refine v_load (v := (0, (s : Int))) (hz_X10_lead hT _ _ rfl) rfl rfl ?_
    refine v_push (1) (hz_X10_lead hT _ _ rfl) rfl ?_
    refine v_bin (w := ((s : Int) - 1)) (hz_X10_lead hT _ _ rfl) (hq_sub (by omega) (by omega)) ?_
    refine v_ret (hz_X10_lead hT _ _ rfl) (Or.inl rfl) ?_
    exact k0 ha2 hb3 ha4 hb5 hc6
  · have hc6 : (P 1 b) ≠ 3 := hc6
    refine v_push (0) (hz_X2_isWater hT _ _ rfl) rfl ?_
    refine v_ret (hz_X2_isWater hT _ _ rfl) (Or.inl rfl) ?_
    show vP D T N 133 20 h [some (2, 100), some (2, 24), some (0, (m : Int)), some (0, (s : Int))] [(0, 0)] _
    refine v_if (hz_X10_lead hT _ _ rfl) (fun _ => ?_) (fun hc8 => absurd (show (0 : Int) = 0 from (by omega)) hc8)
    refine v_load (v := (2, 24)) (hz_X10_lead hT _ _ rfl) rfl rfl ?_
    refine v_getR (c := 30) (r := 24) (hz_X10_lead hT _ _ rfl) rfl rfl rfl ?_
    refine v_load (v := (0, (m : Int))) (hz_X10_lead hT _ _ rfl) rfl rfl ?_
    refine v_load (v := (2, 100)) (hz_X10_lead hT _ _ rfl) rfl rfl ?_
    refine v_getR (c := 104) (r := 100) (hz_X10_lead hT _ _ rfl) rfl rfl rfl ?_
    refine v_load (v := (0, (s : Int))) (hz_X10_lead hT _ _ rfl) rfl rfl ?_
    refine v_aldB (t := 0) (r := 104) (w := (b : Int)) (hz_X10_lead hT _ _ rfl) rfl rfl rfl (fun _ _ => (congrArg Prod.snd e4)) (fun ha9 hb10 => ?_)
    refine v_ast (r := 30) (hz_X10_lead hT _ _ rfl) rfl rfl (fun ha11 hb12 hf13 => ?_)
    refine v_load (v := (2, 24)) (hz_X10_lead hT _ _ rfl) rfl rfl ?_
    refine v_getR (c := 33) (r := 24) (hz_X10_lead hT _ _ rfl) rfl rfl rfl ?_
    refine v_load (v := (0, (m : Int))) (hz_X10_lead hT _ _ rfl) rfl rfl ?_
    refine v_dupd (hz_X10_lead hT _ _ rfl) (Nat.ne_of_beq_eq_false rfl) (Nat.ne_of_beq_eq_false rfl) ?_
    refine v_aldB (t := 0) (r := 33) (w := (P 9 m)) (hz_X10_lead hT _ _ rfl) rfl rfl rfl (fun _ _ => (congrArg Prod.snd ((zset_ne (fun c => absurd c.1 (by decide))).trans ((cP.a9 hP) m (by omega))))) (fun ha14 hb15 => ?_)
    refine v_load (v := (2, 24)) (hz_X10_lead hT _ _ rfl) rfl rfl ?_
    refine v_load (v := (2, 100)) (hz_X10_lead hT _ _ rfl) rfl rfl ?_
    refine v_getR (c := 104) (r := 100) (hz_X10_lead hT _ _ rfl) rfl rfl rfl ?_
    refine v_load (v := (0, (s : Int))) (hz_X10_lead hT _ _ rfl) rfl rfl ?_
    refine v_aldB (t := 0) (r := 104) (w := (b : Int)) (hz_X10_lead hT _ _ rfl) rfl rfl rfl (fun _ _ => (congrArg Prod.snd ((zset_ne (fun c => absurd c.1 (by decide))).trans e4))) (fun ha16 hb17 => ?_)
    refine v_call (w := 2) [some (2, 24), some (0, (b : Int))] hO (hz_X10_lead hT _ _ rfl) rfl rfl (cb_gr_24 hT hO ((b : Int)) b rfl (by omega) hb (fun i hi => (zset_ne (fun c => absurd c.1 (by decide))).trans (hP.2.1 i hi)) (fun i hi => (zset_ne (fun c => absurd c.1 (by decide))).trans (hP.2.2.1 i hi)) ?_)
    show vP D T N 133 56 (zset h 30 (((m : Int)).toNat) (0, (b : Int))) [some (2, 100), some (2, 24), some (0, (m : Int)), some (0, (s : Int))] [(0, (gGr P b)), (0, (P 9 m)), (0, (m : Int)), (2, 33)] _
    refine v_bin (w := (wA ((P 9 m)) ((gGr P b)))) (hz_X10_lead hT _ _ rfl) rfl ?_
    refine v_ast (r := 33) (hz_X10_lead hT _ _ rfl) rfl rfl (fun ha18 hb19 hf20 => ?_)
    refine v_iinc (x := (s : Int)) (u := 1) (w := ((s : Int) + 1)) [some (2, 100), some (2, 24), some (0, (m : Int)), some (0, ((s : Int) + 1))] (hz_X10_lead hT _ _ rfl) rfl rfl (Nat.le_of_ble_eq_true rfl) (vz_inc (by omega) (by omega)) rfl ?_
    refine v_goto (hz_X10_lead hT _ _ rfl) ?_
    exact k1 ha2 hb3 ha4 hb5 hc6 ha11 hb12
theorem qk_ld9_24 {D : zD} {T : zT} (hT : hTab T) (hO : vOK T) {N : Nat} {h : zH} {Q : zR → Prop} {P : PT} {m n : Nat} (hv0 : zHv h) (e7 : h 100 7 = (0, (n : Int)))
    (k0 : Q (h, some (0, (n : Int)))) :
    vP D T (N + 1) 133 2 h [some (2, 100), some (2, 24), some (0, (m : Int)), some (0, ((n + 1 : Nat) : Int))] [] Q := by
  refine v_loadS (v := (0, ((n + 1 : Nat) : Int))) (hz_X10_lead hT _ _ rfl) rfl rfl ?_
  refine v_load (v := (2, 100)) (hz_X10_lead hT _ _ rfl) rfl rfl ?_
  refine v_getf (v := (0, (n : Int))) (r := 100) (hz_X10_lead hT _ _ rfl) rfl rfl (fun _ => e7) ?_
  refine v_ic (hz_X10_lead hT _ _ rfl) (fun _ => ?_) (fun hc1 => absurd (show (n : Int) < ((n + 1 : Nat) : Int) from (by omega)) hc1)
  refine v_load (v := (2, 100)) (hz_X10_lead hT _ _ rfl) rfl rfl ?_
  refine v_getf (v := (0, (n : Int))) (r := 100) (hz_X10_lead hT _ _ rfl) rfl rfl (fun _ => e7) ?_
  refine v_ret (hz_X10_lead hT _ _ rfl) (Or.inl rfl) ?_
  exact k0 
/-- lead() -/
theorem cx_ld_24 {D : zD} {T : zT} (hT : hTab T) (hO : vOK T) {N : Nat} {h : zH} {Q : zR → Prop} {P : PT} {p : Nat → Nat} {n : Nat} (x : Int) (m : Nat) (ex : x = (m : Int)) (hP : cP 24 P h) (hb : fB P) (hm : (m : Int) < P 0 3) (hn : n ≤ 47) (hp : tHp p n h) (hg : ∀ i, i ≤ n → gIn P (p i)) (k : ∀ g : zH, cP 24 (pGo P m p (wStop P p n 0)) g → cFr 24 h g → Q (g, some (0, ((wStop P p n 0 : Nat) : Int)))) : vP D T N 133 0 h [some (2, 100), some (2, 24), some (0, x), none] [] Q := by
  subst ex
  have m6 : m < 6 := by have := hb.1.2.2.2.2; omega
  refine vP_hv (fun hv => qk_ld0_24 hT hO hv ?_)
  refine vP_loop (fun h' l => ∃ i : Nat, i ≤ n ∧ l = [some (2, 100), some (2, 24), some (0, (m : Int)), some (0, ((i + 1 : Nat) : Int))] ∧ cP 24 (pGo P m p i) h' ∧ cFr 24 h h' ∧ wStop P p (n - i) i = wStop P p n 0) ?_ N h _ ⟨0, Nat.zero_le _, rfl, hP, fun _ _ _ => rfl, rfl⟩
  rintro N h' l ⟨i, hi, rfl, hP', hf, hs⟩ ih
  have hb' := fB_go (m := m) hb i (fun k _ h2 => hg k (by omega))
  have e7 : h' 100 7 = (0, (n : Int)) := (hf _ _ (by omega)).trans hp.2.1
  by_cases c : i < n
  · have gb := hg (i + 1) (by omega)
    have e4 : h' 104 (i + 1) = (0, ((p (i + 1) : Nat) : Int)) := (hf _ _ (by omega)).trans (hp.1 (i + 1) (by omega))
    have hm' : (m : Int) < pGo P m p i 0 3 := by rw [pGo_1 i 0 3 (by decide) (by decide)]; exact hm
    have hs' : wStop P p (n - i) i = if P 1 (p (i + 1)) = 3 then i else wStop P p (n - (i + 1)) (i + 1) := by
      rw [show n - i = (n - (i + 1)) + 1 by omega]
      rfl
    refine vP_hv (fun hv' => qk_ld2_24 hT hO (P := pGo P m p i) (m := m) (s := i + 1) (n := n) (b := p (i + 1)) hv' hP' hb' hm' m6 e7 e4 gb.1 (by omega) (by omega) ?_ ?_)
    · intro _ _ _ _ c2
      rw [pGo_1 i 1 _ (by decide) (by decide)] at c2
      rw [if_pos c2] at hs'
      have e : wStop P p n 0 = i := by omega
      rw [show ((i + 1 : Nat) : Int) - 1 = ((wStop P p n 0 : Nat) : Int) by omega]
      refine k h' ?_ hf
      rw [e]
      exact hP'
    · intro _ _ _ _ c2 _ _
      rw [pGo_1 i 1 _ (by decide) (by decide)] at c2
      rw [if_neg c2] at hs'
      exact ih _ _ ⟨i + 1, by omega, rfl, hP'.s6.s9, cFr.z (by omega) (cFr.z (by omega) hf), by omega⟩
  · have e : i = n := by omega
    subst e
    have e2 : wStop P p i 0 = i := by
      rw [← hs, Nat.sub_self]
      rfl
    refine vP_hv (fun hv' => qk_ld9_24 hT hO (P := P) (m := m) (n := i) hv' e7 ?_)
    rw [show ((i : Nat) : Int) = ((wStop P p i 0 : Nat) : Int) by rw [e2]]
    refine k h' ?_ hf
    rw [e2]
    exact hP'
