theorem qt_truly0_39 {D : zD} {T : zT} (hT : hTab T) (hO : vOK T) {N : Nat} {h : zH} {Q : zR → Prop} {P : PT} (x : Int) (hv0 : zHv h) (e7 : h 0 7 = (2, 39)) (p0 : h 39 0 = (0, P 0 0)) (p1 : h 39 1 = (0, P 0 1)) (p2 : h 39 2 = (0, P 0 2)) (p3 : h 39 3 = (0, P 0 3)) (lb : (0 ≤ P 0 0 ∧ P 0 0 ≤ 8) ∧ (0 ≤ P 0 1 ∧ P 0 1 ≤ 6) ∧ (0 ≤ P 0 2 ∧ P 0 2 ≤ 3) ∧ (0 ≤ P 0 3 ∧ P 0 3 ≤ 6))
    (k0 : (x < 0) → Q (zset h 0 0 (0, 2), some (0, -1)))
    (k1 : (0 ≤ x) → (x < (P 0 3)) → vP D T N 189 17 h [some (2, 0), some (0, x), none] [] Q)
    (k2 : (0 ≤ x) → ((P 0 3) ≤ x) → Q (zset h 0 0 (0, 2), some (0, -1))) :
    vP D T N 189 0 h [some (2, 0), some (0, x), none] [] Q := by
  refine v_load (v := (2, 0)) (hz_X11_truly hT _ _ rfl) rfl rfl ?_
  refine v_getf (v := (2, 39)) (r := 0) (hz_X11_truly hT _ _ rfl) rfl rfl (fun _ => e7) ?_
  refine v_load (v := (0, x)) (hz_X11_truly hT _ _ rfl) rfl rfl ?_
  refine v_call (w := 2) [some (2, 39), some (0, x)] hO (hz_X11_truly hT _ _ rfl) rfl rfl ?_
  refine v_load (v := (0, x)) (hi_X2_hasCompany_0 hT) rfl rfl ?_
  refine v_if (hi_X2_hasCompany_1 hT) (fun hc1 => ?_) (fun hc1 => ?_)
  · have hc1 : x < 0 := hc1
    refine v_push (0) (hi_X2_hasCompany_16 hT) rfl ?_
    refine v_ret (hi_X2_hasCompany_17 hT) (Or.inl rfl) ?_
    show vP D T N 189 8 h [some (2, 0), some (0, x), none] [(0, 0)] _
    refine v_if (hi_X11_truly_8 hT) (fun _ => ?_) (fun hc2 => absurd (show (0 : Int) = 0 from (by decide)) hc2)
    refine v_load (v := (2, 0)) (hi_X11_truly_11 hT) rfl rfl ?_
    refine v_push (2) (hi_X11_truly_12 hT) rfl ?_
    refine v_call (w := 2) [some (2, 0), some (0, 2)] hO (hi_X11_truly_13 hT) rfl rfl ?_
    refine v_load (v := (2, 0)) (hi_X11_refused_0 hT) rfl rfl ?_
    refine v_load (v := (0, 2)) (hi_X11_refused_1 hT) rfl rfl ?_
    refine v_putf (r := 0) hO (hi_X11_refused_2 hT) rfl (fun hf3 => ?_)
    refine v_push (-1) (hi_X11_refused_5 hT) rfl ?_
    refine v_ret (hi_X11_refused_6 hT) (Or.inl rfl) ?_
    show vP D T N 189 16 (zset h 0 0 (0, 2)) [some (2, 0), some (0, x), none] [(0, -1)] _
    refine v_ret (hi_X11_truly_16 hT) (Or.inl rfl) ?_
    exact k0 hc1
  · have hc1 : 0 ≤ x := Int.not_lt.mp hc1
    refine v_load (v := (0, x)) (hi_X2_hasCompany_4 hT) rfl rfl ?_
    refine v_load (v := (2, 39)) (hi_X2_hasCompany_5 hT) rfl rfl ?_
    refine v_getf (v := (0, (P 0 3))) (r := 39) (hi_X2_hasCompany_6 hT) rfl rfl (fun _ => p3) ?_
    refine v_ic (hi_X2_hasCompany_9 hT) (fun hc4 => ?_) (fun hc4 => ?_)
    · have hc4 : x < (P 0 3) := hc4
      refine v_push (1) (hi_X2_hasCompany_12 hT) rfl ?_
      refine v_goto (hi_X2_hasCompany_13 hT) ?_
      refine v_ret (hi_X2_hasCompany_17 hT) (Or.inl rfl) ?_
      show vP D T N 189 8 h [some (2, 0), some (0, x), none] [(0, 1)] _
      refine v_if (hi_X11_truly_8 hT) (fun hc5 => absurd (show (1 : Int) = 0 from hc5) (by decide)) (fun _ => ?_)
      exact k1 hc1 hc4
    · have hc4 : (P 0 3) ≤ x := Int.not_lt.mp hc4
      refine v_push (0) (hi_X2_hasCompany_16 hT) rfl ?_
      refine v_ret (hi_X2_hasCompany_17 hT) (Or.inl rfl) ?_
      show vP D T N 189 8 h [some (2, 0), some (0, x), none] [(0, 0)] _
      refine v_if (hi_X11_truly_8 hT) (fun _ => ?_) (fun hc6 => absurd (show (0 : Int) = 0 from (by decide)) hc6)
      refine v_load (v := (2, 0)) (hi_X11_truly_11 hT) rfl rfl ?_
      refine v_push (2) (hi_X11_truly_12 hT) rfl ?_
      refine v_call (w := 2) [some (2, 0), some (0, 2)] hO (hi_X11_truly_13 hT) rfl rfl ?_
      refine v_load (v := (2, 0)) (hi_X11_refused_0 hT) rfl rfl ?_
      refine v_load (v := (0, 2)) (hi_X11_refused_1 hT) rfl rfl ?_
      refine v_putf (r := 0) hO (hi_X11_refused_2 hT) rfl (fun hf7 => ?_)
      refine v_push (-1) (hi_X11_refused_5 hT) rfl ?_
      refine v_ret (hi_X11_refused_6 hT) (Or.inl rfl) ?_
      show vP D T N 189 16 (zset h 0 0 (0, 2)) [some (2, 0), some (0, x), none] [(0, -1)] _
      refine v_ret (hi_X11_truly_16 hT) (Or.inl rfl) ?_
      exact k2 hc1 hc4
theorem qt_truly17_39 {D : zD} {T : zT} (hT : hTab T) (hO : vOK T) {N : Nat} {h : zH} {Q : zR → Prop} {a : Nat} (hv0 : zHv h) (e7 : h 0 7 = (2, 39))
    (k0 : vP D T N 132 0 h [some (2, 100), some (2, 39), some (0, (a : Int))] [] (fun r1 => vP D T N 189 29 r1.1 [some (2, 0), some (0, (a : Int)), none] (zpush r1.2 []) Q)) :
    vP D T N 189 17 h [some (2, 0), some (0, (a : Int)), none] [] Q := by
  refine v_load (v := (2, 0)) (hz_X11_truly hT _ _ rfl) rfl rfl ?_
  refine v_getR (c := 100) (r := 0) (hz_X11_truly hT _ _ rfl) rfl rfl rfl ?_
  refine v_load (v := (2, 0)) (hz_X11_truly hT _ _ rfl) rfl rfl ?_
  refine v_getf (v := (2, 39)) (r := 0) (hz_X11_truly hT _ _ rfl) rfl rfl (fun _ => e7) ?_
  refine v_load (v := (0, (a : Int))) (hz_X11_truly hT _ _ rfl) rfl rfl ?_
  refine v_call (w := 3) [some (2, 100), some (2, 39), some (0, (a : Int))] hO (hz_X11_truly hT _ _ rfl) rfl rfl ?_
  exact k0 
theorem qt_truly29_39 {D : zD} {T : zT} (hT : hTab T) (hO : vOK T) {N : Nat} {h : zH} {Q : zR → Prop} {a : Nat} (w : Int) (hv0 : zHv h) (e7 : h 0 7 = (2, 39)) (hw : w ≠ -1)
    (k0 : vP D T N 140 0 h [some (2, 100), some (2, 39), none, none] [] (fun r1 => vP D T N 189 51 r1.1 [some (2, 0), some (0, (a : Int)), none] (zpush r1.2 []) Q)) :
    vP D T N 189 29 h [some (2, 0), some (0, (a : Int)), none] [(0, w)] Q := by
  refine v_push (-1) (hz_X11_truly hT _ _ rfl) rfl ?_
  refine v_ic (hz_X11_truly hT _ _ rfl) (fun hc1 => absurd (show w = -1 from hc1) hw) (fun _ => ?_)
  refine v_load (v := (2, 0)) (hz_X11_truly hT _ _ rfl) rfl rfl ?_
  refine v_getR (c := 100) (r := 0) (hz_X11_truly hT _ _ rfl) rfl rfl rfl ?_
  refine v_load (v := (2, 0)) (hz_X11_truly hT _ _ rfl) rfl rfl ?_
  refine v_getf (v := (2, 39)) (r := 0) (hz_X11_truly hT _ _ rfl) rfl rfl (fun _ => e7) ?_
  refine v_call (w := 4) [some (2, 100), some (2, 39), none, none] hO (hz_X11_truly hT _ _ rfl) rfl rfl ?_
  exact k0 
theorem qk_tc0_39 {D : zD} {T : zT} (hT : hTab T) (hO : vOK T) {N : Nat} {h : zH} {Q : zR → Prop}  (hv0 : zHv h)
    (k0 : vP D T N 140 4 h [some (2, 100), some (2, 39), some (0, 0), some (0, 1)] [] Q) :
    vP D T N 140 0 h [some (2, 100), some (2, 39), none, none] [] Q := by
  refine v_push (0) (hz_X10_trueCost hT _ _ rfl) rfl ?_
  refine v_store1 [some (2, 100), some (2, 39), some (0, 0), none] (hz_X10_trueCost hT _ _ rfl) ⟨rfl, Nat.ne_of_beq_eq_false rfl⟩ (Nat.le_of_ble_eq_true rfl) rfl ?_
  refine v_push (1) (hz_X10_trueCost hT _ _ rfl) rfl ?_
  refine v_store1 [some (2, 100), some (2, 39), some (0, 0), some (0, 1)] (hz_X10_trueCost hT _ _ rfl) ⟨rfl, Nat.ne_of_beq_eq_false rfl⟩ (Nat.le_of_ble_eq_true rfl) rfl ?_
  exact k0 
theorem qk_tc4_39 {D : zD} {T : zT} (hT : hTab T) (hO : vOK T) {N : Nat} {h : zH} {Q : zR → Prop} {P : PT} {s n b : Nat} (w : Int) (hv0 : zHv h) (hP : cP 39 P h) (hb : fB P) (e7 : h 100 7 = (0, (n : Int))) (e4 : h 104 s = (0, (b : Int))) (b48 : b < 48) (hs : s < 48) (hsn : (s : Int) ≤ (n : Int)) (bw : 0 ≤ w ∧ w ≤ 1000) (hg : 0 ≤ gGr P b ∧ gGr P b ≤ 13)
    (k0 : (0 ≤ (s : Int)) → ((s : Int) < 48) → (0 ≤ (b : Int)) → ((b : Int) < 48) → ((P 1 b) = 3) → Q (h, some (0, -1)))
    (k1 : (0 ≤ (s : Int)) → ((s : Int) < 48) → (0 ≤ (b : Int)) → ((b : Int) < 48) → ((P 1 b) ≠ 3) → vP D T N 140 4 h [some (2, 100), some (2, 39), some (0, (w + (gGr P b))), some (0, ((s : Int) + 1))] [] Q) :
    vP D T (N + 1) 140 4 h [some (2, 100), some (2, 39), some (0, w), some (0, (s : Int))] [] Q := by
  refine v_loadS (v := (0, (s : Int))) (hi_X10_trueCost_4 hT) rfl rfl ?_
  refine v_load (v := (2, 100)) (hi_X10_trueCost_5 hT) rfl rfl ?_
  refine v_getf (v := (0, (n : Int))) (r := 100) (hi_X10_trueCost_6 hT) rfl rfl (fun _ => e7) ?_
  refine v_ic (hi_X10_trueCost_9 hT) (fun hc1 => absurd (show (n : Int) < (s : Int) from hc1) (by omega)) (fun _ => ?_)
  refine v_load (v := (2, 39)) (hz_X10_trueCost hT _ _ rfl) rfl rfl ?_
  refine v_load (v := (2, 100)) (hz_X10_trueCost hT _ _ rfl) rfl rfl ?_
  refine v_getR (c := 104) (r := 100) (hz_X10_trueCost hT _ _ rfl) rfl rfl rfl ?_
  refine v_load (v := (0, (s : Int))) (hz_X10_trueCost hT _ _ rfl) rfl rfl ?_
  refine v_aldB (t := 0) (r := 104) (w := (b : Int)) (hz_X10_trueCost hT _ _ rfl) rfl rfl rfl (fun _ _ => (congrArg Prod.snd e4)) (fun ha2 hb3 => ?_)
  refine v_call (w := 2) [some (2, 39), some (0, (b : Int))] hO (hz_X10_trueCost hT _ _ rfl) rfl rfl ?_
  refine v_load (v := (2, 39)) (hi_X2_isWater_0 hT) rfl rfl ?_
  refine v_getR (c := 40) (r := 39) (hi_X2_isWater_1 hT) rfl rfl rfl ?_
  refine v_load (v := (0, (b : Int))) (hi_X2_isWater_4 hT) rfl rfl ?_
  refine v_aldB (t := 0) (r := 40) (w := (P 1 b)) (hi_X2_isWater_5 hT) rfl rfl rfl (fun _ _ => (congrArg Prod.snd (hP.2.1 b (by omega)))) (fun ha4 hb5 => ?_)
  refine v_push (3) (hi_X2_isWater_6 hT) rfl ?_
  refine v_ic (hi_X2_isWater_7 hT) (fun hc6 => ?_) (fun hc6 => ?_)
  · have hc6 : (P 1 b) = 3 := hc6
    refine v_push (1) (hi_X2_isWater_10 hT) rfl ?_
    refine v_goto (hi_X2_isWater_11 hT) ?_
    refine v_ret (hi_X2_isWater_15 hT) (Or.inl rfl) ?_
    show vP D T N 140 22 h [some (2, 100), some (2, 39), some (0, w), some (0, (s : Int))] [(0, 1)] _
    refine v_if (hi_X10_trueCost_22 hT) (fun hc7 => absurd (show (1 : Int) = 0 from hc7) (by decide)) (fun _ => ?_)
    refine v_push (-1) (hz_X10_trueCost hT _ _ rfl) rfl ?_
    refine v_ret (hz_X10_trueCost hT _ _ rfl) (Or.inl rfl) ?_
    exact k0 ha2 hb3 ha4 hb5 hc6
  · have hc6 : (P 1 b) ≠ 3 := hc6
    refine v_push (0) (hi_X2_isWater_14 hT) rfl ?_
    refine v_ret (hi_X2_isWater_15 hT) (Or.inl rfl) ?_
    show vP D T N 140 22 h [some (2, 100), some (2, 39), some (0, w), some (0, (s : Int))] [(0, 0)] _
    refine v_if (hi_X10_trueCost_22 hT) (fun _ => ?_) (fun hc8 => absurd (show (0 : Int) = 0 from (by decide)) hc8)
    refine v_load (v := (0, w)) (hz_X10_trueCost hT _ _ rfl) rfl rfl ?_
    refine v_load (v := (2, 39)) (hz_X10_trueCost hT _ _ rfl) rfl rfl ?_
    refine v_load (v := (2, 100)) (hz_X10_trueCost hT _ _ rfl) rfl rfl ?_
    refine v_getR (c := 104) (r := 100) (hz_X10_trueCost hT _ _ rfl) rfl rfl rfl ?_
    refine v_load (v := (0, (s : Int))) (hz_X10_trueCost hT _ _ rfl) rfl rfl ?_
    refine v_aldB (t := 0) (r := 104) (w := (b : Int)) (hz_X10_trueCost hT _ _ rfl) rfl rfl rfl (fun _ _ => (congrArg Prod.snd e4)) (fun ha9 hb10 => ?_)
    refine v_call (w := 2) [some (2, 39), some (0, (b : Int))] hO (hz_X10_trueCost hT _ _ rfl) rfl rfl (cb_gr_39 hT hO ((b : Int)) b rfl (by omega) hb hP.2.1 hP.2.2.1 ?_)
    show vP D T N 140 38 h [some (2, 100), some (2, 39), some (0, w), some (0, (s : Int))] [(0, (gGr P b)), (0, w)] _
    refine v_bin (w := (w + (gGr P b))) (hz_X10_trueCost hT _ _ rfl) (hq_add (by omega) (by omega)) ?_
    refine v_store1 [some (2, 100), some (2, 39), some (0, (w + (gGr P b))), some (0, (s : Int))] (hz_X10_trueCost hT _ _ rfl) ⟨rfl, Nat.ne_of_beq_eq_false rfl⟩ (Nat.le_of_ble_eq_true rfl) rfl ?_
    refine v_iinc (x := (s : Int)) (u := 1) (w := ((s : Int) + 1)) [some (2, 100), some (2, 39), some (0, (w + (gGr P b))), some (0, ((s : Int) + 1))] (hz_X10_trueCost hT _ _ rfl) rfl rfl (Nat.le_of_ble_eq_true rfl) (vz_inc (by omega) (by omega)) rfl ?_
    refine v_goto (hz_X10_trueCost hT _ _ rfl) ?_
    exact k1 ha2 hb3 ha4 hb5 hc6
theorem qk_tc9_39 {D : zD} {T : zT} (hT : hTab T) (hO : vOK T) {N : Nat} {h : zH} {Q : zR → Prop} {n : Nat} (w : Int) (hv0 : zHv h) (e7 : h 100 7 = (0, (n : Int)))
    (k0 : Q (h, some (0, w))) :
    vP D T (N + 1) 140 4 h [some (2, 100), some (2, 39), some (0, w), some (0, ((n + 1 : Nat) : Int))] [] Q := by
  refine v_loadS (v := (0, ((n + 1 : Nat) : Int))) (hi_X10_trueCost_4 hT) rfl rfl ?_
  refine v_load (v := (2, 100)) (hi_X10_trueCost_5 hT) rfl rfl ?_
  refine v_getf (v := (0, (n : Int))) (r := 100) (hi_X10_trueCost_6 hT) rfl rfl (fun _ => e7) ?_
  refine v_ic (hi_X10_trueCost_9 hT) (fun _ => ?_) (fun hc1 => absurd (show (n : Int) < ((n + 1 : Nat) : Int) from (by omega)) hc1)
  refine v_load (v := (0, w)) (hz_X10_trueCost hT _ _ rfl) rfl rfl ?_
  refine v_ret (hz_X10_trueCost hT _ _ rfl) (Or.inl rfl) ?_
  exact k0 
section CA_39
variable {D : zD} {T : zT} {N : Nat} {h : zH} {P : PT}
theorem cx_tcL_39 (hT : hTab T) (hO : vOK T) {Q : zR → Prop} {p : Nat → Nat} {n : Nat} (hP : cP 39 P h) (hb : fB P) (hn : n ≤ 47) (hp : tHp p n h) (hg : ∀ i, i ≤ n → gIn P (p i)) : ∀ (f s : Nat) (w : Int), s + f = n + 1 → 1 ≤ s → 0 ≤ w → w + 14 * f ≤ 1000 → (Q (h, some (0, tCg P p f s w))) → vP D T N 140 4 h [some (2, 100), some (2, 39), some (0, w), some (0, (s : Int))] [] Q
  | 0, s, w, hs, _, h0, h1, k => by
    have : s = n + 1 := hs
    subst this
    exact vP_dn (vP_hv (fun hv => qk_tc9_39 hT hO w hv hp.2.1 k))
  | f + 1, s, w, hs, s1, h0, h1, k => by
    have g := hg s (by omega)
    have b48 := g.1
    have cr := gCr_b hb b48
    have gr := gGr_b hb b48
    have k : Q (h, some (0, if P 1 (p s) = 3 then -1 else tCg P p f (s + 1) (w + gCr P (p s)))) := k
    refine vP_dn (vP_hv (fun hv => qk_tc4_39 hT hO w hv hP hb hp.2.1 (hp.1 s (by omega)) b48 (by omega) (by omega) ⟨h0, by omega⟩ gr ?_ ?_))
    · intro _ _ _ _ c
      rw [if_pos c] at k
      exact k
    · intro _ _ _ _ c
      rw [if_neg c] at k
      have e : gGr P (p s) = gCr P (p s) := if_neg c
      rw [e]
      exact cx_tcL_39 hT hO hP hb hn hp hg f (s + 1) _ (by omega) (by omega) (by omega) (by omega) k
theorem cq_truly_39 (hT : hTab T) (hO : vOK T) (hP : cP 39 P h) (hb : fB P) (e7 : h 0 7 = (2, 39)) (x : Int) : vP D T N 189 0 h [some (2, 0), some (0, x), none] [] (fun r => r.2 = some (0, trV P x)) := by
  have lb := hb.1
  have l6 := lb.2.2.2.2
  have no : ¬ (okM P x ∧ mC P x.toNat ≠ -1) → (some ((0, -1) : zV)) = some (0, trV P x) := fun c => by
    unfold trV
    rw [if_neg c]
  refine vP_hv (fun hv => qt_truly0_39 (P := P) hT hO x hv e7 hP.1.1 hP.1.2.1 hP.1.2.2.1 hP.1.2.2.2.1 lb ?k0 ?k1 ?k2)
  case k1 =>
    intro c1 c2
    obtain ⟨a, rfl⟩ : ∃ a : Nat, x = (a : Int) := ⟨x.toNat, by omega⟩
    refine vP_hv (fun hv => qt_truly17_39 hT hO hv e7 ?_)
    refine cx_fw_39 hT hO _ a rfl hP hb c2 (fun g w1 _ w3 => ?_)
    have hP1 : cP 39 P g := hP.eq (fun i k h1 h2 => w1 i k (by omega))
    by_cases c : mC P a = -1
    · have c' : yCost P (gCo P (P 8 a).toNat) (P 6 a).toNat (P 7 a).toNat = -1 := c
      rw [c']
      exact vP_hv (fun hv => qt_truly29n hT hO hv (no (fun d => d.2 c)))
    · have c0 := mC_n hb c2 c
      obtain ⟨n47, hg⟩ := mP_ok hb c2 c0
      obtain ⟨_, ⟨_, g6⟩, _⟩ := hb.2.2.2 a c2
      have hp := w3.2 ((yCost_f g6).mp c0)
      have e2 : trV P (a : Int) = tCg P (mP P a) (mN P a) 1 0 := if_pos ⟨⟨c1, c2⟩, c⟩
      rw [e2]
      show vP D T N 189 29 g [some (2, 0), some (0, (a : Int)), none] [(0, mC P a)] _
      refine vP_hv (fun hv => qt_truly29_39 hT hO (mC P a) hv ((w1 0 7 (by omega)).trans e7) c ?_)
      refine vP_hv (fun hv => qk_tc0_39 hT hO hv ?_)
      refine cx_tcL_39 (p := mP P a) (n := mN P a) hT hO hP1 hb n47 hp hg (mN P a) 1 0 (by omega) (by omega) (by omega) ?_ ?_
      · have : mN P a ≤ 47 := n47
        omega
      · exact vP_hv (fun hv => qt_truly51 hT hO _ hv (fun e => by
          show some ((0, -1) : zV) = some (0, tCg P (mP P a) (mN P a) 1 0)
          rw [e]) (fun _ => rfl))
  all_goals
    intros
    exact no (by rintro ⟨⟨o1, o2⟩, _⟩; omega)
end CA_39
