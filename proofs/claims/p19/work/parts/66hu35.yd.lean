theorem qr_cw0 {D : zD} {T : zT} (hT : hTab T) (hO : vOK T) {N : Nat} {h : zH} {Q : zR → Prop} {P : PT} {m : Nat} (hv0 : zHv h) (hR : rBk 0 P h) (hm : (m : Int) < P 0 3) (m6 : m < 6) (eb : h 126 (263 + (m : Int)).toNat = (0, P 8 m)) (ea : h 126 (245 + (m : Int)).toNat = (0, ((gJ P (P 6 m).toNat : Nat) : Int))) (eg : h 126 (251 + (m : Int)).toNat = (0, ((gJ P (P 7 m).toNat : Nat) : Int)))
    (k0 : (0 ≤ (263 + (m : Int))) → ((263 + (m : Int)) < 2750) → (0 ≤ (245 + (m : Int))) → ((245 + (m : Int)) < 2750) → (0 ≤ (251 + (m : Int))) → ((251 + (m : Int)) < 2750) → vP D T N 336 0 h [some (2, 121), some (0, (P 8 m)), some (0, ((gJ P (P 6 m).toNat : Nat) : Int)), some (0, ((gJ P (P 7 m).toNat : Nat) : Int)), none, none, none, none] [] (fun r1 => vP D T N 210 34 r1.1 [some (2, 121), some (0, (m : Int))] (zpush r1.2 []) Q)) :
    vP D T N 210 0 h [some (2, 121), some (0, (m : Int))] [] Q := by
  refine v_load (v := (2, 121)) (hz_X12_companyWay hT _ _ rfl) rfl rfl ?_
  refine v_load (v := (2, 121)) (hz_X12_companyWay hT _ _ rfl) rfl rfl ?_
  refine v_getR (c := 126) (r := 121) (hz_X12_companyWay hT _ _ rfl) rfl rfl rfl ?_
  refine v_push (263) (hz_X12_companyWay hT _ _ rfl) rfl ?_
  refine v_load (v := (0, (m : Int))) (hz_X12_companyWay hT _ _ rfl) rfl rfl ?_
  refine v_bin (w := (263 + (m : Int))) (hz_X12_companyWay hT _ _ rfl) (hq_add (by omega) (by omega)) ?_
  refine v_aldB (t := 0) (r := 126) (w := (P 8 m)) (hz_X12_companyWay hT _ _ rfl) rfl rfl rfl (fun _ _ => (congrArg Prod.snd eb)) (fun ha1 hb2 => ?_)
  refine v_load (v := (2, 121)) (hz_X12_companyWay hT _ _ rfl) rfl rfl ?_
  refine v_getR (c := 126) (r := 121) (hz_X12_companyWay hT _ _ rfl) rfl rfl rfl ?_
  refine v_push (245) (hz_X12_companyWay hT _ _ rfl) rfl ?_
  refine v_load (v := (0, (m : Int))) (hz_X12_companyWay hT _ _ rfl) rfl rfl ?_
  refine v_bin (w := (245 + (m : Int))) (hz_X12_companyWay hT _ _ rfl) (hq_add (by omega) (by omega)) ?_
  refine v_aldB (t := 0) (r := 126) (w := ((gJ P (P 6 m).toNat : Nat) : Int)) (hz_X12_companyWay hT _ _ rfl) rfl rfl rfl (fun _ _ => (congrArg Prod.snd ea)) (fun ha3 hb4 => ?_)
  refine v_load (v := (2, 121)) (hz_X12_companyWay hT _ _ rfl) rfl rfl ?_
  refine v_getR (c := 126) (r := 121) (hz_X12_companyWay hT _ _ rfl) rfl rfl rfl ?_
  refine v_push (251) (hz_X12_companyWay hT _ _ rfl) rfl ?_
  refine v_load (v := (0, (m : Int))) (hz_X12_companyWay hT _ _ rfl) rfl rfl ?_
  refine v_bin (w := (251 + (m : Int))) (hz_X12_companyWay hT _ _ rfl) (hq_add (by omega) (by omega)) ?_
  refine v_aldB (t := 0) (r := 126) (w := ((gJ P (P 7 m).toNat : Nat) : Int)) (hz_X12_companyWay hT _ _ rfl) rfl rfl rfl (fun _ _ => (congrArg Prod.snd eg)) (fun ha5 hb6 => ?_)
  refine v_call (w := 8) [some (2, 121), some (0, (P 8 m)), some (0, ((gJ P (P 6 m).toNat : Nat) : Int)), some (0, ((gJ P (P 7 m).toNat : Nat) : Int)), none, none, none, none] hO (hz_X12_companyWay hT _ _ rfl) rfl rfl ?_
  exact k0 ha1 hb2 ha3 hb4 ha5 hb6
theorem qr_cw34 {D : zD} {T : zT} (hT : hTab T) (hO : vOK T) {N : Nat} {h : zH} {Q : zR → Prop} {m : Nat} (p : Int) (hv0 : zHv h)
    (k0 : Q (h, some (0, p))) :
    vP D T N 210 34 h [some (2, 121), some (0, (m : Int))] [(0, p)] Q := by
  refine v_ret (hz_X12_companyWay hT _ _ rfl) (Or.inl rfl) ?_
  exact k0 
theorem qr_iw0 {D : zD} {T : zT} (hT : hTab T) (hO : vOK T) {N : Nat} {h : zH} {Q : zR → Prop} {P : PT} {j q : Nat} (hv0 : zHv h)
    (k0 : vP D T N 264 2 h [some (2, 121), some (0, (j : Int)), some (0, ((gJ P q : Nat) : Int)), some (0, 0)] [] Q) :
    vP D T N 264 0 h [some (2, 121), some (0, (j : Int)), some (0, ((gJ P q : Nat) : Int)), none] [] Q := by
  refine v_push (0) (hz_X12_isWanted hT _ _ rfl) rfl ?_
  refine v_store1 [some (2, 121), some (0, (j : Int)), some (0, ((gJ P q : Nat) : Int)), some (0, 0)] (hz_X12_isWanted hT _ _ rfl) ⟨rfl, Nat.ne_of_beq_eq_false rfl⟩ (Nat.le_of_ble_eq_true rfl) rfl ?_
  exact k0 
theorem qr_iw2 {D : zD} {T : zT} (hT : hTab T) (hO : vOK T) {N : Nat} {h : zH} {Q : zR → Prop} {P : PT} {j q m : Nat} (hv0 : zHv h) (hR : rBk 0 P h) (hm : (m : Int) < P 0 3) (m6 : m < 6) (eb : h 126 (263 + (m : Int)).toNat = (0, P 8 m)) (ea : h 126 (245 + (m : Int)).toNat = (0, ((gJ P (P 6 m).toNat : Nat) : Int))) (eg : h 126 (251 + (m : Int)).toNat = (0, ((gJ P (P 7 m).toNat : Nat) : Int)))
    (k0 : (0 ≤ (263 + (m : Int))) → ((263 + (m : Int)) < 2750) → ((P 8 m) = (j : Int)) → (0 ≤ (245 + (m : Int))) → ((245 + (m : Int)) < 2750) → (((gJ P (P 6 m).toNat : Nat) : Int) = ((gJ P q : Nat) : Int)) → Q (h, some (0, 1)))
    (k1 : (0 ≤ (263 + (m : Int))) → ((263 + (m : Int)) < 2750) → ((P 8 m) = (j : Int)) → (0 ≤ (245 + (m : Int))) → ((245 + (m : Int)) < 2750) → (((gJ P (P 6 m).toNat : Nat) : Int) ≠ ((gJ P q : Nat) : Int)) → (0 ≤ (251 + (m : Int))) → ((251 + (m : Int)) < 2750) → (((gJ P (P 7 m).toNat : Nat) : Int) = ((gJ P q : Nat) : Int)) → Q (h, some (0, 1)))
    (k2 : (0 ≤ (263 + (m : Int))) → ((263 + (m : Int)) < 2750) → ((P 8 m) = (j : Int)) → (0 ≤ (245 + (m : Int))) → ((245 + (m : Int)) < 2750) → (((gJ P (P 6 m).toNat : Nat) : Int) ≠ ((gJ P q : Nat) : Int)) → (0 ≤ (251 + (m : Int))) → ((251 + (m : Int)) < 2750) → (((gJ P (P 7 m).toNat : Nat) : Int) ≠ ((gJ P q : Nat) : Int)) → vP D T N 264 2 h [some (2, 121), some (0, (j : Int)), some (0, ((gJ P q : Nat) : Int)), some (0, ((m : Int) + 1))] [] Q)
    (k3 : (0 ≤ (263 + (m : Int))) → ((263 + (m : Int)) < 2750) → ((P 8 m) ≠ (j : Int)) → vP D T N 264 2 h [some (2, 121), some (0, (j : Int)), some (0, ((gJ P q : Nat) : Int)), some (0, ((m : Int) + 1))] [] Q) :
    vP D T (N + 1) 264 2 h [some (2, 121), some (0, (j : Int)), some (0, ((gJ P q : Nat) : Int)), some (0, (m : Int))] [] Q := by
  refine v_loadS (v := (0, (m : Int))) (hz_X12_isWanted hT _ _ rfl) rfl rfl ?_
  refine v_load (v := (2, 121)) (hz_X12_isWanted hT _ _ rfl) rfl rfl ?_
  refine v_getR (c := 126) (r := 121) (hz_X12_isWanted hT _ _ rfl) rfl rfl rfl ?_
  refine v_push (3) (hz_X12_isWanted hT _ _ rfl) rfl ?_
  refine v_aldV (v := (0, (P 0 3))) (r := 126) (hz_X12_isWanted hT _ _ rfl) rfl rfl (fun _ _ _ => hR.m) (fun ha1 hb2 => ?_)
  refine v_ic (hz_X12_isWanted hT _ _ rfl) (fun _ => ?_) (fun hc3 => absurd (show (m : Int) < (P 0 3) from hm) hc3)
  refine v_load (v := (2, 121)) (hz_X12_isWanted hT _ _ rfl) rfl rfl ?_
  refine v_getR (c := 126) (r := 121) (hz_X12_isWanted hT _ _ rfl) rfl rfl rfl ?_
  refine v_push (263) (hz_X12_isWanted hT _ _ rfl) rfl ?_
  refine v_load (v := (0, (m : Int))) (hz_X12_isWanted hT _ _ rfl) rfl rfl ?_
  refine v_bin (w := (263 + (m : Int))) (hz_X12_isWanted hT _ _ rfl) (hq_add (by omega) (by omega)) ?_
  refine v_aldB (t := 0) (r := 126) (w := (P 8 m)) (hz_X12_isWanted hT _ _ rfl) rfl rfl rfl (fun _ _ => (congrArg Prod.snd eb)) (fun ha4 hb5 => ?_)
  refine v_load (v := (0, (j : Int))) (hz_X12_isWanted hT _ _ rfl) rfl rfl ?_
  refine v_ic (hz_X12_isWanted hT _ _ rfl) (fun hc6 => ?_) (fun hc6 => ?_)
  · have hc6 : (P 8 m) = (j : Int) := hc6
    refine v_load (v := (2, 121)) (hz_X12_isWanted hT _ _ rfl) rfl rfl ?_
    refine v_getR (c := 126) (r := 121) (hz_X12_isWanted hT _ _ rfl) rfl rfl rfl ?_
    refine v_push (245) (hz_X12_isWanted hT _ _ rfl) rfl ?_
    refine v_load (v := (0, (m : Int))) (hz_X12_isWanted hT _ _ rfl) rfl rfl ?_
    refine v_bin (w := (245 + (m : Int))) (hz_X12_isWanted hT _ _ rfl) (hq_add (by omega) (by omega)) ?_
    refine v_aldB (t := 0) (r := 126) (w := ((gJ P (P 6 m).toNat : Nat) : Int)) (hz_X12_isWanted hT _ _ rfl) rfl rfl rfl (fun _ _ => (congrArg Prod.snd ea)) (fun ha7 hb8 => ?_)
    refine v_load (v := (0, ((gJ P q : Nat) : Int))) (hz_X12_isWanted hT _ _ rfl) rfl rfl ?_
    refine v_ic (hz_X12_isWanted hT _ _ rfl) (fun hc9 => ?_) (fun hc9 => ?_)
    · have hc9 : ((gJ P (P 6 m).toNat : Nat) : Int) = ((gJ P q : Nat) : Int) := hc9
      refine v_push (1) (hz_X12_isWanted hT _ _ rfl) rfl ?_
      refine v_ret (hz_X12_isWanted hT _ _ rfl) (Or.inl rfl) ?_
      exact k0 ha4 hb5 hc6 ha7 hb8 hc9
    · have hc9 : ((gJ P (P 6 m).toNat : Nat) : Int) ≠ ((gJ P q : Nat) : Int) := hc9
      refine v_load (v := (2, 121)) (hz_X12_isWanted hT _ _ rfl) rfl rfl ?_
      refine v_getR (c := 126) (r := 121) (hz_X12_isWanted hT _ _ rfl) rfl rfl rfl ?_
      refine v_push (251) (hz_X12_isWanted hT _ _ rfl) rfl ?_
      refine v_load (v := (0, (m : Int))) (hz_X12_isWanted hT _ _ rfl) rfl rfl ?_
      refine v_bin (w := (251 + (m : Int))) (hz_X12_isWanted hT _ _ rfl) (hq_add (by omega) (by omega)) ?_
      refine v_aldB (t := 0) (r := 126) (w := ((gJ P (P 7 m).toNat : Nat) : Int)) (hz_X12_isWanted hT _ _ rfl) rfl rfl rfl (fun _ _ => (congrArg Prod.snd eg)) (fun ha10 hb11 => ?_)
      refine v_load (v := (0, ((gJ P q : Nat) : Int))) (hz_X12_isWanted hT _ _ rfl) rfl rfl ?_
      refine v_ic (hz_X12_isWanted hT _ _ rfl) (fun hc12 => ?_) (fun hc12 => ?_)
      · have hc12 : ((gJ P (P 7 m).toNat : Nat) : Int) = ((gJ P q : Nat) : Int) := hc12
        refine v_push (1) (hz_X12_isWanted hT _ _ rfl) rfl ?_
        refine v_ret (hz_X12_isWanted hT _ _ rfl) (Or.inl rfl) ?_
        exact k1 ha4 hb5 hc6 ha7 hb8 hc9 ha10 hb11 hc12
      · have hc12 : ((gJ P (P 7 m).toNat : Nat) : Int) ≠ ((gJ P q : Nat) : Int) := hc12
        refine v_iinc (x := (m : Int)) (u := 1) (w := ((m : Int) + 1)) [some (2, 121), some (0, (j : Int)), some (0, ((gJ P q : Nat) : Int)), some (0, ((m : Int) + 1))] (hz_X12_isWanted hT _ _ rfl) rfl rfl (Nat.le_of_ble_eq_true rfl) (vz_inc (by omega) (by omega)) rfl ?_
        refine v_goto (hz_X12_isWanted hT _ _ rfl) ?_
        exact k2 ha4 hb5 hc6 ha7 hb8 hc9 ha10 hb11 hc12
  · have hc6 : (P 8 m) ≠ (j : Int) := hc6
    refine v_iinc (x := (m : Int)) (u := 1) (w := ((m : Int) + 1)) [some (2, 121), some (0, (j : Int)), some (0, ((gJ P q : Nat) : Int)), some (0, ((m : Int) + 1))] (hz_X12_isWanted hT _ _ rfl) rfl rfl (Nat.le_of_ble_eq_true rfl) (vz_inc (by omega) (by omega)) rfl ?_
    refine v_goto (hz_X12_isWanted hT _ _ rfl) ?_
    exact k3 ha4 hb5 hc6
theorem qr_iw9 {D : zD} {T : zT} (hT : hTab T) (hO : vOK T) {N : Nat} {h : zH} {Q : zR → Prop} {P : PT} {j q m : Nat} (hv0 : zHv h) (p3 : h 126 3 = (0, P 0 3)) (hm : P 0 3 ≤ (m : Int))
    (k0 : Q (h, some (0, 0))) :
    vP D T (N + 1) 264 2 h [some (2, 121), some (0, (j : Int)), some (0, ((gJ P q : Nat) : Int)), some (0, (m : Int))] [] Q := by
  refine v_loadS (v := (0, (m : Int))) (hz_X12_isWanted hT _ _ rfl) rfl rfl ?_
  refine v_load (v := (2, 121)) (hz_X12_isWanted hT _ _ rfl) rfl rfl ?_
  refine v_getR (c := 126) (r := 121) (hz_X12_isWanted hT _ _ rfl) rfl rfl rfl ?_
  refine v_push (3) (hz_X12_isWanted hT _ _ rfl) rfl ?_
  refine v_aldV (v := (0, (P 0 3))) (r := 126) (hz_X12_isWanted hT _ _ rfl) rfl rfl (fun _ _ _ => p3) (fun ha1 hb2 => ?_)
  refine v_ic (hz_X12_isWanted hT _ _ rfl) (fun hc3 => absurd (show (m : Int) < (P 0 3) from hc3) (by omega)) (fun _ => ?_)
  refine v_push (0) (hz_X12_isWanted hT _ _ rfl) rfl ?_
  refine v_ret (hz_X12_isWanted hT _ _ rfl) (Or.inl rfl) ?_
  exact k0 
theorem qr_if0 {D : zD} {T : zT} (hT : hTab T) (hO : vOK T) {N : Nat} {h : zH} {Q : zR → Prop} {P : PT} {j q : Nat} (hv0 : zHv h) (hR : rBk 0 P h) (hb : fB P) (hj : j < 3) (gq : gIn P q) (hn : gJ P q < 48)
    (k0 : ((P 3 (48 * j + q)) = 1) → Q (h, some (0, 0)))
    (k1 : ((P 3 (48 * j + q)) ≠ 1) → vP D T N 264 0 h [some (2, 121), some (0, (j : Int)), some (0, ((gJ P q : Nat) : Int)), none] [] (fun r1 => vP D T N 251 16 r1.1 [some (2, 121), some (0, (j : Int)), some (0, ((gJ P q : Nat) : Int))] (zpush r1.2 []) Q)) :
    vP D T N 251 0 h [some (2, 121), some (0, (j : Int)), some (0, ((gJ P q : Nat) : Int))] [] Q := by
  refine v_load (v := (2, 121)) (hz_X12_isFood hT _ _ rfl) rfl rfl ?_
  refine v_load (v := (0, (j : Int))) (hz_X12_isFood hT _ _ rfl) rfl rfl ?_
  refine v_load (v := (0, ((gJ P q : Nat) : Int))) (hz_X12_isFood hT _ _ rfl) rfl rfl ?_
  refine v_call (w := 3) [some (2, 121), some (0, (j : Int)), some (0, ((gJ P q : Nat) : Int))] hO (hz_X12_isFood hT _ _ rfl) rfl rfl (rb_st hT hO ((j : Int)) j q rfl (by omega) gq hR hb ?_)
  show vP D T N 251 6 h [some (2, 121), some (0, (j : Int)), some (0, ((gJ P q : Nat) : Int))] [(0, (P 3 (48 * j + q)))] _
  refine v_push (1) (hz_X12_isFood hT _ _ rfl) rfl ?_
  refine v_ic (hz_X12_isFood hT _ _ rfl) (fun hc1 => ?_) (fun hc1 => ?_)
  · have hc1 : (P 3 (48 * j + q)) = 1 := hc1
    refine v_push (0) (hz_X12_isFood hT _ _ rfl) rfl ?_
    refine v_ret (hz_X12_isFood hT _ _ rfl) (Or.inl rfl) ?_
    exact k0 hc1
  · have hc1 : (P 3 (48 * j + q)) ≠ 1 := hc1
    refine v_load (v := (2, 121)) (hz_X12_isFood hT _ _ rfl) rfl rfl ?_
    refine v_load (v := (0, (j : Int))) (hz_X12_isFood hT _ _ rfl) rfl rfl ?_
    refine v_load (v := (0, ((gJ P q : Nat) : Int))) (hz_X12_isFood hT _ _ rfl) rfl rfl ?_
    refine v_call (w := 4) [some (2, 121), some (0, (j : Int)), some (0, ((gJ P q : Nat) : Int)), none] hO (hz_X12_isFood hT _ _ rfl) rfl rfl ?_
    exact k1 hc1
theorem qr_if16_0 {D : zD} {T : zT} (hT : hTab T) (hO : vOK T) {N : Nat} {h : zH} {Q : zR → Prop} {P : PT} {j q : Nat} (hv0 : zHv h)
    (k0 : Q (h, some (0, 1))) :
    vP D T N 251 16 h [some (2, 121), some (0, (j : Int)), some (0, ((gJ P q : Nat) : Int))] [(0, 0)] Q := by
  refine v_if (hz_X12_isFood hT _ _ rfl) (fun _ => ?_) (fun hc1 => absurd (show (0 : Int) = 0 from (by omega)) hc1)
  refine v_push (1) (hz_X12_isFood hT _ _ rfl) rfl ?_
  refine v_goto (hz_X12_isFood hT _ _ rfl) ?_
  refine v_ret (hz_X12_isFood hT _ _ rfl) (Or.inl rfl) ?_
  exact k0 
theorem qr_if16_1 {D : zD} {T : zT} (hT : hTab T) (hO : vOK T) {N : Nat} {h : zH} {Q : zR → Prop} {P : PT} {j q : Nat} (hv0 : zHv h)
    (k0 : Q (h, some (0, 0))) :
    vP D T N 251 16 h [some (2, 121), some (0, (j : Int)), some (0, ((gJ P q : Nat) : Int))] [(0, 1)] Q := by
  refine v_if (hz_X12_isFood hT _ _ rfl) (fun hc1 => absurd (show (1 : Int) = 0 from hc1) (by omega)) (fun _ => ?_)
  refine v_push (0) (hz_X12_isFood hT _ _ rfl) rfl ?_
  refine v_ret (hz_X12_isFood hT _ _ rfl) (Or.inl rfl) ?_
  exact k0 
/-! what to eat: the reference's helpers -/
noncomputable def cwC (P : PT) (m : Nat) : Int := if mC P m = -1 then 1000000 else mC P m
theorem rx_cw {D : zD} {T : zT} (hT : hTab T) (hO : vOK T) {N : Nat} {h : zH} {Q : zR → Prop} {P : PT} (m : Nat) (hR : rBk 0 P h) (hb : fB P) (hm : (m : Int) < P 0 3) (k : ∀ g : zH, (∀ a b, a ≠ 130 → g a b = h a b) → Q (g, some (0, cwC P m))) : vP D T N 210 0 h [some (2, 121), some (0, (m : Int))] [] Q := by
  obtain ⟨lb, _, _, hk⟩ := id hb
  obtain ⟨_, ⟨b6, g6⟩, ⟨b7, g7⟩, b8, c8⟩ := hk m hm
  have m6 : m < 6 := by have := lb.2.2.2.2; omega
  have l3 := lb.2.2.1.2
  refine vP_hv (fun hv => qr_cw0 hT hO hv hR hm m6 (hR.by hm) (hR.at hm) (hR.go hm) ?_)
  intros
  refine rx_wo hT hO (co := gCo P (P 8 m).toNat) (P 8 m) (P 6 m).toNat (P 7 m).toNat hR hb (by omega) (by omega) g6 g7 (fun q gq => ?_) (fun g d u hd _ => ?_)
  · have e1 : gCo P (P 8 m).toNat q = gSh P (P 8 m).toNat q := if_neg (by rw [gIx_y gq]; decide)
    have e2 : rC P (P 8 m) q = gSh P (P 8 m).toNat q := if_neg (by omega)
    rw [e1, e2]
  · have e : d (P 6 m).toNat = dW P (gCo P (P 8 m).toNat) (P 7 m).toNat (P 6 m).toNat := wD_uni g100_p hd dW_ok g6
    have w6 : wFar = 1000000 := rfl
    have bd := (dW_ok (P := P) (co := gCo P (P 8 m).toNat) (to := (P 7 m).toNat)).2.1.1 _ g6
    have ev : (if d (P 6 m).toNat = 1000000 then (1000000 : Int) else d (P 6 m).toNat / 100) = cwC P m := by
      unfold cwC mC yCost
      rw [e]
      by_cases c : dW P (gCo P (P 8 m).toNat) (P 7 m).toNat (P 6 m).toNat < wFar
      · rw [if_pos c, if_neg (by omega), if_neg (by omega)]
      · rw [if_neg c, if_pos rfl, if_pos (by omega)]
    rw [ev]
    exact vP_hv (fun hv => qr_cw34 hT hO _ hv (k g u))
def iwP (P : PT) (j q : Nat) : Prop := ∃ m : Nat, (m : Int) < P 0 3 ∧ P 8 m = (j : Int) ∧ (P 6 m = (q : Int) ∨ P 7 m = (q : Int))
theorem rx_iwL {D : zD} {T : zT} (hT : hTab T) (hO : vOK T) {N : Nat} {h : zH} {Q : zR → Prop} {P : PT} {j q : Nat} (hR : rBk 0 P h) (hb : fB P) (gq : gIn P q) (k1 : iwP P j q → Q (h, some (0, 1))) (k2 : ¬ iwP P j q → Q (h, some (0, 0))) : ∀ (r m : Nat), (m : Int) + (r : Int) = P 0 3 → (∀ n : Nat, n < m → ¬ (P 8 n = (j : Int) ∧ (P 6 n = (q : Int) ∨ P 7 n = (q : Int)))) → vP D T N 264 2 h [some (2, 121), some (0, (j : Int)), some (0, ((gJ P q : Nat) : Int)), some (0, (m : Int))] [] Q
  | 0, m, hm, hn => by
    refine vP_dn (vP_hv (fun hv => qr_iw9 hT hO hv hR.m (by omega) (k2 ?_)))
    rintro ⟨n, c1, c2⟩
    exact hn n (by omega) c2
  | r + 1, m, hm, hn => by
    have lb := hb.1
    have h3 : (m : Int) < P 0 3 := by omega
    obtain ⟨_, ⟨b6, g6⟩, ⟨b7, g7⟩, b8, c8⟩ := hb.2.2.2 m h3
    have m6 : m < 6 := by have := lb.2.2.2.2; omega
    have nx : ¬ (P 8 m = (j : Int) ∧ (P 6 m = (q : Int) ∨ P 7 m = (q : Int))) → vP D T N 264 2 h [some (2, 121), some (0, (j : Int)), some (0, ((gJ P q : Nat) : Int)), some (0, ((m + 1 : Nat) : Int))] [] Q := fun c => rx_iwL hT hO hR hb gq k1 k2 r (m + 1) (by omega) (fun n hn' => by
      by_cases e : n = m
      · rw [e]; exact c
      · exact hn n (by omega))
    refine vP_dn (vP_hv (fun hv => qr_iw2 hT hO hv hR h3 m6 (hR.by h3) (hR.at h3) (hR.go h3) (fun _ _ c1 _ _ c2 => k1 ⟨m, h3, c1, Or.inl ?_⟩) (fun _ _ c1 _ _ _ _ _ c2 => k1 ⟨m, h3, c1, Or.inr ?_⟩) (fun _ _ _ _ _ c1 _ _ c2 => nx ?_) (fun _ _ c1 => nx (fun d => c1 d.1))))
    · have := gJ_inj lb g6 gq (by omega)
      omega
    · have := gJ_inj lb g7 gq (by omega)
      omega
    · rintro ⟨_, d | d⟩
      · exact c1 (by rw [d, Int.toNat_natCast])
      · exact c2 (by rw [d, Int.toNat_natCast])
def ifP (P : PT) (j q : Nat) : Prop := P 3 (48 * j + q) ≠ 1 ∧ ¬ iwP P j q
theorem rx_if {D : zD} {T : zT} (hT : hTab T) (hO : vOK T) {N : Nat} {h : zH} {Q : zR → Prop} {P : PT} {j q : Nat} (hR : rBk 0 P h) (hb : fB P) (hj : j < 3) (gq : gIn P q) (k1 : ifP P j q → Q (h, some (0, 1))) (k2 : ¬ ifP P j q → Q (h, some (0, 0))) : vP D T N 251 0 h [some (2, 121), some (0, (j : Int)), some (0, ((gJ P q : Nat) : Int))] [] Q := by
  have l0 := hb.1.2.2.2.1
  refine vP_hv (fun hv => qr_if0 hT hO hv hR hb hj gq (gJ_lt hb.1 gq) (fun c => k2 (fun d => d.1 c)) (fun c => ?_))
  refine vP_hv (fun hv => qr_iw0 hT hO hv ?_)
  refine rx_iwL hT hO hR hb gq (fun d => ?_) (fun d => ?_) (P 0 3).toNat 0 (by omega) (fun n hn => absurd hn (Nat.not_lt_zero _))
  · exact vP_hv (fun hv => qr_if16_1 hT hO hv (k2 (fun f => f.2 d)))
  · exact vP_hv (fun hv => qr_if16_0 hT hO hv (k1 ⟨c, d⟩))
