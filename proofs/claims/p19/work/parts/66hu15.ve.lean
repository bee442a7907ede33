theorem qr_tc0 {D : zD} {T : zT} (hT : hTab T) (hO : vOK T) {N : Nat} {h : zH} {Q : zR → Prop} {P : PT} {m : Nat} (hv0 : zHv h) (hR : rBk 0 P h) (hm : (m : Int) < P 0 3) (m6 : m < 6) (eb : h 126 (263 + (m : Int)).toNat = (0, P 8 m)) (ea : h 126 (245 + (m : Int)).toNat = (0, ((gJ P (P 6 m).toNat : Nat) : Int))) (eg : h 126 (251 + (m : Int)).toNat = (0, ((gJ P (P 7 m).toNat : Nat) : Int)))
    (k0 : (0 ≤ (263 + (m : Int))) → ((263 + (m : Int)) < 2750) → (0 ≤ (245 + (m : Int))) → ((245 + (m : Int)) < 2750) → (0 ≤ (251 + (m : Int))) → ((251 + (m : Int)) < 2750) → vP D T N 324 0 h [some (2, 121), some (0, (P 8 m)), some (0, ((gJ P (P 6 m).toNat : Nat) : Int)), some (0, ((gJ P (P 7 m).toNat : Nat) : Int)), none, none, none] [] (fun r1 => vP D T N 323 34 r1.1 [some (2, 121), some (0, (m : Int))] (zpush r1.2 []) Q)) :
    vP D T N 323 0 h [some (2, 121), some (0, (m : Int))] [] Q := by
  refine v_load (v := (2, 121)) (hz_X12_tellCompany hT _ _ rfl) rfl rfl ?_
  refine v_load (v := (2, 121)) (hz_X12_tellCompany hT _ _ rfl) rfl rfl ?_
  refine v_getR (c := 126) (r := 121) (hz_X12_tellCompany hT _ _ rfl) rfl rfl rfl ?_
  refine v_push (263) (hz_X12_tellCompany hT _ _ rfl) rfl ?_
  refine v_load (v := (0, (m : Int))) (hz_X12_tellCompany hT _ _ rfl) rfl rfl ?_
  refine v_bin (w := (263 + (m : Int))) (hz_X12_tellCompany hT _ _ rfl) (hq_add (by omega) (by omega)) ?_
  refine v_aldB (t := 0) (r := 126) (w := (P 8 m)) (hz_X12_tellCompany hT _ _ rfl) rfl rfl rfl (fun _ _ => (congrArg Prod.snd eb)) (fun ha1 hb2 => ?_)
  refine v_load (v := (2, 121)) (hz_X12_tellCompany hT _ _ rfl) rfl rfl ?_
  refine v_getR (c := 126) (r := 121) (hz_X12_tellCompany hT _ _ rfl) rfl rfl rfl ?_
  refine v_push (245) (hz_X12_tellCompany hT _ _ rfl) rfl ?_
  refine v_load (v := (0, (m : Int))) (hz_X12_tellCompany hT _ _ rfl) rfl rfl ?_
  refine v_bin (w := (245 + (m : Int))) (hz_X12_tellCompany hT _ _ rfl) (hq_add (by omega) (by omega)) ?_
  refine v_aldB (t := 0) (r := 126) (w := ((gJ P (P 6 m).toNat : Nat) : Int)) (hz_X12_tellCompany hT _ _ rfl) rfl rfl rfl (fun _ _ => (congrArg Prod.snd ea)) (fun ha3 hb4 => ?_)
  refine v_load (v := (2, 121)) (hz_X12_tellCompany hT _ _ rfl) rfl rfl ?_
  refine v_getR (c := 126) (r := 121) (hz_X12_tellCompany hT _ _ rfl) rfl rfl rfl ?_
  refine v_push (251) (hz_X12_tellCompany hT _ _ rfl) rfl ?_
  refine v_load (v := (0, (m : Int))) (hz_X12_tellCompany hT _ _ rfl) rfl rfl ?_
  refine v_bin (w := (251 + (m : Int))) (hz_X12_tellCompany hT _ _ rfl) (hq_add (by omega) (by omega)) ?_
  refine v_aldB (t := 0) (r := 126) (w := ((gJ P (P 7 m).toNat : Nat) : Int)) (hz_X12_tellCompany hT _ _ rfl) rfl rfl rfl (fun _ _ => (congrArg Prod.snd eg)) (fun ha5 hb6 => ?_)
  refine v_call (w := 7) [some (2, 121), some (0, (P 8 m)), some (0, ((gJ P (P 6 m).toNat : Nat) : Int)), some (0, ((gJ P (P 7 m).toNat : Nat) : Int)), none, none, none] hO (hz_X12_tellCompany hT _ _ rfl) rfl rfl ?_
  exact k0 ha1 hb2 ha3 hb4 ha5 hb6
theorem qr_tc34 {D : zD} {T : zT} (hT : hTab T) (hO : vOK T) {N : Nat} {h : zH} {Q : zR → Prop} {m : Nat} (p : Int) (hv0 : zHv h)
    (k0 : Q (h, some (0, p))) :
    vP D T N 323 34 h [some (2, 121), some (0, (m : Int))] [(0, p)] Q := by
  refine v_ret (hz_X12_tellCompany hT _ _ rfl) (Or.inl rfl) ?_
  exact k0 
/-- tellCompany() -/
theorem rx_tc {D : zD} {T : zT} (hT : hTab T) (hO : vOK T) {N : Nat} {h : zH} {Q : zR → Prop} {P : PT} (x : Int) (m : Nat) (ex : x = (m : Int)) (hR : rBk 0 P h) (hb : fB P) (hm : (m : Int) < P 0 3) (k1 : ∀ g : zH, rwF h g → yCost P (gCo P (P 8 m).toNat) (P 6 m).toNat (P 7 m).toNat = -1 → Q (g, some (0, 1000000))) (k2 : ∀ g : zH, rwF h g → 0 ≤ yCost P (gCo P (P 8 m).toNat) (P 6 m).toNat (P 7 m).toNat → yCost P (gCo P (P 8 m).toNat) (P 6 m).toNat (P 7 m).toNat < 1000000 → rHp P (yPt P (gCo P (P 8 m).toNat) (P 6 m).toNat (P 7 m).toNat) (yN P (gCo P (P 8 m).toNat) (P 6 m).toNat (P 7 m).toNat) g → Q (g, some (0, yCost P (gCo P (P 8 m).toNat) (P 6 m).toNat (P 7 m).toNat))) : vP D T N 323 0 h [some (2, 121), some (0, x)] [] Q := by
  subst ex
  obtain ⟨lb, _, _, hk⟩ := id hb
  obtain ⟨_, ⟨b6, g6⟩, ⟨b7, g7⟩, b8, c8⟩ := hk m hm
  have m6 : m < 6 := by have := lb.2.2.2.2; omega
  have l3 := lb.2.2.1.2
  refine vP_hv (fun hv => qr_tc0 hT hO hv hR hm m6 (hR.by hm) (hR.at hm) (hR.go hm) ?_)
  intros
  refine rx_tw hT hO (P 8 m) (P 6 m).toNat (P 7 m).toNat hR hb (by omega) (by omega) g6 g7 (co := gCo P (P 8 m).toNat) (fun q gq => ?_) (fun g u c => ?_) (fun g u c0 c1 c2 => ?_)
  · have e1 : gCo P (P 8 m).toNat q = gSh P (P 8 m).toNat q := if_neg (by rw [gIx_y gq]; decide)
    have e2 : rC P (P 8 m) q = gSh P (P 8 m).toNat q := if_neg (by omega)
    rw [e1, e2]
  · show vP D T N 323 34 g [some (2, 121), some (0, (m : Int))] [(0, 1000000)] Q
    exact vP_hv (fun hv => qr_tc34 hT hO (1000000) hv (k1 g u c))
  · show vP D T N 323 34 g [some (2, 121), some (0, (m : Int))] [(0, yCost P (gCo P (P 8 m).toNat) (P 6 m).toNat (P 7 m).toNat)] Q
    exact vP_hv (fun hv => qr_tc34 hT hO _ hv (k2 g u c0 c1 c2))
theorem qr_mv0 {D : zD} {T : zT} (hT : hTab T) (hO : vOK T) {N : Nat} {h : zH} {Q : zR → Prop} {m : Nat} (hv0 : zHv h)
    (k0 : vP D T N 323 0 h [some (2, 121), some (0, (m : Int))] [] (fun r1 => vP D T N 275 5 r1.1 [some (2, 121), some (0, (m : Int)), none, none] (zpush r1.2 []) Q)) :
    vP D T N 275 0 h [some (2, 121), some (0, (m : Int)), none, none] [] Q := by
  refine v_load (v := (2, 121)) (hz_X12_marches hT _ _ rfl) rfl rfl ?_
  refine v_load (v := (0, (m : Int))) (hz_X12_marches hT _ _ rfl) rfl rfl ?_
  refine v_call (w := 2) [some (2, 121), some (0, (m : Int))] hO (hz_X12_marches hT _ _ rfl) rfl rfl ?_
  exact k0 
theorem qr_mv5x {D : zD} {T : zT} (hT : hTab T) (hO : vOK T) {N : Nat} {h : zH} {Q : zR → Prop} {m : Nat} (hv0 : zHv h)
    (k0 : Q (h, some (0, -1))) :
    vP D T N 275 5 h [some (2, 121), some (0, (m : Int)), none, none] [(0, 1000000)] Q := by
  refine v_push (1000000) (hz_X12_marches hT _ _ rfl) rfl ?_
  refine v_ic (hz_X12_marches hT _ _ rfl) (fun _ => ?_) (fun hc1 => absurd (show (1000000 : Int) = 1000000 from (by omega)) hc1)
  refine v_push (-1) (hz_X12_marches hT _ _ rfl) rfl ?_
  refine v_ret (hz_X12_marches hT _ _ rfl) (Or.inl rfl) ?_
  exact k0 
theorem qr_mv5 {D : zD} {T : zT} (hT : hTab T) (hO : vOK T) {N : Nat} {h : zH} {Q : zR → Prop} {m : Nat} (p : Int) (hv0 : zHv h)
    (k0 : (p = 1000000) → Q (h, some (0, -1)))
    (k1 : (p ≠ 1000000) → vP D T N 275 22 (zset h 121 33 (0, 0)) [some (2, 121), some (0, (m : Int)), some (0, 0), some (0, 1)] [] Q) :
    vP D T N 275 5 h [some (2, 121), some (0, (m : Int)), none, none] [(0, p)] Q := by
  refine v_push (1000000) (hz_X12_marches hT _ _ rfl) rfl ?_
  refine v_ic (hz_X12_marches hT _ _ rfl) (fun hc1 => ?_) (fun hc1 => ?_)
  · have hc1 : p = 1000000 := hc1
    refine v_push (-1) (hz_X12_marches hT _ _ rfl) rfl ?_
    refine v_ret (hz_X12_marches hT _ _ rfl) (Or.inl rfl) ?_
    exact k0 hc1
  · have hc1 : p ≠ 1000000 := hc1
    refine v_push (0) (hz_X12_marches hT _ _ rfl) rfl ?_
    refine v_store1 [some (2, 121), some (0, (m : Int)), some (0, 0), none] (hz_X12_marches hT _ _ rfl) ⟨rfl, Nat.ne_of_beq_eq_false rfl⟩ (Nat.le_of_ble_eq_true rfl) rfl ?_
    refine v_load (v := (2, 121)) (hz_X12_marches hT _ _ rfl) rfl rfl ?_
    refine v_push (0) (hz_X12_marches hT _ _ rfl) rfl ?_
    refine v_putf (r := 121) hO (hz_X12_marches hT _ _ rfl) rfl (fun hf2 => ?_)
    refine v_push (1) (hz_X12_marches hT _ _ rfl) rfl ?_
    refine v_store1 [some (2, 121), some (0, (m : Int)), some (0, 0), some (0, 1)] (hz_X12_marches hT _ _ rfl) ⟨rfl, Nat.ne_of_beq_eq_false rfl⟩ (Nat.le_of_ble_eq_true rfl) rfl ?_
    exact k1 hc1
theorem qr_mv22 {D : zD} {T : zT} (hT : hTab T) (hO : vOK T) {N : Nat} {h : zH} {Q : zR → Prop} {P : PT} {m i w r b : Nat} (hv0 : zHv h) (hR : rBk 0 P h) (hb : fB P) (gb : gIn P b) (hn : gJ P b < 48) (m6 : m < 6) (er : h 121 31 = (0, (r : Int))) (ez : h 121 33 = (0, 0)) (eb : h 132 i = (0, ((gJ P b : Nat) : Int))) (e9 : h 126 (269 + (m : Int)).toNat = (0, P 9 m)) (el : h 126 (5 + ((gJ P b : Nat) : Int)).toNat = (0, P 1 b)) (hi : i < 49) (hw : w < 49) (hir : (i : Int) < (r : Int))
    (k0 : (0 ≤ (i : Int)) → ((i : Int) < 49) → (0 ≤ (5 + ((gJ P b : Nat) : Int))) → ((5 + ((gJ P b : Nat) : Int)) < 2750) → ((P 1 b) = 3) → vP D T N 275 22 (zset h 121 33 (0, 1)) [some (2, 121), some (0, (m : Int)), some (0, (w : Int)), some (0, ((i : Int) + 1))] [] Q)
    (k1 : (0 ≤ (i : Int)) → ((i : Int) < 49) → (0 ≤ (5 + ((gJ P b : Nat) : Int))) → ((5 + ((gJ P b : Nat) : Int)) < 2750) → ((P 1 b) ≠ 3) → (0 ≤ (245 + (m : Int))) → ((245 + (m : Int)) < 2750) → (0 ≤ (269 + (m : Int))) → ((269 + (m : Int)) < 2750) → vP D T N 275 22 (zset (zset h 126 (((245 + (m : Int))).toNat) (0, ((gJ P b : Nat) : Int))) 126 (((269 + (m : Int))).toNat) (0, (wA ((P 9 m)) ((gCr P b))))) [some (2, 121), some (0, (m : Int)), some (0, ((w : Int) + 1)), some (0, ((i : Int) + 1))] [] Q) :
    vP D T (N + 1) 275 22 h [some (2, 121), some (0, (m : Int)), some (0, (w : Int)), some (0, (i : Int))] [] Q := by
  refine v_loadS (v := (0, (i : Int))) (hz_X12_marches hT _ _ rfl) rfl rfl ?_
  refine v_load (v := (2, 121)) (hz_X12_marches hT _ _ rfl) rfl rfl ?_
  refine v_getf (v := (0, (r : Int))) (r := 121) (hz_X12_marches hT _ _ rfl) rfl rfl (fun _ => er) ?_
  refine v_ic (hz_X12_marches hT _ _ rfl) (fun _ => ?_) (fun hc1 => absurd (show (i : Int) < (r : Int) from hir) hc1)
  refine v_load (v := (2, 121)) (hz_X12_marches hT _ _ rfl) rfl rfl ?_
  refine v_getf (v := (0, 0)) (r := 121) (hz_X12_marches hT _ _ rfl) rfl rfl (fun _ => ez) ?_
  refine v_if (hz_X12_marches hT _ _ rfl) (fun _ => ?_) (fun hc2 => absurd (show (0 : Int) = 0 from (by omega)) hc2)
  refine v_load (v := (2, 121)) (hz_X12_marches hT _ _ rfl) rfl rfl ?_
  refine v_getR (c := 126) (r := 121) (hz_X12_marches hT _ _ rfl) rfl rfl rfl ?_
  refine v_push (5) (hz_X12_marches hT _ _ rfl) rfl ?_
  refine v_load (v := (2, 121)) (hz_X12_marches hT _ _ rfl) rfl rfl ?_
  refine v_getR (c := 132) (r := 121) (hz_X12_marches hT _ _ rfl) rfl rfl rfl ?_
  refine v_load (v := (0, (i : Int))) (hz_X12_marches hT _ _ rfl) rfl rfl ?_
  refine v_aldB (t := 0) (r := 132) (w := ((gJ P b : Nat) : Int)) (hz_X12_marches hT _ _ rfl) rfl rfl rfl (fun _ _ => (congrArg Prod.snd eb)) (fun ha3 hb4 => ?_)
  refine v_bin (w := (5 + ((gJ P b : Nat) : Int))) (hz_X12_marches hT _ _ rfl) (hq_add (by omega) (by omega)) ?_
  refine v_aldB (t := 0) (r := 126) (w := (P 1 b)) (hz_X12_marches hT _ _ rfl) rfl rfl rfl (fun _ _ => (congrArg Prod.snd el)) (fun ha5 hb6 => ?_)
  refine v_push (3) (hz_X12_marches hT _ _ rfl) rfl ?_
  refine v_ic (hz_X12_marches hT _ _ rfl) (fun hc7 => ?_) (fun hc7 => ?_)
  · have hc7 : (P 1 b) = 3 := hc7
    refine v_load (v := (2, 121)) (hz_X12_marches hT _ _ rfl) rfl rfl ?_
    refine v_push (1) (hz_X12_marches hT _ _ rfl) rfl ?_
    refine v_putf (r := 121) hO (hz_X12_marches hT _ _ rfl) rfl (fun hf8 => ?_)
    refine v_goto (hz_X12_marches hT _ _ rfl) ?_
    refine v_iinc (x := (i : Int)) (u := 1) (w := ((i : Int) + 1)) [some (2, 121), some (0, (m : Int)), some (0, (w : Int)), some (0, ((i : Int) + 1))] (hz_X12_marches hT _ _ rfl) rfl rfl (Nat.le_of_ble_eq_true rfl) (vz_inc (by omega) (by omega)) rfl ?_
    refine v_goto (hz_X12_marches hT _ _ rfl) ?_
    exact k0 ha3 hb4 ha5 hb6 hc7
  · have hc7 : (P 1 b) ≠ 3 := hc7
    refine v_load (v := (2, 121)) (hz_X12_marches hT _ _ rfl) rfl rfl ?_
    refine v_getR (c := 126) (r := 121) (hz_X12_marches hT _ _ rfl) rfl rfl rfl ?_
    refine v_push (245) (hz_X12_marches hT _ _ rfl) rfl ?_
    refine v_load (v := (0, (m : Int))) (hz_X12_marches hT _ _ rfl) rfl rfl ?_
    refine v_bin (w := (245 + (m : Int))) (hz_X12_marches hT _ _ rfl) (hq_add (by omega) (by omega)) ?_
    refine v_load (v := (2, 121)) (hz_X12_marches hT _ _ rfl) rfl rfl ?_
    refine v_getR (c := 132) (r := 121) (hz_X12_marches hT _ _ rfl) rfl rfl rfl ?_
    refine v_load (v := (0, (i : Int))) (hz_X12_marches hT _ _ rfl) rfl rfl ?_
    refine v_aldB (t := 0) (r := 132) (w := ((gJ P b : Nat) : Int)) (hz_X12_marches hT _ _ rfl) rfl rfl rfl (fun _ _ => (congrArg Prod.snd eb)) (fun ha9 hb10 => ?_)
    refine v_ast (r := 126) (hz_X12_marches hT _ _ rfl) rfl rfl (fun ha11 hb12 hf13 => ?_)
    refine v_load (v := (2, 121)) (hz_X12_marches hT _ _ rfl) rfl rfl ?_
    refine v_getR (c := 126) (r := 121) (hz_X12_marches hT _ _ rfl) rfl rfl rfl ?_
    refine v_push (269) (hz_X12_marches hT _ _ rfl) rfl ?_
    refine v_load (v := (0, (m : Int))) (hz_X12_marches hT _ _ rfl) rfl rfl ?_
    refine v_bin (w := (269 + (m : Int))) (hz_X12_marches hT _ _ rfl) (hq_add (by omega) (by omega)) ?_
    refine v_dupd (hz_X12_marches hT _ _ rfl) (Nat.ne_of_beq_eq_false rfl) (Nat.ne_of_beq_eq_false rfl) ?_
    refine v_aldB (t := 0) (r := 126) (w := (P 9 m)) (hz_X12_marches hT _ _ rfl) rfl rfl rfl (fun _ _ => (congrArg Prod.snd ((zset_ne (fun c => by omega)).trans e9))) (fun ha14 hb15 => ?_)
    refine v_load (v := (2, 121)) (hz_X12_marches hT _ _ rfl) rfl rfl ?_
    refine v_load (v := (2, 121)) (hz_X12_marches hT _ _ rfl) rfl rfl ?_
    refine v_getR (c := 132) (r := 121) (hz_X12_marches hT _ _ rfl) rfl rfl rfl ?_
    refine v_load (v := (0, (i : Int))) (hz_X12_marches hT _ _ rfl) rfl rfl ?_
    refine v_aldB (t := 0) (r := 132) (w := ((gJ P b : Nat) : Int)) (hz_X12_marches hT _ _ rfl) rfl rfl rfl (fun _ _ => (congrArg Prod.snd ((zset_ne (fun c => absurd c.1 (by decide))).trans eb))) (fun ha16 hb17 => ?_)
    refine v_call (w := 2) [some (2, 121), some (0, ((gJ P b : Nat) : Int))] hO (hz_X12_marches hT _ _ rfl) rfl rfl (rb_cr2 hT hO b gb ((zset_ne (fun c => by omega)).trans (hR.l gb)) ((zset_ne (fun c => by omega)).trans (hR.s gb)) hb ?_)
    show vP D T N 275 99 (zset h 126 (((245 + (m : Int))).toNat) (0, ((gJ P b : Nat) : Int))) [some (2, 121), some (0, (m : Int)), some (0, (w : Int)), some (0, (i : Int))] [(0, (gCr P b)), (0, (P 9 m)), (0, (269 + (m : Int))), (2, 126)] _
    refine v_bin (w := (wA ((P 9 m)) ((gCr P b)))) (hz_X12_marches hT _ _ rfl) rfl ?_
    refine v_ast (r := 126) (hz_X12_marches hT _ _ rfl) rfl rfl (fun ha18 hb19 hf20 => ?_)
    refine v_iinc (x := (w : Int)) (u := 1) (w := ((w : Int) + 1)) [some (2, 121), some (0, (m : Int)), some (0, ((w : Int) + 1)), some (0, (i : Int))] (hz_X12_marches hT _ _ rfl) rfl rfl (Nat.le_of_ble_eq_true rfl) (vz_inc (by omega) (by omega)) rfl ?_
    refine v_iinc (x := (i : Int)) (u := 1) (w := ((i : Int) + 1)) [some (2, 121), some (0, (m : Int)), some (0, ((w : Int) + 1)), some (0, ((i : Int) + 1))] (hz_X12_marches hT _ _ rfl) rfl rfl (Nat.le_of_ble_eq_true rfl) (vz_inc (by omega) (by omega)) rfl ?_
    refine v_goto (hz_X12_marches hT _ _ rfl) ?_
    exact k1 ha3 hb4 ha5 hb6 hc7 ha11 hb12 ha14 hb15
theorem qr_mv9 {D : zD} {T : zT} (hT : hTab T) (hO : vOK T) {N : Nat} {h : zH} {Q : zR → Prop} {m w r : Nat} (hv0 : zHv h) (er : h 121 31 = (0, (r : Int)))
    (k0 : Q (h, some (0, (w : Int)))) :
    vP D T (N + 1) 275 22 h [some (2, 121), some (0, (m : Int)), some (0, (w : Int)), some (0, (r : Int))] [] Q := by
  refine v_loadS (v := (0, (r : Int))) (hz_X12_marches hT _ _ rfl) rfl rfl ?_
  refine v_load (v := (2, 121)) (hz_X12_marches hT _ _ rfl) rfl rfl ?_
  refine v_getf (v := (0, (r : Int))) (r := 121) (hz_X12_marches hT _ _ rfl) rfl rfl (fun _ => er) ?_
  refine v_ic (hz_X12_marches hT _ _ rfl) (fun hc1 => absurd (show (r : Int) < (r : Int) from hc1) (by omega)) (fun _ => ?_)
  refine v_load (v := (0, (w : Int))) (hz_X12_marches hT _ _ rfl) rfl rfl ?_
  refine v_ret (hz_X12_marches hT _ _ rfl) (Or.inl rfl) ?_
  exact k0 
theorem qr_mv8 {D : zD} {T : zT} (hT : hTab T) (hO : vOK T) {N : Nat} {h : zH} {Q : zR → Prop} {m w i r : Nat} (hv0 : zHv h) (er : h 121 31 = (0, (r : Int))) (ez : h 121 33 = (0, 1))
    (k0 : ((i : Int) < (r : Int)) → Q (h, some (0, (w : Int))))
    (k1 : ((r : Int) ≤ (i : Int)) → Q (h, some (0, (w : Int)))) :
    vP D T (N + 1) 275 22 h [some (2, 121), some (0, (m : Int)), some (0, (w : Int)), some (0, (i : Int))] [] Q := by
  refine v_loadS (v := (0, (i : Int))) (hz_X12_marches hT _ _ rfl) rfl rfl ?_
  refine v_load (v := (2, 121)) (hz_X12_marches hT _ _ rfl) rfl rfl ?_
  refine v_getf (v := (0, (r : Int))) (r := 121) (hz_X12_marches hT _ _ rfl) rfl rfl (fun _ => er) ?_
  refine v_ic (hz_X12_marches hT _ _ rfl) (fun hc1 => ?_) (fun hc1 => ?_)
  · have hc1 : (i : Int) < (r : Int) := hc1
    refine v_load (v := (2, 121)) (hz_X12_marches hT _ _ rfl) rfl rfl ?_
    refine v_getf (v := (0, 1)) (r := 121) (hz_X12_marches hT _ _ rfl) rfl rfl (fun _ => ez) ?_
    refine v_if (hz_X12_marches hT _ _ rfl) (fun hc2 => absurd (show (1 : Int) = 0 from hc2) (by omega)) (fun _ => ?_)
    refine v_load (v := (0, (w : Int))) (hz_X12_marches hT _ _ rfl) rfl rfl ?_
    refine v_ret (hz_X12_marches hT _ _ rfl) (Or.inl rfl) ?_
    exact k0 hc1
  · have hc1 : (r : Int) ≤ (i : Int) := Int.not_lt.mp hc1
    refine v_load (v := (0, (w : Int))) (hz_X12_marches hT _ _ rfl) rfl rfl ?_
    refine v_ret (hz_X12_marches hT _ _ rfl) (Or.inl rfl) ?_
    exact k1 hc1
def mvF (h g : zH) : Prop := ∀ a b, ¬ ((a = 126 ∧ b < 275) ∨ a = 130 ∨ a = 132 ∨ (a = 121 ∧ (b = 31 ∨ b = 33))) → g a b = h a b
theorem mvF.z {a b : Nat} {v : zV} {h g : zH} (ha : (a = 126 ∧ b < 275) ∨ a = 130 ∨ a = 132 ∨ (a = 121 ∧ (b = 31 ∨ b = 33))) (f : mvF h g) : mvF h (zset g a b v) := fun x y hn => (zset_ne (fun e => hn (by omega))).trans (f x y hn)
/-- marches(): along the row -/
theorem rx_mvL {D : zD} {T : zT} (hT : hTab T) (hO : vOK T) {N : Nat} {h : zH} {Q : zR → Prop} {P : PT} {p : Nat → Nat} {n : Nat} (m : Nat) (hR : rBk 0 P h) (hb : fB P) (hm : (m : Int) < P 0 3) (hn : n ≤ 47) (hp : rHp P p n h) (ez : h 121 33 = (0, 0)) (hg : ∀ i, i ≤ n → gIn P (p i)) (k : ∀ g : zH, rBk 0 (pGo P m p (wStop P p n 0)) g → mvF h g → g 121 33 = (0, if wStop P p n 0 < n then 1 else 0) → Q (g, some (0, ((wStop P p n 0 : Nat) : Int)))) : vP D T N 275 22 h [some (2, 121), some (0, (m : Int)), some (0, 0), some (0, 1)] [] Q := by
  have lb := hb.1
  have m6 : m < 6 := by have := lb.2.2.2.2; omega
  refine vP_loop (fun h' l => ((∃ i : Nat, i ≤ n ∧ l = [some (2, 121), some (0, (m : Int)), some (0, (i : Int)), some (0, ((i + 1 : Nat) : Int))] ∧ rBk 0 (pGo P m p i) h' ∧ h' 121 33 = (0, 0) ∧ wStop P p (n - i) i = wStop P p n 0) ∨ (∃ i : Nat, i < n ∧ i = wStop P p n 0 ∧ l = [some (2, 121), some (0, (m : Int)), some (0, (i : Int)), some (0, ((i + 1 + 1 : Nat) : Int))] ∧ rBk 0 (pGo P m p i) h' ∧ h' 121 33 = (0, 1))) ∧ mvF h h' ∧ rHp P p n h') ?_ N h _ ⟨Or.inl ⟨0, Nat.zero_le _, rfl, hR, ez, rfl⟩, fun _ _ _ => rfl, hp⟩
  rintro N h' l ⟨hI, hf, hp'⟩ ih
  rcases hI with ⟨i, hi, rfl, hR', ez', hs⟩ | ⟨i, hi, hs, rfl, hR', ez'⟩
  · have hb' := fB_go (m := m) hb i (fun k _ h2 => hg k (by omega))
    by_cases c : i < n
    · have gb := hg (i + 1) (by omega)
      have gb' : gIn (pGo P m p i) (p (i + 1)) := gIn_go.mpr gb
      have e4 : h' 132 (i + 1) = (0, ((gJ (pGo P m p i) (p (i + 1)) : Nat) : Int)) := by rw [gJ_go]; exact hp'.1 (i + 1) (by omega)
      have hm' : (m : Int) < pGo P m p i 0 3 := by rw [pGo_1 i 0 3 (by decide) (by decide)]; exact hm
      have hs' : wStop P p (n - i) i = if P 1 (p (i + 1)) = 3 then i else wStop P p (n - (i + 1)) (i + 1) := by
        rw [show n - i = (n - (i + 1)) + 1 by omega]
        rfl
      have lq := gJ_lt hb'.1 gb'
      refine vP_hv (fun hv' => qr_mv22 hT hO (P := pGo P m p i) (m := m) (i := i + 1) (w := i) (r := n + 1) (b := p (i + 1)) hv' hR' hb' gb' lq m6 hp'.2 ez' e4 (hR'.sp hm') (hR'.l gb') (by omega) (by omega) (by omega) ?_ ?_)
      · intro _ _ _ _ c2
        rw [pGo_1 i 1 _ (by decide) (by decide)] at c2
        rw [if_pos c2] at hs'
        refine ih _ _ ⟨Or.inr ⟨i, c, by omega, rfl, hR'.eq hb'.1 (fun b _ _ => zset_ne (by omega)), zset_same⟩, hf.z (by omega), fun j hj => (zset_ne (by omega)).trans (hp'.1 j hj), (zset_ne (by omega)).trans hp'.2⟩
      · intro _ _ _ _ c2 _ _ _ _
        rw [pGo_1 i 1 _ (by decide) (by decide)] at c2
        rw [if_neg c2] at hs'
        have eC : gCr (pGo P m p i) (p (i + 1)) = gGr (pGo P m p i) (p (i + 1)) := by
          refine (if_neg ?_).symm
          rw [pGo_1 i 1 _ (by decide) (by decide)]
          exact c2
        rw [eC]
        have hb6 := hb'.s6 (i := m) gb'
        refine ih _ _ ⟨Or.inl ⟨i + 1, by omega, rfl, (hR'.s6 hb'.1 m6).s9 hb6.1 m6, (zset_ne (by omega)).trans ((zset_ne (by omega)).trans ez'), by omega⟩, (hf.z (by omega)).z (by omega), fun j hj => (zset_ne (by omega)).trans ((zset_ne (by omega)).trans (hp'.1 j hj)), (zset_ne (by omega)).trans ((zset_ne (by omega)).trans hp'.2)⟩
    · have e : i = n := by omega
      subst e
      have e2 : wStop P p i 0 = i := by
        rw [← hs, Nat.sub_self]
        rfl
      refine vP_hv (fun hv' => qr_mv9 hT hO (m := m) (w := i) (r := i + 1) hv' hp'.2 ?_)
      have kk := k h' (by rw [e2]; exact hR') hf (by rw [e2, if_neg (Nat.lt_irrefl _)]; exact ez')
      rw [e2] at kk
      exact kk
  · refine vP_hv (fun hv' => qr_mv8 hT hO (m := m) (w := i) (i := i + 1 + 1) (r := n + 1) hv' hp'.2 ez' ?_ ?_)
    · intro _
      have kk := k h' (by rw [← hs]; exact hR') hf (by rw [← hs, if_pos hi]; exact ez')
      rw [← hs] at kk
      exact kk
    · intro _
      have kk := k h' (by rw [← hs]; exact hR') hf (by rw [← hs, if_pos hi]; exact ez')
      rw [← hs] at kk
      exact kk
theorem rx_mv {D : zD} {T : zT} (hT : hTab T) (hO : vOK T) {N : Nat} {h : zH} {Q : zR → Prop} {P : PT} (x : Int) (m : Nat) (ex : x = (m : Int)) (hR : rBk 0 P h) (hb : fB P) (hm : (m : Int) < P 0 3) (k1 : ∀ g : zH, mvF h g → rBk 0 P g → yCost P (gCo P (P 8 m).toNat) (P 6 m).toNat (P 7 m).toNat = -1 → Q (g, some (0, -1))) (k2 : ∀ g : zH, 0 ≤ yCost P (gCo P (P 8 m).toNat) (P 6 m).toNat (P 7 m).toNat → mvF h g → rBk 0 (pGo P m (yPt P (gCo P (P 8 m).toNat) (P 6 m).toNat (P 7 m).toNat) (wStop P (yPt P (gCo P (P 8 m).toNat) (P 6 m).toNat (P 7 m).toNat) (yN P (gCo P (P 8 m).toNat) (P 6 m).toNat (P 7 m).toNat) 0)) g → g 121 33 = (0, if wStop P (yPt P (gCo P (P 8 m).toNat) (P 6 m).toNat (P 7 m).toNat) (yN P (gCo P (P 8 m).toNat) (P 6 m).toNat (P 7 m).toNat) 0 < yN P (gCo P (P 8 m).toNat) (P 6 m).toNat (P 7 m).toNat then 1 else 0) → Q (g, some (0, ((wStop P (yPt P (gCo P (P 8 m).toNat) (P 6 m).toNat (P 7 m).toNat) (yN P (gCo P (P 8 m).toNat) (P 6 m).toNat (P 7 m).toNat) 0 : Nat) : Int)))) : vP D T N 275 0 h [some (2, 121), some (0, x), none, none] [] Q := by
  subst ex
  have lb := hb.1
  obtain ⟨_, ⟨b6, g6⟩, ⟨b7, g7⟩, b8, c8⟩ := hb.2.2.2 m hm
  refine vP_hv (fun hv => qr_mv0 hT hO hv ?_)
  refine rx_tc hT hO _ m rfl hR hb hm (fun g u c => ?_) (fun g u c0 c1 c2 => ?_)
  · show vP D T N 275 5 g [some (2, 121), some (0, (m : Int)), none, none] [(0, 1000000)] Q
    refine vP_hv (fun hv1 => qr_mv5x hT hO hv1 ?_)
    exact k1 g (fun a b hn => u a b (by omega)) (hR.eq lb (fun b _ _ => u 126 b (by omega))) c
  · show vP D T N 275 5 g [some (2, 121), some (0, (m : Int)), none, none] [(0, yCost P (gCo P (P 8 m).toNat) (P 6 m).toNat (P 7 m).toNat)] Q
    refine vP_hv (fun hv1 => qr_mv5 hT hO (m := m) (yCost P (gCo P (P 8 m).toNat) (P 6 m).toNat (P 7 m).toNat) hv1 ?_ ?_)
    · intro e
      omega
    · intro _
      obtain ⟨n47, hg⟩ := yPt_ok (j := (P 8 m).toNat) (to := (P 7 m).toNat) hb g6 c0
      refine rx_mvL hT hO m (hR.eq lb (fun b _ _ => (zset_ne (by omega)).trans (u 126 b (by omega)))) hb hm n47 ⟨fun i hi => (zset_ne (by omega)).trans (c2.1 i hi), (zset_ne (by omega)).trans c2.2⟩ zset_same hg (fun g2 v1 v2 v3 => ?_)
      exact k2 g2 c0 (fun a b hn => (v2 a b hn).trans ((zset_ne (by omega)).trans (u a b (by omega)))) v1 v3
