theorem qr_cr2 {D : zD} {T : zT} (hT : hTab T) (hO : vOK T) {N : Nat} {h : zH} {Q : zR → Prop} {P : PT} {q : Nat} (hv0 : zHv h) (el : h 126 (5 + ((gJ P q : Nat) : Int)).toNat = (0, P 1 q)) (es : h 126 (53 + ((gJ P q : Nat) : Int)).toNat = (0, P 2 q)) (gq : gIn P q) (hn : gJ P q < 48) (b1 : 0 ≤ P 1 q ∧ P 1 q ≤ 4) (b2 : 0 ≤ P 2 q ∧ P 2 q ≤ 9)
    (k0 : (0 ≤ (5 + ((gJ P q : Nat) : Int))) → ((5 + ((gJ P q : Nat) : Int)) < 2750) → ((P 1 q) = 0) → (0 ≤ (53 + ((gJ P q : Nat) : Int))) → ((53 + ((gJ P q : Nat) : Int)) < 2750) → Q (h, some (0, (2 + (P 2 q)))))
    (k1 : (0 ≤ (5 + ((gJ P q : Nat) : Int))) → ((5 + ((gJ P q : Nat) : Int)) < 2750) → ((P 1 q) ≠ 0) → ((P 1 q) = 1) → (0 ≤ (53 + ((gJ P q : Nat) : Int))) → ((53 + ((gJ P q : Nat) : Int)) < 2750) → Q (h, some (0, (1 + (P 2 q)))))
    (k2 : (0 ≤ (5 + ((gJ P q : Nat) : Int))) → ((5 + ((gJ P q : Nat) : Int)) < 2750) → ((P 1 q) ≠ 0) → ((P 1 q) ≠ 1) → ((P 1 q) = 3) → (0 ≤ (53 + ((gJ P q : Nat) : Int))) → ((53 + ((gJ P q : Nat) : Int)) < 2750) → Q (h, some (0, (5 + (P 2 q)))))
    (k3 : (0 ≤ (5 + ((gJ P q : Nat) : Int))) → ((5 + ((gJ P q : Nat) : Int)) < 2750) → ((P 1 q) ≠ 0) → ((P 1 q) ≠ 1) → ((P 1 q) ≠ 3) → ((P 1 q) = 4) → (0 ≤ (53 + ((gJ P q : Nat) : Int))) → ((53 + ((gJ P q : Nat) : Int)) < 2750) → Q (h, some (0, (3 + (P 2 q)))))
    (k4 : (0 ≤ (5 + ((gJ P q : Nat) : Int))) → ((5 + ((gJ P q : Nat) : Int)) < 2750) → ((P 1 q) ≠ 0) → ((P 1 q) ≠ 1) → ((P 1 q) ≠ 3) → ((P 1 q) ≠ 4) → (0 ≤ (53 + ((gJ P q : Nat) : Int))) → ((53 + ((gJ P q : Nat) : Int)) < 2750) → Q (h, some (0, (4 + (P 2 q))))) :
    vP D T N 215 0 h [some (2, 121), some (0, ((gJ P q : Nat) : Int))] [] Q := by
  refine v_load (v := (2, 121)) (hz_X12_crumbsOf hT _ _ rfl) rfl rfl ?_
  refine v_getR (c := 126) (r := 121) (hz_X12_crumbsOf hT _ _ rfl) rfl rfl rfl ?_
  refine v_push (5) (hz_X12_crumbsOf hT _ _ rfl) rfl ?_
  refine v_load (v := (0, ((gJ P q : Nat) : Int))) (hz_X12_crumbsOf hT _ _ rfl) rfl rfl ?_
  refine v_bin (w := (5 + ((gJ P q : Nat) : Int))) (hz_X12_crumbsOf hT _ _ rfl) (hq_add (by omega) (by omega)) ?_
  refine v_aldB (t := 0) (r := 126) (w := (P 1 q)) (hz_X12_crumbsOf hT _ _ rfl) rfl rfl rfl (fun _ _ => (congrArg Prod.snd el)) (fun ha1 hb2 => ?_)
  refine v_call (w := 1) [some (0, (P 1 q))] hO (hz_X12_crumbsOf hT _ _ rfl) rfl rfl ?_
  refine v_load (v := (0, (P 1 q))) (hz_X12_letterCost hT _ _ rfl) rfl rfl ?_
  refine v_if (hz_X12_letterCost hT _ _ rfl) (fun hc3 => ?_) (fun hc3 => ?_)
  · have hc3 : (P 1 q) = 0 := hc3
    refine v_push (2) (hz_X12_letterCost hT _ _ rfl) rfl ?_
    refine v_goto (hz_X12_letterCost hT _ _ rfl) ?_
    refine v_ret (hz_X12_letterCost hT _ _ rfl) (Or.inl rfl) ?_
    show vP D T N 215 11 h [some (2, 121), some (0, ((gJ P q : Nat) : Int))] [(0, 2)] _
    refine v_load (v := (2, 121)) (hz_X12_crumbsOf hT _ _ rfl) rfl rfl ?_
    refine v_getR (c := 126) (r := 121) (hz_X12_crumbsOf hT _ _ rfl) rfl rfl rfl ?_
    refine v_push (53) (hz_X12_crumbsOf hT _ _ rfl) rfl ?_
    refine v_load (v := (0, ((gJ P q : Nat) : Int))) (hz_X12_crumbsOf hT _ _ rfl) rfl rfl ?_
    refine v_bin (w := (53 + ((gJ P q : Nat) : Int))) (hz_X12_crumbsOf hT _ _ rfl) (hq_add (by omega) (by omega)) ?_
    refine v_aldB (t := 0) (r := 126) (w := (P 2 q)) (hz_X12_crumbsOf hT _ _ rfl) rfl rfl rfl (fun _ _ => (congrArg Prod.snd es)) (fun ha4 hb5 => ?_)
    refine v_bin (w := (2 + (P 2 q))) (hz_X12_crumbsOf hT _ _ rfl) (hq_add (by omega) (by omega)) ?_
    refine v_ret (hz_X12_crumbsOf hT _ _ rfl) (Or.inl rfl) ?_
    exact k0 ha1 hb2 hc3 ha4 hb5
  · have hc3 : (P 1 q) ≠ 0 := hc3
    refine v_load (v := (0, (P 1 q))) (hz_X12_letterCost hT _ _ rfl) rfl rfl ?_
    refine v_push (1) (hz_X12_letterCost hT _ _ rfl) rfl ?_
    refine v_ic (hz_X12_letterCost hT _ _ rfl) (fun hc6 => ?_) (fun hc6 => ?_)
    · have hc6 : (P 1 q) = 1 := hc6
      refine v_push (1) (hz_X12_letterCost hT _ _ rfl) rfl ?_
      refine v_goto (hz_X12_letterCost hT _ _ rfl) ?_
      refine v_ret (hz_X12_letterCost hT _ _ rfl) (Or.inl rfl) ?_
      show vP D T N 215 11 h [some (2, 121), some (0, ((gJ P q : Nat) : Int))] [(0, 1)] _
      refine v_load (v := (2, 121)) (hz_X12_crumbsOf hT _ _ rfl) rfl rfl ?_
      refine v_getR (c := 126) (r := 121) (hz_X12_crumbsOf hT _ _ rfl) rfl rfl rfl ?_
      refine v_push (53) (hz_X12_crumbsOf hT _ _ rfl) rfl ?_
      refine v_load (v := (0, ((gJ P q : Nat) : Int))) (hz_X12_crumbsOf hT _ _ rfl) rfl rfl ?_
      refine v_bin (w := (53 + ((gJ P q : Nat) : Int))) (hz_X12_crumbsOf hT _ _ rfl) (hq_add (by omega) (by omega)) ?_
      refine v_aldB (t := 0) (r := 126) (w := (P 2 q)) (hz_X12_crumbsOf hT _ _ rfl) rfl rfl rfl (fun _ _ => (congrArg Prod.snd es)) (fun ha7 hb8 => ?_)
      refine v_bin (w := (1 + (P 2 q))) (hz_X12_crumbsOf hT _ _ rfl) (hq_add (by omega) (by omega)) ?_
      refine v_ret (hz_X12_crumbsOf hT _ _ rfl) (Or.inl rfl) ?_
      exact k1 ha1 hb2 hc3 hc6 ha7 hb8
    · have hc6 : (P 1 q) ≠ 1 := hc6
      refine v_load (v := (0, (P 1 q))) (hz_X12_letterCost hT _ _ rfl) rfl rfl ?_
      refine v_push (3) (hz_X12_letterCost hT _ _ rfl) rfl ?_
      refine v_ic (hz_X12_letterCost hT _ _ rfl) (fun hc9 => ?_) (fun hc9 => ?_)
      · have hc9 : (P 1 q) = 3 := hc9
        refine v_push (5) (hz_X12_letterCost hT _ _ rfl) rfl ?_
        refine v_goto (hz_X12_letterCost hT _ _ rfl) ?_
        refine v_ret (hz_X12_letterCost hT _ _ rfl) (Or.inl rfl) ?_
        show vP D T N 215 11 h [some (2, 121), some (0, ((gJ P q : Nat) : Int))] [(0, 5)] _
        refine v_load (v := (2, 121)) (hz_X12_crumbsOf hT _ _ rfl) rfl rfl ?_
        refine v_getR (c := 126) (r := 121) (hz_X12_crumbsOf hT _ _ rfl) rfl rfl rfl ?_
        refine v_push (53) (hz_X12_crumbsOf hT _ _ rfl) rfl ?_
        refine v_load (v := (0, ((gJ P q : Nat) : Int))) (hz_X12_crumbsOf hT _ _ rfl) rfl rfl ?_
        refine v_bin (w := (53 + ((gJ P q : Nat) : Int))) (hz_X12_crumbsOf hT _ _ rfl) (hq_add (by omega) (by omega)) ?_
        refine v_aldB (t := 0) (r := 126) (w := (P 2 q)) (hz_X12_crumbsOf hT _ _ rfl) rfl rfl rfl (fun _ _ => (congrArg Prod.snd es)) (fun ha10 hb11 => ?_)
        refine v_bin (w := (5 + (P 2 q))) (hz_X12_crumbsOf hT _ _ rfl) (hq_add (by omega) (by omega)) ?_
        refine v_ret (hz_X12_crumbsOf hT _ _ rfl) (Or.inl rfl) ?_
        exact k2 ha1 hb2 hc3 hc6 hc9 ha10 hb11
      · have hc9 : (P 1 q) ≠ 3 := hc9
        refine v_load (v := (0, (P 1 q))) (hz_X12_letterCost hT _ _ rfl) rfl rfl ?_
        refine v_push (4) (hz_X12_letterCost hT _ _ rfl) rfl ?_
        refine v_ic (hz_X12_letterCost hT _ _ rfl) (fun hc12 => ?_) (fun hc12 => ?_)
        · have hc12 : (P 1 q) = 4 := hc12
          refine v_push (3) (hz_X12_letterCost hT _ _ rfl) rfl ?_
          refine v_goto (hz_X12_letterCost hT _ _ rfl) ?_
          refine v_ret (hz_X12_letterCost hT _ _ rfl) (Or.inl rfl) ?_
          show vP D T N 215 11 h [some (2, 121), some (0, ((gJ P q : Nat) : Int))] [(0, 3)] _
          refine v_load (v := (2, 121)) (hz_X12_crumbsOf hT _ _ rfl) rfl rfl ?_
          refine v_getR (c := 126) (r := 121) (hz_X12_crumbsOf hT _ _ rfl) rfl rfl rfl ?_
          refine v_push (53) (hz_X12_crumbsOf hT _ _ rfl) rfl ?_
          refine v_load (v := (0, ((gJ P q : Nat) : Int))) (hz_X12_crumbsOf hT _ _ rfl) rfl rfl ?_
          refine v_bin (w := (53 + ((gJ P q : Nat) : Int))) (hz_X12_crumbsOf hT _ _ rfl) (hq_add (by omega) (by omega)) ?_
          refine v_aldB (t := 0) (r := 126) (w := (P 2 q)) (hz_X12_crumbsOf hT _ _ rfl) rfl rfl rfl (fun _ _ => (congrArg Prod.snd es)) (fun ha13 hb14 => ?_)
          refine v_bin (w := (3 + (P 2 q))) (hz_X12_crumbsOf hT _ _ rfl) (hq_add (by omega) (by omega)) ?_
          refine v_ret (hz_X12_crumbsOf hT _ _ rfl) (Or.inl rfl) ?_
          exact k3 ha1 hb2 hc3 hc6 hc9 hc12 ha13 hb14
        · have hc12 : (P 1 q) ≠ 4 := hc12
          refine v_push (4) (hz_X12_letterCost hT _ _ rfl) rfl ?_
          refine v_ret (hz_X12_letterCost hT _ _ rfl) (Or.inl rfl) ?_
          show vP D T N 215 11 h [some (2, 121), some (0, ((gJ P q : Nat) : Int))] [(0, 4)] _
          refine v_load (v := (2, 121)) (hz_X12_crumbsOf hT _ _ rfl) rfl rfl ?_
          refine v_getR (c := 126) (r := 121) (hz_X12_crumbsOf hT _ _ rfl) rfl rfl rfl ?_
          refine v_push (53) (hz_X12_crumbsOf hT _ _ rfl) rfl ?_
          refine v_load (v := (0, ((gJ P q : Nat) : Int))) (hz_X12_crumbsOf hT _ _ rfl) rfl rfl ?_
          refine v_bin (w := (53 + ((gJ P q : Nat) : Int))) (hz_X12_crumbsOf hT _ _ rfl) (hq_add (by omega) (by omega)) ?_
          refine v_aldB (t := 0) (r := 126) (w := (P 2 q)) (hz_X12_crumbsOf hT _ _ rfl) rfl rfl rfl (fun _ _ => (congrArg Prod.snd es)) (fun ha15 hb16 => ?_)
          refine v_bin (w := (4 + (P 2 q))) (hz_X12_crumbsOf hT _ _ rfl) (hq_add (by omega) (by omega)) ?_
          refine v_ret (hz_X12_crumbsOf hT _ _ rfl) (Or.inl rfl) ?_
          exact k4 ha1 hb2 hc3 hc6 hc9 hc12 ha15 hb16
theorem rb_cr2 {D : zD} {T : zT} (hT : hTab T) (hO : vOK T) {N : Nat} {h : zH} {Q : zR → Prop} {P : PT} (q : Nat) (gq : gIn P q) (el : h 126 (5 + ((gJ P q : Nat) : Int)).toNat = (0, P 1 q)) (es : h 126 (53 + ((gJ P q : Nat) : Int)).toNat = (0, P 2 q)) (hb : fB P) (k : Q (h, some (0, gCr P q))) : vP D T N 215 0 h [some (2, 121), some (0, ((gJ P q : Nat) : Int))] [] Q := by
  obtain ⟨b1, b2⟩ := hb.2.1 q gq.1
  refine vP_hv (fun hv => qr_cr2 hT hO hv el es gq (gJ_lt hb.1 gq) b1 b2 ?_ ?_ ?_ ?_ ?_) <;> (intros; exact cb_eq k (by unfold gCr crw; omega))
theorem qr_bi {D : zD} {T : zT} (hT : hTab T) (hO : vOK T) {N : Nat} {h : zH} {Q : zR → Prop} {P : PT} {j q : Nat} (hv0 : zHv h) (hR : rBk 0 P h) (hb : fB P) (hj : j < 3) (gq : gIn P q) (hn : gJ P q < 48)
    (k0 : ((P 3 (48 * j + q)) = 1) → Q (h, some (0, -1)))
    (k1 : ((P 3 (48 * j + q)) ≠ 1) → (0 ≤ ((101 + (48 * (j : Int))) + ((gJ P q : Nat) : Int))) → (((101 + (48 * (j : Int))) + ((gJ P q : Nat) : Int)) < 2750) → Q (zset (zset h 126 ((((101 + (48 * (j : Int))) + ((gJ P q : Nat) : Int))).toNat) (0, 1)) 126 4 (0, (wA ((P 0 4)) ((gCr P q)))), some (0, (gCr P q)))) :
    vP D T N 203 0 h [some (2, 121), some (0, (j : Int)), some (0, ((gJ P q : Nat) : Int))] [] Q := by
  refine v_load (v := (2, 121)) (hz_X12_bites hT _ _ rfl) rfl rfl ?_
  refine v_load (v := (0, (j : Int))) (hz_X12_bites hT _ _ rfl) rfl rfl ?_
  refine v_load (v := (0, ((gJ P q : Nat) : Int))) (hz_X12_bites hT _ _ rfl) rfl rfl ?_
  refine v_call (w := 3) [some (2, 121), some (0, (j : Int)), some (0, ((gJ P q : Nat) : Int))] hO (hz_X12_bites hT _ _ rfl) rfl rfl (rb_st hT hO ((j : Int)) j q rfl (by omega) gq hR hb ?_)
  show vP D T N 203 6 h [some (2, 121), some (0, (j : Int)), some (0, ((gJ P q : Nat) : Int))] [(0, (P 3 (48 * j + q)))] _
  refine v_push (1) (hz_X12_bites hT _ _ rfl) rfl ?_
  refine v_ic (hz_X12_bites hT _ _ rfl) (fun hc1 => ?_) (fun hc1 => ?_)
  · have hc1 : (P 3 (48 * j + q)) = 1 := hc1
    refine v_push (-1) (hz_X12_bites hT _ _ rfl) rfl ?_
    refine v_ret (hz_X12_bites hT _ _ rfl) (Or.inl rfl) ?_
    exact k0 hc1
  · have hc1 : (P 3 (48 * j + q)) ≠ 1 := hc1
    refine v_load (v := (2, 121)) (hz_X12_bites hT _ _ rfl) rfl rfl ?_
    refine v_getR (c := 126) (r := 121) (hz_X12_bites hT _ _ rfl) rfl rfl rfl ?_
    refine v_load (v := (0, (j : Int))) (hz_X12_bites hT _ _ rfl) rfl rfl ?_
    refine v_load (v := (0, ((gJ P q : Nat) : Int))) (hz_X12_bites hT _ _ rfl) rfl rfl ?_
    refine v_call (w := 2) [some (0, (j : Int)), some (0, ((gJ P q : Nat) : Int))] hO (hz_X12_bites hT _ _ rfl) rfl rfl ?_
    refine v_push (101) (hz_X12_state hT _ _ rfl) rfl ?_
    refine v_push (48) (hz_X12_state hT _ _ rfl) rfl ?_
    refine v_load (v := (0, (j : Int))) (hz_X12_state hT _ _ rfl) rfl rfl ?_
    refine v_bin (w := (48 * (j : Int))) (hz_X12_state hT _ _ rfl) (hq_mul (by omega) (by omega)) ?_
    refine v_bin (w := (101 + (48 * (j : Int)))) (hz_X12_state hT _ _ rfl) (hq_add (by omega) (by omega)) ?_
    refine v_load (v := (0, ((gJ P q : Nat) : Int))) (hz_X12_state hT _ _ rfl) rfl rfl ?_
    refine v_bin (w := ((101 + (48 * (j : Int))) + ((gJ P q : Nat) : Int))) (hz_X12_state hT _ _ rfl) (hq_add (by omega) (by omega)) ?_
    refine v_ret (hz_X12_state hT _ _ rfl) (Or.inl rfl) ?_
    show vP D T N 203 21 h [some (2, 121), some (0, (j : Int)), some (0, ((gJ P q : Nat) : Int))] [(0, ((101 + (48 * (j : Int))) + ((gJ P q : Nat) : Int))), (2, 126)] _
    refine v_push (1) (hz_X12_bites hT _ _ rfl) rfl ?_
    refine v_ast (r := 126) (hz_X12_bites hT _ _ rfl) rfl rfl (fun ha2 hb3 hf4 => ?_)
    refine v_load (v := (2, 121)) (hz_X12_bites hT _ _ rfl) rfl rfl ?_
    refine v_getR (c := 126) (r := 121) (hz_X12_bites hT _ _ rfl) rfl rfl rfl ?_
    refine v_push (4) (hz_X12_bites hT _ _ rfl) rfl ?_
    refine v_dupd (hz_X12_bites hT _ _ rfl) (Nat.ne_of_beq_eq_false rfl) (Nat.ne_of_beq_eq_false rfl) ?_
    refine v_aldV (v := (0, (P 0 4))) (r := 126) (hz_X12_bites hT _ _ rfl) rfl rfl (fun _ _ _ => (Eq.trans (zset_ne (fun c => by omega)) (hR.e))) (fun ha5 hb6 => ?_)
    refine v_load (v := (2, 121)) (hz_X12_bites hT _ _ rfl) rfl rfl ?_
    refine v_load (v := (0, ((gJ P q : Nat) : Int))) (hz_X12_bites hT _ _ rfl) rfl rfl ?_
    refine v_call (w := 2) [some (2, 121), some (0, ((gJ P q : Nat) : Int))] hO (hz_X12_bites hT _ _ rfl) rfl rfl (rb_cr2 hT hO q gq ((zset_ne (fun c => by omega)).trans (hR.l gq)) ((zset_ne (fun c => by omega)).trans (hR.s gq)) hb ?_)
    show vP D T N 203 35 (zset h 126 ((((101 + (48 * (j : Int))) + ((gJ P q : Nat) : Int))).toNat) (0, 1)) [some (2, 121), some (0, (j : Int)), some (0, ((gJ P q : Nat) : Int))] [(0, (gCr P q)), (0, (P 0 4)), (0, 4), (2, 126)] _
    refine v_bin (w := (wA ((P 0 4)) ((gCr P q)))) (hz_X12_bites hT _ _ rfl) rfl ?_
    refine v_ast (r := 126) (hz_X12_bites hT _ _ rfl) rfl rfl (fun ha7 hb8 hf9 => ?_)
    refine v_load (v := (2, 121)) (hz_X12_bites hT _ _ rfl) rfl rfl ?_
    refine v_load (v := (0, ((gJ P q : Nat) : Int))) (hz_X12_bites hT _ _ rfl) rfl rfl ?_
    refine v_call (w := 2) [some (2, 121), some (0, ((gJ P q : Nat) : Int))] hO (hz_X12_bites hT _ _ rfl) rfl rfl (rb_cr2 hT hO q gq ((zset_ne (fun c => by omega)).trans ((zset_ne (fun c => by omega)).trans (hR.l gq))) ((zset_ne (fun c => by omega)).trans ((zset_ne (fun c => by omega)).trans (hR.s gq))) hb ?_)
    show vP D T N 203 42 (zset (zset h 126 ((((101 + (48 * (j : Int))) + ((gJ P q : Nat) : Int))).toNat) (0, 1)) 126 4 (0, (wA ((P 0 4)) ((gCr P q))))) [some (2, 121), some (0, (j : Int)), some (0, ((gJ P q : Nat) : Int))] [(0, (gCr P q))] _
    refine v_ret (hz_X12_bites hT _ _ rfl) (Or.inl rfl) ?_
    exact k1 hc1 ha2 hb3
theorem rb_bi {D : zD} {T : zT} (hT : hTab T) (hO : vOK T) {N : Nat} {h : zH} {Q : zR → Prop} {P : PT} (x : Int) (j q : Nat) (ex : x = (j : Int)) (hj : j < 3) (gq : gIn P q) (hR : rBk 0 P h) (hb : fB P) (k1 : P 3 (48 * j + q) = 1 → Q (h, some (0, -1))) (k2 : P 3 (48 * j + q) ≠ 1 → ∀ g, rBk 0 (pBite P j q) g → bFr h g → Q (g, some (0, gCr P q))) : vP D T N 203 0 h [some (2, 121), some (0, x), some (0, ((gJ P q : Nat) : Int))] [] Q := by
  subst ex
  have hn := gJ_lt hb.1 gq
  refine vP_hv (fun hv => qr_bi hT hO hv hR hb hj gq hn ?_ ?_)
  · intro c
    exact k1 c
  · intro c _ _
    exact k2 c _ (hR.s3 hb.1 hj gq).s04 (bFr.z (by omega) (bFr.z (by omega) (fun _ _ _ => rfl)))
theorem qr_mo {D : zD} {T : zT} (hT : hTab T) (hO : vOK T) {N : Nat} {h : zH} {Q : zR → Prop} {P : PT} {j q : Nat} (hv0 : zHv h) (hR : rBk 0 P h) (hb : fB P) (hj : j < 3) (gq : gIn P q) (hn : gJ P q < 48) (bs : 0 ≤ P 3 (48 * j + q) ∧ P 3 (48 * j + q) ≤ 3)
    (k0 : ((P 3 (48 * j + q)) = 0) → (0 ≤ ((101 + (48 * (j : Int))) + ((gJ P q : Nat) : Int))) → (((101 + (48 * (j : Int))) + ((gJ P q : Nat) : Int)) < 2750) → Q (zset h 126 ((((101 + (48 * (j : Int))) + ((gJ P q : Nat) : Int))).toNat) (0, 2), some (0, 1)))
    (k1 : ((P 3 (48 * j + q)) ≠ 0) → Q (h, some (0, 0))) :
    vP D T N 280 0 h [some (2, 121), some (0, (j : Int)), some (0, ((gJ P q : Nat) : Int))] [] Q := by
  refine v_load (v := (2, 121)) (hz_X12_moulds hT _ _ rfl) rfl rfl ?_
  refine v_load (v := (0, (j : Int))) (hz_X12_moulds hT _ _ rfl) rfl rfl ?_
  refine v_load (v := (0, ((gJ P q : Nat) : Int))) (hz_X12_moulds hT _ _ rfl) rfl rfl ?_
  refine v_call (w := 3) [some (2, 121), some (0, (j : Int)), some (0, ((gJ P q : Nat) : Int))] hO (hz_X12_moulds hT _ _ rfl) rfl rfl (rb_st hT hO ((j : Int)) j q rfl (by omega) gq hR hb ?_)
  show vP D T N 280 6 h [some (2, 121), some (0, (j : Int)), some (0, ((gJ P q : Nat) : Int))] [(0, (P 3 (48 * j + q)))] _
  refine v_if (hz_X12_moulds hT _ _ rfl) (fun hc1 => ?_) (fun hc1 => ?_)
  · have hc1 : (P 3 (48 * j + q)) = 0 := hc1
    refine v_load (v := (2, 121)) (hz_X12_moulds hT _ _ rfl) rfl rfl ?_
    refine v_getR (c := 126) (r := 121) (hz_X12_moulds hT _ _ rfl) rfl rfl rfl ?_
    refine v_load (v := (0, (j : Int))) (hz_X12_moulds hT _ _ rfl) rfl rfl ?_
    refine v_load (v := (0, ((gJ P q : Nat) : Int))) (hz_X12_moulds hT _ _ rfl) rfl rfl ?_
    refine v_call (w := 2) [some (0, (j : Int)), some (0, ((gJ P q : Nat) : Int))] hO (hz_X12_moulds hT _ _ rfl) rfl rfl ?_
    refine v_push (101) (hz_X12_state hT _ _ rfl) rfl ?_
    refine v_push (48) (hz_X12_state hT _ _ rfl) rfl ?_
    refine v_load (v := (0, (j : Int))) (hz_X12_state hT _ _ rfl) rfl rfl ?_
    refine v_bin (w := (48 * (j : Int))) (hz_X12_state hT _ _ rfl) (hq_mul (by omega) (by omega)) ?_
    refine v_bin (w := (101 + (48 * (j : Int)))) (hz_X12_state hT _ _ rfl) (hq_add (by omega) (by omega)) ?_
    refine v_load (v := (0, ((gJ P q : Nat) : Int))) (hz_X12_state hT _ _ rfl) rfl rfl ?_
    refine v_bin (w := ((101 + (48 * (j : Int))) + ((gJ P q : Nat) : Int))) (hz_X12_state hT _ _ rfl) (hq_add (by omega) (by omega)) ?_
    refine v_ret (hz_X12_state hT _ _ rfl) (Or.inl rfl) ?_
    show vP D T N 280 20 h [some (2, 121), some (0, (j : Int)), some (0, ((gJ P q : Nat) : Int))] [(0, ((101 + (48 * (j : Int))) + ((gJ P q : Nat) : Int))), (2, 126)] _
    refine v_push (2) (hz_X12_moulds hT _ _ rfl) rfl ?_
    refine v_ast (r := 126) (hz_X12_moulds hT _ _ rfl) rfl rfl (fun ha2 hb3 hf4 => ?_)
    refine v_push (1) (hz_X12_moulds hT _ _ rfl) rfl ?_
    refine v_ret (hz_X12_moulds hT _ _ rfl) (Or.inl rfl) ?_
    exact k0 hc1 ha2 hb3
  · have hc1 : (P 3 (48 * j + q)) ≠ 0 := hc1
    refine v_push (0) (hz_X12_moulds hT _ _ rfl) rfl ?_
    refine v_ret (hz_X12_moulds hT _ _ rfl) (Or.inl rfl) ?_
    exact k1 hc1
theorem rb_mo {D : zD} {T : zT} (hT : hTab T) (hO : vOK T) {N : Nat} {h : zH} {Q : zR → Prop} {P : PT} (x : Int) (j q : Nat) (ex : x = (j : Int)) (hj : j < 3) (gq : gIn P q) (hR : rBk 0 P h) (hb : fB P) (k1 : P 3 (48 * j + q) ≠ 0 → Q (h, some (0, 0))) (k2 : P 3 (48 * j + q) = 0 → ∀ g, rBk 0 (pSt P j q 2) g → bFr h g → Q (g, some (0, 1))) : vP D T N 280 0 h [some (2, 121), some (0, x), some (0, ((gJ P q : Nat) : Int))] [] Q := by
  subst ex
  have hn := gJ_lt hb.1 gq
  have q48 := gq.1
  have bs := hb.2.2.1 (48 * j + q) (by omega)
  refine vP_hv (fun hv => qr_mo hT hO hv hR hb hj gq hn bs ?_ ?_) <;> intros
  all_goals first
    | exact k1 (by omega)
    | exact k2 (by omega) _ (hR.s3 hb.1 hj gq) (bFr.z (by omega) (fun _ _ _ => rfl))
theorem qr_ho {D : zD} {T : zT} (hT : hTab T) (hO : vOK T) {N : Nat} {h : zH} {Q : zR → Prop} {P : PT} {j q : Nat} (hv0 : zHv h) (hR : rBk 0 P h) (hb : fB P) (hj : j < 3) (gq : gIn P q) (hn : gJ P q < 48) (bs : 0 ≤ P 3 (48 * j + q) ∧ P 3 (48 * j + q) ≤ 3)
    (k0 : (((P 3 (48 * j + q)) % 2) = 1) → Q (h, some (0, 0)))
    (k1 : (((P 3 (48 * j + q)) % 2) ≠ 1) → (0 ≤ ((101 + (48 * (j : Int))) + ((gJ P q : Nat) : Int))) → (((101 + (48 * (j : Int))) + ((gJ P q : Nat) : Int)) < 2750) → Q (zset h 126 ((((101 + (48 * (j : Int))) + ((gJ P q : Nat) : Int))).toNat) (0, 3), some (0, 1))) :
    vP D T N 240 0 h [some (2, 121), some (0, (j : Int)), some (0, ((gJ P q : Nat) : Int))] [] Q := by
  refine v_load (v := (2, 121)) (hz_X12_honeys hT _ _ rfl) rfl rfl ?_
  refine v_load (v := (0, (j : Int))) (hz_X12_honeys hT _ _ rfl) rfl rfl ?_
  refine v_load (v := (0, ((gJ P q : Nat) : Int))) (hz_X12_honeys hT _ _ rfl) rfl rfl ?_
  refine v_call (w := 3) [some (2, 121), some (0, (j : Int)), some (0, ((gJ P q : Nat) : Int))] hO (hz_X12_honeys hT _ _ rfl) rfl rfl (rb_st hT hO ((j : Int)) j q rfl (by omega) gq hR hb ?_)
  show vP D T N 240 6 h [some (2, 121), some (0, (j : Int)), some (0, ((gJ P q : Nat) : Int))] [(0, (P 3 (48 * j + q)))] _
  refine v_push (2) (hz_X12_honeys hT _ _ rfl) rfl ?_
  refine v_div (w := ((P 3 (48 * j + q)) % 2)) (hz_X12_honeys hT _ _ rfl) (fun _ => hq_rem (by omega) (by omega) (by omega) (by omega)) (fun hc1 => ?_)
  refine v_push (1) (hz_X12_honeys hT _ _ rfl) rfl ?_
  refine v_ic (hz_X12_honeys hT _ _ rfl) (fun hc2 => ?_) (fun hc2 => ?_)
  · have hc2 : ((P 3 (48 * j + q)) % 2) = 1 := hc2
    refine v_push (0) (hz_X12_honeys hT _ _ rfl) rfl ?_
    refine v_ret (hz_X12_honeys hT _ _ rfl) (Or.inl rfl) ?_
    exact k0 hc2
  · have hc2 : ((P 3 (48 * j + q)) % 2) ≠ 1 := hc2
    refine v_load (v := (2, 121)) (hz_X12_honeys hT _ _ rfl) rfl rfl ?_
    refine v_getR (c := 126) (r := 121) (hz_X12_honeys hT _ _ rfl) rfl rfl rfl ?_
    refine v_load (v := (0, (j : Int))) (hz_X12_honeys hT _ _ rfl) rfl rfl ?_
    refine v_load (v := (0, ((gJ P q : Nat) : Int))) (hz_X12_honeys hT _ _ rfl) rfl rfl ?_
    refine v_call (w := 2) [some (0, (j : Int)), some (0, ((gJ P q : Nat) : Int))] hO (hz_X12_honeys hT _ _ rfl) rfl rfl ?_
    refine v_push (101) (hz_X12_state hT _ _ rfl) rfl ?_
    refine v_push (48) (hz_X12_state hT _ _ rfl) rfl ?_
    refine v_load (v := (0, (j : Int))) (hz_X12_state hT _ _ rfl) rfl rfl ?_
    refine v_bin (w := (48 * (j : Int))) (hz_X12_state hT _ _ rfl) (hq_mul (by omega) (by omega)) ?_
    refine v_bin (w := (101 + (48 * (j : Int)))) (hz_X12_state hT _ _ rfl) (hq_add (by omega) (by omega)) ?_
    refine v_load (v := (0, ((gJ P q : Nat) : Int))) (hz_X12_state hT _ _ rfl) rfl rfl ?_
    refine v_bin (w := ((101 + (48 * (j : Int))) + ((gJ P q : Nat) : Int))) (hz_X12_state hT _ _ rfl) (hq_add (by omega) (by omega)) ?_
    refine v_ret (hz_X12_state hT _ _ rfl) (Or.inl rfl) ?_
    show vP D T N 240 23 h [some (2, 121), some (0, (j : Int)), some (0, ((gJ P q : Nat) : Int))] [(0, ((101 + (48 * (j : Int))) + ((gJ P q : Nat) : Int))), (2, 126)] _
    refine v_push (3) (hz_X12_honeys hT _ _ rfl) rfl ?_
    refine v_ast (r := 126) (hz_X12_honeys hT _ _ rfl) rfl rfl (fun ha3 hb4 hf5 => ?_)
    refine v_push (1) (hz_X12_honeys hT _ _ rfl) rfl ?_
    refine v_ret (hz_X12_honeys hT _ _ rfl) (Or.inl rfl) ?_
    exact k1 hc2 ha3 hb4
theorem rb_ho {D : zD} {T : zT} (hT : hTab T) (hO : vOK T) {N : Nat} {h : zH} {Q : zR → Prop} {P : PT} (x : Int) (j q : Nat) (ex : x = (j : Int)) (hj : j < 3) (gq : gIn P q) (hR : rBk 0 P h) (hb : fB P) (k1 : (P 3 (48 * j + q) ≠ 0 ∧ P 3 (48 * j + q) ≠ 2) → Q (h, some (0, 0))) (k2 : (P 3 (48 * j + q) = 0 ∨ P 3 (48 * j + q) = 2) → ∀ g, rBk 0 (pSt P j q 3) g → bFr h g → Q (g, some (0, 1))) : vP D T N 240 0 h [some (2, 121), some (0, x), some (0, ((gJ P q : Nat) : Int))] [] Q := by
  subst ex
  have hn := gJ_lt hb.1 gq
  have q48 := gq.1
  have bs := hb.2.2.1 (48 * j + q) (by omega)
  refine vP_hv (fun hv => qr_ho hT hO hv hR hb hj gq hn bs ?_ ?_) <;> intros
  all_goals first
    | exact k1 (by omega)
    | exact k2 (by omega) _ (hR.s3 hb.1 hj gq) (bFr.z (by omega) (fun _ _ _ => rfl))
