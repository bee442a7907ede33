section
theorem qc_ordx {D : zD} {T : zT} (hT : hTab T) (hO : vOK T) {N : Nat} {h : zH} {Q : zR → Prop} (n : Int) (hv0 : zHv h) (hn : n < 0)
    (k0 : Q (zset h 0 0 (0, 5), some (0, -1))) :
    vP D T N 170 0 h [some (2, 0), some (0, n), none] [] Q := by
  refine v_load (v := (0, n)) (hi_X11_orders_0 hT) rfl rfl ?_
  refine v_if (hi_X11_orders_1 hT) (fun _ => ?_) (fun hc1 => absurd (show n < 0 from hn) hc1)
  refine v_load (v := (2, 0)) (hi_X11_orders_22 hT) rfl rfl ?_
  refine v_push (5) (hi_X11_orders_23 hT) rfl ?_
  refine v_call (w := 2) [some (2, 0), some (0, 5)] hO (hi_X11_orders_24 hT) rfl rfl ?_
  refine v_load (v := (2, 0)) (hi_X11_refused_0 hT) rfl rfl ?_
  refine v_load (v := (0, 5)) (hi_X11_refused_1 hT) rfl rfl ?_
  refine v_putf (r := 0) hO (hi_X11_refused_2 hT) rfl (fun hf2 => ?_)
  refine v_push (-1) (hi_X11_refused_5 hT) rfl ?_
  refine v_ret (hi_X11_refused_6 hT) (Or.inl rfl) ?_
  show vP D T N 170 27 (zset h 0 0 (0, 5)) [some (2, 0), some (0, n), none] [(0, -1)] _
  refine v_ret (hi_X11_orders_27 hT) (Or.inl rfl) ?_
  exact k0 
theorem qc_ordy {D : zD} {T : zT} (hT : hTab T) (hO : vOK T) {N : Nat} {h : zH} {Q : zR → Prop} (n : Int) (hv0 : zHv h) (h0 : 0 ≤ n) (hn : (h 10 1).2 < n)
    (k0 : Q (zset h 0 0 (0, 5), some (0, -1))) :
    vP D T N 170 0 h [some (2, 0), some (0, n), none] [] Q := by
  refine v_load (v := (0, n)) (hi_X11_orders_0 hT) rfl rfl ?_
  refine v_if (hi_X11_orders_1 hT) (fun hc1 => absurd (show n < 0 from hc1) (by omega)) (fun _ => ?_)
  refine v_load (v := (0, n)) (hi_X11_orders_4 hT) rfl rfl ?_
  refine v_load (v := (2, 0)) (hi_X11_orders_5 hT) rfl rfl ?_
  refine v_getR (c := 10) (r := 0) (hi_X11_orders_6 hT) rfl rfl rfl ?_
  refine v_getI (t := 0) (r := 10) (hi_X11_orders_9 hT) rfl rfl rfl ?_
  refine v_ic (hi_X11_orders_12 hT) (fun _ => ?_) (fun hc2 => absurd (show (h 10 1).2 < n from hn) hc2)
  refine v_load (v := (2, 0)) (hi_X11_orders_22 hT) rfl rfl ?_
  refine v_push (5) (hi_X11_orders_23 hT) rfl ?_
  refine v_call (w := 2) [some (2, 0), some (0, 5)] hO (hi_X11_orders_24 hT) rfl rfl ?_
  refine v_load (v := (2, 0)) (hi_X11_refused_0 hT) rfl rfl ?_
  refine v_load (v := (0, 5)) (hi_X11_refused_1 hT) rfl rfl ?_
  refine v_putf (r := 0) hO (hi_X11_refused_2 hT) rfl (fun hf3 => ?_)
  refine v_push (-1) (hi_X11_refused_5 hT) rfl ?_
  refine v_ret (hi_X11_refused_6 hT) (Or.inl rfl) ?_
  show vP D T N 170 27 (zset h 0 0 (0, 5)) [some (2, 0), some (0, n), none] [(0, -1)] _
  refine v_ret (hi_X11_orders_27 hT) (Or.inl rfl) ?_
  exact k0 
theorem qc_ordz {D : zD} {T : zT} (hT : hTab T) (hO : vOK T) {N : Nat} {h : zH} {Q : zR → Prop} (n : Int) (hv0 : zHv h) (h0 : 0 ≤ n) (hn : n ≤ (h 10 1).2) (h3 : 300 < n)
    (k0 : Q (zset h 0 0 (0, 5), some (0, -1))) :
    vP D T N 170 0 h [some (2, 0), some (0, n), none] [] Q := by
  refine v_load (v := (0, n)) (hi_X11_orders_0 hT) rfl rfl ?_
  refine v_if (hi_X11_orders_1 hT) (fun hc1 => absurd (show n < 0 from hc1) (by omega)) (fun _ => ?_)
  refine v_load (v := (0, n)) (hi_X11_orders_4 hT) rfl rfl ?_
  refine v_load (v := (2, 0)) (hi_X11_orders_5 hT) rfl rfl ?_
  refine v_getR (c := 10) (r := 0) (hi_X11_orders_6 hT) rfl rfl rfl ?_
  refine v_getI (t := 0) (r := 10) (hi_X11_orders_9 hT) rfl rfl rfl ?_
  refine v_ic (hi_X11_orders_12 hT) (fun hc2 => absurd (show (h 10 1).2 < n from hc2) (by omega)) (fun _ => ?_)
  refine v_load (v := (0, n)) (hi_X11_orders_15 hT) rfl rfl ?_
  refine v_push (300) (hi_X11_orders_16 hT) rfl ?_
  refine v_ic (hi_X11_orders_19 hT) (fun _ => ?_) (fun hc3 => absurd (show 300 < n from h3) hc3)
  refine v_load (v := (2, 0)) (hi_X11_orders_22 hT) rfl rfl ?_
  refine v_push (5) (hi_X11_orders_23 hT) rfl ?_
  refine v_call (w := 2) [some (2, 0), some (0, 5)] hO (hi_X11_orders_24 hT) rfl rfl ?_
  refine v_load (v := (2, 0)) (hi_X11_refused_0 hT) rfl rfl ?_
  refine v_load (v := (0, 5)) (hi_X11_refused_1 hT) rfl rfl ?_
  refine v_putf (r := 0) hO (hi_X11_refused_2 hT) rfl (fun hf4 => ?_)
  refine v_push (-1) (hi_X11_refused_5 hT) rfl ?_
  refine v_ret (hi_X11_refused_6 hT) (Or.inl rfl) ?_
  show vP D T N 170 27 (zset h 0 0 (0, 5)) [some (2, 0), some (0, n), none] [(0, -1)] _
  refine v_ret (hi_X11_orders_27 hT) (Or.inl rfl) ?_
  exact k0 
theorem qr_ordx {D : zD} {T : zT} (hT : hTab T) (hO : vOK T) {N : Nat} {h : zH} {Q : zR → Prop} (n : Int) (hv0 : zHv h) (hn : n < 0)
    (k0 : Q (zset (zset (zset h 121 1 (0, 0)) 121 0 (0, 0)) 121 0 (0, 5), some (0, -1))) :
    vP D T N 289 0 h [some (2, 121), some (0, n), none] [] Q := by
  refine v_load (v := (2, 121)) (hi_X12_orders_0 hT) rfl rfl ?_
  refine v_push (0) (hi_X12_orders_1 hT) rfl ?_
  refine v_putf (r := 121) hO (hi_X12_orders_2 hT) rfl (fun hf1 => ?_)
  refine v_load (v := (2, 121)) (hi_X12_orders_5 hT) rfl rfl ?_
  refine v_push (0) (hi_X12_orders_6 hT) rfl ?_
  refine v_putf (r := 121) hO (hi_X12_orders_7 hT) rfl (fun hf2 => ?_)
  refine v_load (v := (2, 121)) (hi_X12_orders_10 hT) rfl rfl ?_
  refine v_load (v := (0, n)) (hi_X12_orders_11 hT) rfl rfl ?_
  refine v_push (300) (hi_X12_orders_12 hT) rfl ?_
  refine v_call (w := 3) [some (2, 121), some (0, n), some (0, 300)] hO (hi_X12_orders_15 hT) rfl rfl ?_
  refine v_load (v := (0, n)) (hi_X12_opens_0 hT) rfl rfl ?_
  refine v_if (hi_X12_opens_1 hT) (fun _ => ?_) (fun hc3 => absurd (show n < 0 from hn) hc3)
  refine v_load (v := (2, 121)) (hi_X12_opens_17 hT) rfl rfl ?_
  refine v_push (5) (hi_X12_opens_18 hT) rfl ?_
  refine v_call (w := 2) [some (2, 121), some (0, 5)] hO (hi_X12_opens_19 hT) rfl rfl ?_
  refine v_load (v := (2, 121)) (hi_X12_no_0 hT) rfl rfl ?_
  refine v_load (v := (0, 5)) (hi_X12_no_1 hT) rfl rfl ?_
  refine v_putf (r := 121) hO (hi_X12_no_2 hT) rfl (fun hf4 => ?_)
  refine v_push (0) (hi_X12_no_5 hT) rfl ?_
  refine v_ret (hi_X12_no_6 hT) (Or.inl rfl) ?_
  show vP D T N 288 22 (zset (zset (zset h 121 1 (0, 0)) 121 0 (0, 0)) 121 0 (0, 5)) [some (2, 121), some (0, n), some (0, 300)] [(0, 0)] _
  refine v_ret (hi_X12_opens_22 hT) (Or.inl rfl) ?_
  show vP D T N 289 18 (zset (zset (zset h 121 1 (0, 0)) 121 0 (0, 0)) 121 0 (0, 5)) [some (2, 121), some (0, n), none] [(0, 0)] _
  refine v_if (hi_X12_orders_18 hT) (fun _ => ?_) (fun hc5 => absurd (show (0 : Int) = 0 from (by decide)) hc5)
  refine v_push (-1) (hi_X12_orders_21 hT) rfl ?_
  refine v_ret (hi_X12_orders_22 hT) (Or.inl rfl) ?_
  exact k0 
theorem qr_ordy {D : zD} {T : zT} (hT : hTab T) (hO : vOK T) {N : Nat} {h : zH} {Q : zR → Prop} (n : Int) (hv0 : zHv h) (h0 : 0 ≤ n) (hn : (h 121 8).2 < n)
    (k0 : Q (zset (zset (zset h 121 1 (0, 0)) 121 0 (0, 0)) 121 0 (0, 5), some (0, -1))) :
    vP D T N 289 0 h [some (2, 121), some (0, n), none] [] Q := by
  refine v_load (v := (2, 121)) (hi_X12_orders_0 hT) rfl rfl ?_
  refine v_push (0) (hi_X12_orders_1 hT) rfl ?_
  refine v_putf (r := 121) hO (hi_X12_orders_2 hT) rfl (fun hf1 => ?_)
  refine v_load (v := (2, 121)) (hi_X12_orders_5 hT) rfl rfl ?_
  refine v_push (0) (hi_X12_orders_6 hT) rfl ?_
  refine v_putf (r := 121) hO (hi_X12_orders_7 hT) rfl (fun hf2 => ?_)
  refine v_load (v := (2, 121)) (hi_X12_orders_10 hT) rfl rfl ?_
  refine v_load (v := (0, n)) (hi_X12_orders_11 hT) rfl rfl ?_
  refine v_push (300) (hi_X12_orders_12 hT) rfl ?_
  refine v_call (w := 3) [some (2, 121), some (0, n), some (0, 300)] hO (hi_X12_orders_15 hT) rfl rfl ?_
  refine v_load (v := (0, n)) (hi_X12_opens_0 hT) rfl rfl ?_
  refine v_if (hi_X12_opens_1 hT) (fun hc3 => absurd (show n < 0 from hc3) (by omega)) (fun _ => ?_)
  refine v_load (v := (0, n)) (hi_X12_opens_4 hT) rfl rfl ?_
  refine v_load (v := (2, 121)) (hi_X12_opens_5 hT) rfl rfl ?_
  refine v_getf (v := (0, (h 121 8).2)) (r := 121) (hi_X12_opens_6 hT) rfl rfl (fun hv_ => Eq.trans (Eq.trans (zset_ne (fun c => absurd c.2 (by decide))) (zset_ne (fun c => absurd c.2 (by decide)))) (hv0.at rfl)) ?_
  refine v_ic (hi_X12_opens_9 hT) (fun _ => ?_) (fun hc4 => absurd (show (h 121 8).2 < n from hn) hc4)
  refine v_load (v := (2, 121)) (hi_X12_opens_17 hT) rfl rfl ?_
  refine v_push (5) (hi_X12_opens_18 hT) rfl ?_
  refine v_call (w := 2) [some (2, 121), some (0, 5)] hO (hi_X12_opens_19 hT) rfl rfl ?_
  refine v_load (v := (2, 121)) (hi_X12_no_0 hT) rfl rfl ?_
  refine v_load (v := (0, 5)) (hi_X12_no_1 hT) rfl rfl ?_
  refine v_putf (r := 121) hO (hi_X12_no_2 hT) rfl (fun hf5 => ?_)
  refine v_push (0) (hi_X12_no_5 hT) rfl ?_
  refine v_ret (hi_X12_no_6 hT) (Or.inl rfl) ?_
  show vP D T N 288 22 (zset (zset (zset h 121 1 (0, 0)) 121 0 (0, 0)) 121 0 (0, 5)) [some (2, 121), some (0, n), some (0, 300)] [(0, 0)] _
  refine v_ret (hi_X12_opens_22 hT) (Or.inl rfl) ?_
  show vP D T N 289 18 (zset (zset (zset h 121 1 (0, 0)) 121 0 (0, 0)) 121 0 (0, 5)) [some (2, 121), some (0, n), none] [(0, 0)] _
  refine v_if (hi_X12_orders_18 hT) (fun _ => ?_) (fun hc6 => absurd (show (0 : Int) = 0 from (by decide)) hc6)
  refine v_push (-1) (hi_X12_orders_21 hT) rfl ?_
  refine v_ret (hi_X12_orders_22 hT) (Or.inl rfl) ?_
  exact k0 
theorem qr_ordz {D : zD} {T : zT} (hT : hTab T) (hO : vOK T) {N : Nat} {h : zH} {Q : zR → Prop} (n : Int) (hv0 : zHv h) (h0 : 0 ≤ n) (hn : n ≤ (h 121 8).2) (h3 : 300 < n)
    (k0 : Q (zset (zset (zset h 121 1 (0, 0)) 121 0 (0, 0)) 121 0 (0, 5), some (0, -1))) :
    vP D T N 289 0 h [some (2, 121), some (0, n), none] [] Q := by
  refine v_load (v := (2, 121)) (hi_X12_orders_0 hT) rfl rfl ?_
  refine v_push (0) (hi_X12_orders_1 hT) rfl ?_
  refine v_putf (r := 121) hO (hi_X12_orders_2 hT) rfl (fun hf1 => ?_)
  refine v_load (v := (2, 121)) (hi_X12_orders_5 hT) rfl rfl ?_
  refine v_push (0) (hi_X12_orders_6 hT) rfl ?_
  refine v_putf (r := 121) hO (hi_X12_orders_7 hT) rfl (fun hf2 => ?_)
  refine v_load (v := (2, 121)) (hi_X12_orders_10 hT) rfl rfl ?_
  refine v_load (v := (0, n)) (hi_X12_orders_11 hT) rfl rfl ?_
  refine v_push (300) (hi_X12_orders_12 hT) rfl ?_
  refine v_call (w := 3) [some (2, 121), some (0, n), some (0, 300)] hO (hi_X12_orders_15 hT) rfl rfl ?_
  refine v_load (v := (0, n)) (hi_X12_opens_0 hT) rfl rfl ?_
  refine v_if (hi_X12_opens_1 hT) (fun hc3 => absurd (show n < 0 from hc3) (by omega)) (fun _ => ?_)
  refine v_load (v := (0, n)) (hi_X12_opens_4 hT) rfl rfl ?_
  refine v_load (v := (2, 121)) (hi_X12_opens_5 hT) rfl rfl ?_
  refine v_getf (v := (0, (h 121 8).2)) (r := 121) (hi_X12_opens_6 hT) rfl rfl (fun hv_ => Eq.trans (Eq.trans (zset_ne (fun c => absurd c.2 (by decide))) (zset_ne (fun c => absurd c.2 (by decide)))) (hv0.at rfl)) ?_
  refine v_ic (hi_X12_opens_9 hT) (fun hc4 => absurd (show (h 121 8).2 < n from hc4) (by omega)) (fun _ => ?_)
  refine v_load (v := (0, n)) (hi_X12_opens_12 hT) rfl rfl ?_
  refine v_load (v := (0, 300)) (hi_X12_opens_13 hT) rfl rfl ?_
  refine v_ic (hi_X12_opens_14 hT) (fun _ => ?_) (fun hc5 => absurd (show 300 < n from h3) hc5)
  refine v_load (v := (2, 121)) (hi_X12_opens_17 hT) rfl rfl ?_
  refine v_push (5) (hi_X12_opens_18 hT) rfl ?_
  refine v_call (w := 2) [some (2, 121), some (0, 5)] hO (hi_X12_opens_19 hT) rfl rfl ?_
  refine v_load (v := (2, 121)) (hi_X12_no_0 hT) rfl rfl ?_
  refine v_load (v := (0, 5)) (hi_X12_no_1 hT) rfl rfl ?_
  refine v_putf (r := 121) hO (hi_X12_no_2 hT) rfl (fun hf6 => ?_)
  refine v_push (0) (hi_X12_no_5 hT) rfl ?_
  refine v_ret (hi_X12_no_6 hT) (Or.inl rfl) ?_
  show vP D T N 288 22 (zset (zset (zset h 121 1 (0, 0)) 121 0 (0, 0)) 121 0 (0, 5)) [some (2, 121), some (0, n), some (0, 300)] [(0, 0)] _
  refine v_ret (hi_X12_opens_22 hT) (Or.inl rfl) ?_
  show vP D T N 289 18 (zset (zset (zset h 121 1 (0, 0)) 121 0 (0, 0)) 121 0 (0, 5)) [some (2, 121), some (0, n), none] [(0, 0)] _
  refine v_if (hi_X12_orders_18 hT) (fun _ => ?_) (fun hc7 => absurd (show (0 : Int) = 0 from (by decide)) hc7)
  refine v_push (-1) (hi_X12_orders_21 hT) rfl ?_
  refine v_ret (hi_X12_orders_22 hT) (Or.inl rfl) ?_
  exact k0 
theorem qr_ord0 {D : zD} {T : zT} (hT : hTab T) (hO : vOK T) {N : Nat} {h : zH} {Q : zR → Prop} {B : Nat → Int} {n m : Nat} {τ : PT} (hv0 : zHv h) (hK : Tks B n m τ) (hBB : BB B n) (hby : ∀ q, q < n → h 125 q = (0, B q)) (hn : (n : Int) ≤ (h 121 8).2) (hn3 : (n : Int) ≤ 300)
    (k0 : ∀ (g10 : zH), (qF (zset (zset (zset (zset (zset (zset h 121 1 (0, 0)) 121 0 (0, 0)) 121 9 (0, (n : Int))) 121 8 (0, 0)) 121 16 (0, 0)) 121 12 (0, 0)) g10) → (rX B n m τ 0 g10) → vP D T N 289 28 (zset g10 121 25 (0, 0)) [some (2, 121), some (0, (n : Int)), none] [] Q) :
    vP D T N 289 0 h [some (2, 121), some (0, (n : Int)), none] [] Q := by
  refine v_load (v := (2, 121)) (hi_X12_orders_0 hT) rfl rfl ?_
  refine v_push (0) (hi_X12_orders_1 hT) rfl ?_
  refine v_putf (r := 121) hO (hi_X12_orders_2 hT) rfl (fun hf1 => ?_)
  refine v_load (v := (2, 121)) (hi_X12_orders_5 hT) rfl rfl ?_
  refine v_push (0) (hi_X12_orders_6 hT) rfl ?_
  refine v_putf (r := 121) hO (hi_X12_orders_7 hT) rfl (fun hf2 => ?_)
  refine v_load (v := (2, 121)) (hi_X12_orders_10 hT) rfl rfl ?_
  refine v_load (v := (0, (n : Int))) (hi_X12_orders_11 hT) rfl rfl ?_
  refine v_push (300) (hi_X12_orders_12 hT) rfl ?_
  refine v_call (w := 3) [some (2, 121), some (0, (n : Int)), some (0, 300)] hO (hi_X12_orders_15 hT) rfl rfl ?_
  refine v_load (v := (0, (n : Int))) (hi_X12_opens_0 hT) rfl rfl ?_
  refine v_if (hi_X12_opens_1 hT) (fun hc3 => absurd (show (n : Int) < 0 from hc3) (by omega)) (fun _ => ?_)
  refine v_load (v := (0, (n : Int))) (hi_X12_opens_4 hT) rfl rfl ?_
  refine v_load (v := (2, 121)) (hi_X12_opens_5 hT) rfl rfl ?_
  refine v_getf (v := (0, (h 121 8).2)) (r := 121) (hi_X12_opens_6 hT) rfl rfl (fun hv_ => Eq.trans (Eq.trans (zset_ne (fun c => absurd c.2 (by decide))) (zset_ne (fun c => absurd c.2 (by decide)))) (hv0.at rfl)) ?_
  refine v_ic (hi_X12_opens_9 hT) (fun hc4 => absurd (show (h 121 8).2 < (n : Int) from hc4) (by omega)) (fun _ => ?_)
  refine v_load (v := (0, (n : Int))) (hi_X12_opens_12 hT) rfl rfl ?_
  refine v_load (v := (0, 300)) (hi_X12_opens_13 hT) rfl rfl ?_
  refine v_ic (hi_X12_opens_14 hT) (fun hc5 => absurd (show 300 < (n : Int) from hc5) (by omega)) (fun _ => ?_)
  refine v_load (v := (2, 121)) (hi_X12_opens_23 hT) rfl rfl ?_
  refine v_load (v := (0, (n : Int))) (hi_X12_opens_24 hT) rfl rfl ?_
  refine v_putf (r := 121) hO (hi_X12_opens_25 hT) rfl (fun hf6 => ?_)
  refine v_load (v := (2, 121)) (hi_X12_opens_28 hT) rfl rfl ?_
  refine v_push (0) (hi_X12_opens_29 hT) rfl ?_
  refine v_putf (r := 121) hO (hi_X12_opens_30 hT) rfl (fun hf7 => ?_)
  refine v_load (v := (2, 121)) (hi_X12_opens_33 hT) rfl rfl ?_
  refine v_push (0) (hi_X12_opens_34 hT) rfl ?_
  refine v_putf (r := 121) hO (hi_X12_opens_35 hT) rfl (fun hf8 => ?_)
  refine v_load (v := (2, 121)) (hi_X12_opens_38 hT) rfl rfl ?_
  refine v_push (0) (hi_X12_opens_39 hT) rfl ?_
  refine v_putf (r := 121) hO (hi_X12_opens_40 hT) rfl (fun hf9 => ?_)
  refine v_load (v := (2, 121)) (hi_X12_opens_43 hT) rfl rfl ?_
  refine v_call (w := 2) [some (2, 121), none] hO (hi_X12_opens_44 hT) rfl rfl (rx_first hT hO ⟨Eq.trans (Eq.trans (zset_ne (fun c => absurd c.2 (by decide))) (Eq.trans (zset_ne (fun c => absurd c.2 (by decide))) (zset_ne (fun c => absurd c.2 (by decide))))) zset_same, hBB, fun q hq => (Eq.trans (zset_ne (fun c => absurd c.1 (by decide))) (Eq.trans (zset_ne (fun c => absurd c.1 (by decide))) (Eq.trans (zset_ne (fun c => absurd c.1 (by decide))) (Eq.trans (zset_ne (fun c => absurd c.1 (by decide))) (Eq.trans (zset_ne (fun c => absurd c.1 (by decide))) (zset_ne (fun c => absurd c.1 (by decide)))))))).trans (hby q hq)⟩ (Eq.trans (zset_ne (fun c => absurd c.2 (by decide))) zset_same) (zset_same) hK (fun g10 ft10 hX10 => ?_))
  · show vP D T N 288 47 g10 [some (2, 121), some (0, (n : Int)), some (0, 300)] [] _
    refine vP_hv (fun hv10 => ?_)
    refine v_push (1) (hz_X12_opens hT _ _ rfl) rfl ?_
    refine v_ret (hz_X12_opens hT _ _ rfl) (Or.inl rfl) ?_
    show vP D T N 289 18 g10 [some (2, 121), some (0, (n : Int)), none] [(0, 1)] _
    refine v_if (hi_X12_orders_18 hT) (fun hc11 => absurd (show (1 : Int) = 0 from hc11) (by decide)) (fun _ => ?_)
    refine v_load (v := (2, 121)) (hz_X12_orders hT _ _ rfl) rfl rfl ?_
    refine v_push (0) (hz_X12_orders hT _ _ rfl) rfl ?_
    refine v_putf (r := 121) hO (hz_X12_orders hT _ _ rfl) rfl (fun hf12 => ?_)
    exact k0 g10 ft10 hX10
theorem qr_ord28 {D : zD} {T : zT} (hT : hTab T) (hO : vOK T) {N : Nat} {h : zH} {Q : zR → Prop} {B : Nat → Int} {n m i : Nat} {τ : PT} (w s : Int) (o : Option zV) (hv0 : zHv h) (hX : rX B n m τ i h) (hs : h 121 25 = (0, s)) (bs : 0 ≤ s ∧ s ≤ 30)
    (k0 : ((τ 0 i) = 0) → vP D T N 289 82 (zset (zset (zset (zset h 121 10 (0, 0)) 121 11 (0, -1)) 126 275 (0, 1)) 126 276 (0, s)) [some (2, 121), some (0, w), some (0, 0)] [] Q)
    (k1 : ((τ 0 i) ≠ 0) → vP D T N 304 0 h [some (2, 121), some (0, 0), none, none, none] [] (fun r1 => vP D T N 289 47 r1.1 [some (2, 121), some (0, w), o] (zpush r1.2 []) Q)) :
    vP D T (N + 1) 289 28 h [some (2, 121), some (0, w), o] [] Q := by
  refine v_loadS (v := (2, 121)) (hz_X12_orders hT _ _ rfl) rfl rfl ?_
  refine v_getf (v := (0, 0)) (r := 121) (hz_X12_orders hT _ _ rfl) rfl rfl (fun _ => hX.b) ?_
  refine v_if (hz_X12_orders hT _ _ rfl) (fun _ => ?_) (fun hc1 => absurd (show (0 : Int) = 0 from (by decide)) hc1)
  refine v_load (v := (2, 121)) (hz_X12_orders hT _ _ rfl) rfl rfl ?_
  refine v_getf (v := (0, (τ 0 i))) (r := 121) (hz_X12_orders hT _ _ rfl) rfl rfl (fun _ => hX.tk) ?_
  refine v_if (hz_X12_orders hT _ _ rfl) (fun hc2 => ?_) (fun hc2 => ?_)
  · have hc2 : (τ 0 i) = 0 := hc2
    refine v_load (v := (2, 121)) (hz_X12_orders hT _ _ rfl) rfl rfl ?_
    refine v_call (w := 1) [some (2, 121)] hO (hz_X12_orders hT _ _ rfl) rfl rfl ?_
    refine v_load (v := (2, 121)) (hi_X12_isWell_0 hT) rfl rfl ?_
    refine v_load (v := (2, 121)) (hi_X12_isWell_1 hT) rfl rfl ?_
    refine v_getf (v := (0, 0)) (r := 121) (hi_X12_isWell_2 hT) rfl rfl (fun _ => hX.b) ?_
    refine v_putf (r := 121) hO (hi_X12_isWell_5 hT) rfl (fun hf3 => ?_)
    refine v_load (v := (2, 121)) (hi_X12_isWell_8 hT) rfl rfl ?_
    refine v_load (v := (2, 121)) (hi_X12_isWell_9 hT) rfl rfl ?_
    refine v_getf (v := (0, 0)) (r := 121) (hi_X12_isWell_10 hT) rfl rfl (fun _ => Eq.trans (zset_ne (fun c => absurd c.2 (by decide))) (hX.b)) ?_
    refine v_if (hi_X12_isWell_13 hT) (fun _ => ?_) (fun hc4 => absurd (show (0 : Int) = 0 from (by decide)) hc4)
    refine v_push (-1) (hz_X12_isWell hT _ _ rfl) rfl ?_
    refine v_goto (hz_X12_isWell hT _ _ rfl) ?_
    refine v_putf (r := 121) hO (hi_X12_isWell_24 hT) rfl (fun hf5 => ?_)
    refine v_load (v := (2, 121)) (hi_X12_isWell_27 hT) rfl rfl ?_
    refine v_getf (v := (0, 0)) (r := 121) (hi_X12_isWell_28 hT) rfl rfl (fun _ => Eq.trans (Eq.trans (zset_ne (fun c => absurd c.2 (by decide))) (zset_ne (fun c => absurd c.2 (by decide)))) (hX.b)) ?_
    refine v_if (hi_X12_isWell_31 hT) (fun _ => ?_) (fun hc6 => absurd (show (0 : Int) = 0 from (by decide)) hc6)
    refine v_push (1) (hz_X12_isWell hT _ _ rfl) rfl ?_
    refine v_goto (hz_X12_isWell hT _ _ rfl) ?_
    refine v_ret (hi_X12_isWell_48 hT) (Or.inl rfl) ?_
    show vP D T N 289 54 (zset (zset h 121 10 (0, 0)) 121 11 (0, -1)) [some (2, 121), some (0, w), o] [(0, 1)] _
    refine v_if (hz_X12_orders hT _ _ rfl) (fun hc7 => absurd (show (1 : Int) = 0 from hc7) (by decide)) (fun _ => ?_)
    refine v_load (v := (2, 121)) (hz_X12_orders hT _ _ rfl) rfl rfl ?_
    refine v_getR (c := 126) (r := 121) (hz_X12_orders hT _ _ rfl) rfl rfl rfl ?_
    refine v_push (275) (hz_X12_orders hT _ _ rfl) rfl ?_
    refine v_push (1) (hz_X12_orders hT _ _ rfl) rfl ?_
    refine v_ast (r := 126) (hz_X12_orders hT _ _ rfl) rfl rfl (fun ha8 hb9 hf10 => ?_)
    refine v_load (v := (2, 121)) (hz_X12_orders hT _ _ rfl) rfl rfl ?_
    refine v_getR (c := 126) (r := 121) (hz_X12_orders hT _ _ rfl) rfl rfl rfl ?_
    refine v_push (276) (hz_X12_orders hT _ _ rfl) rfl ?_
    refine v_load (v := (2, 121)) (hz_X12_orders hT _ _ rfl) rfl rfl ?_
    refine v_getf (v := (0, s)) (r := 121) (hz_X12_orders hT _ _ rfl) rfl rfl (fun _ => Eq.trans (Eq.trans (zset_ne (fun c => absurd c.1 (by decide))) (Eq.trans (zset_ne (fun c => absurd c.2 (by decide))) (zset_ne (fun c => absurd c.2 (by decide))))) (hs)) ?_
    refine v_ast (r := 126) (hz_X12_orders hT _ _ rfl) rfl rfl (fun ha11 hb12 hf13 => ?_)
    refine v_push (0) (hz_X12_orders hT _ _ rfl) rfl ?_
    refine v_store1 [some (2, 121), some (0, w), some (0, 0)] (hz_X12_orders hT _ _ rfl) ⟨rfl, Nat.ne_of_beq_eq_false rfl⟩ (Nat.le_of_ble_eq_true rfl) rfl ?_
    exact k0 hc2
  · have hc2 : (τ 0 i) ≠ 0 := hc2
    refine v_load (v := (2, 121)) (hz_X12_orders hT _ _ rfl) rfl rfl ?_
    refine v_push (0) (hz_X12_orders hT _ _ rfl) rfl ?_
    refine v_call (w := 5) [some (2, 121), some (0, 0), none, none, none] hO (hz_X12_orders hT _ _ rfl) rfl rfl ?_
    exact k1 hc2
theorem qr_ord28B {D : zD} {T : zT} (hT : hTab T) (hO : vOK T) {N : Nat} {h : zH} {Q : zR → Prop} {e : Er} (w : Int) (o : Option zV) (hv0 : zHv h) (hB : rE e h)
    (k0 : Q (zset (zset (zset h 121 10 (0, e.1)) 121 11 (0, e.2)) 121 0 (0, 10), some (0, -1))) :
    vP D T N 289 28 h [some (2, 121), some (0, w), o] [] Q := by
  refine v_load (v := (2, 121)) (hz_X12_orders hT _ _ rfl) rfl rfl ?_
  refine v_getf (v := (0, e.1)) (r := 121) (hz_X12_orders hT _ _ rfl) rfl rfl (fun _ => hB.1) ?_
  refine v_if (hz_X12_orders hT _ _ rfl) (fun hc1 => absurd (show e.1 = 0 from hc1) (by have := hB.2.1; omega)) (fun _ => ?_)
  refine v_load (v := (2, 121)) (hz_X12_orders hT _ _ rfl) rfl rfl ?_
  refine v_call (w := 1) [some (2, 121)] hO (hz_X12_orders hT _ _ rfl) rfl rfl ?_
  refine v_load (v := (2, 121)) (hi_X12_isWell_0 hT) rfl rfl ?_
  refine v_load (v := (2, 121)) (hi_X12_isWell_1 hT) rfl rfl ?_
  refine v_getf (v := (0, e.1)) (r := 121) (hi_X12_isWell_2 hT) rfl rfl (fun _ => hB.1) ?_
  refine v_putf (r := 121) hO (hi_X12_isWell_5 hT) rfl (fun hf2 => ?_)
  refine v_load (v := (2, 121)) (hi_X12_isWell_8 hT) rfl rfl ?_
  refine v_load (v := (2, 121)) (hi_X12_isWell_9 hT) rfl rfl ?_
  refine v_getf (v := (0, e.1)) (r := 121) (hi_X12_isWell_10 hT) rfl rfl (fun _ => Eq.trans (zset_ne (fun c => absurd c.2 (by decide))) (hB.1)) ?_
  refine v_if (hi_X12_isWell_13 hT) (fun hc3 => absurd (show e.1 = 0 from hc3) (by have := hB.2.1; omega)) (fun _ => ?_)
  refine v_load (v := (2, 121)) (hi_X12_isWell_20 hT) rfl rfl ?_
  refine v_getf (v := (0, e.2)) (r := 121) (hi_X12_isWell_21 hT) rfl rfl (fun _ => Eq.trans (zset_ne (fun c => absurd c.2 (by decide))) (hB.2.2)) ?_
  refine v_putf (r := 121) hO (hi_X12_isWell_24 hT) rfl (fun hf4 => ?_)
  refine v_load (v := (2, 121)) (hi_X12_isWell_27 hT) rfl rfl ?_
  refine v_getf (v := (0, e.1)) (r := 121) (hi_X12_isWell_28 hT) rfl rfl (fun _ => Eq.trans (Eq.trans (zset_ne (fun c => absurd c.2 (by decide))) (zset_ne (fun c => absurd c.2 (by decide)))) (hB.1)) ?_
  refine v_if (hi_X12_isWell_31 hT) (fun hc5 => absurd (show e.1 = 0 from hc5) (by have := hB.2.1; omega)) (fun _ => ?_)
  refine v_load (v := (2, 121)) (hi_X12_isWell_34 hT) rfl rfl ?_
  refine v_push (10) (hi_X12_isWell_35 hT) rfl ?_
  refine v_call (w := 2) [some (2, 121), some (0, 10)] hO (hi_X12_isWell_37 hT) rfl rfl ?_
  refine v_load (v := (2, 121)) (hi_X12_no_0 hT) rfl rfl ?_
  refine v_load (v := (0, 10)) (hi_X12_no_1 hT) rfl rfl ?_
  refine v_putf (r := 121) hO (hi_X12_no_2 hT) rfl (fun hf6 => ?_)
  refine v_push (0) (hi_X12_no_5 hT) rfl ?_
  refine v_ret (hi_X12_no_6 hT) (Or.inl rfl) ?_
  show vP D T N 265 40 (zset (zset (zset h 121 10 (0, e.1)) 121 11 (0, e.2)) 121 0 (0, 10)) [some (2, 121)] [(0, 0)] _
  refine v_if (hi_X12_isWell_40 hT) (fun _ => ?_) (fun hc7 => absurd (show (0 : Int) = 0 from (by decide)) hc7)
  refine v_push (0) (hi_X12_isWell_47 hT) rfl ?_
  refine v_ret (hi_X12_isWell_48 hT) (Or.inl rfl) ?_
  show vP D T N 289 54 (zset (zset (zset h 121 10 (0, e.1)) 121 11 (0, e.2)) 121 0 (0, 10)) [some (2, 121), some (0, w), o] [(0, 0)] _
  refine v_if (hz_X12_orders hT _ _ rfl) (fun _ => ?_) (fun hc8 => absurd (show (0 : Int) = 0 from (by decide)) hc8)
  refine v_push (-1) (hz_X12_orders hT _ _ rfl) rfl ?_
  refine v_ret (hz_X12_orders hT _ _ rfl) (Or.inl rfl) ?_
  exact k0 
theorem qr_ord47 {D : zD} {T : zT} (hT : hTab T) (hO : vOK T) {N : Nat} {h : zH} {Q : zR → Prop} (w : Int) (o : Option zV) (hv0 : zHv h)
    (k0 : vP D T N 289 28 h [some (2, 121), some (0, w), o] [] Q) :
    vP D T N 289 47 h [some (2, 121), some (0, w), o] [] Q := by
  refine v_goto (hz_X12_orders hT _ _ rfl) ?_
  exact k0 
theorem qr_ord82 {D : zD} {T : zT} (hT : hTab T) (hO : vOK T) {N : Nat} {h : zH} {Q : zR → Prop} (w s x : Int) (hv0 : zHv h) (hs : h 121 25 = (0, s)) (bs : 0 ≤ s ∧ s ≤ 30) (hx : 0 ≤ x ∧ x ≤ 270)
    (k0 : (x < (9 * s)) → (0 ≤ (2477 + x)) → ((2477 + x) < 2750) → (0 ≤ (277 + x)) → ((277 + x) < 2750) → vP D T N 289 82 (zset h 126 (((277 + x)).toNat) (0, (h 126 ((2477 + x)).toNat).2)) [some (2, 121), some (0, w), some (0, (x + 1))] [] Q)
    (k1 : ((9 * s) ≤ x) → Q (h, some (0, s))) :
    vP D T (N + 1) 289 82 h [some (2, 121), some (0, w), some (0, x)] [] Q := by
  refine v_loadS (v := (0, x)) (hz_X12_orders hT _ _ rfl) rfl rfl ?_
  refine v_push (9) (hz_X12_orders hT _ _ rfl) rfl ?_
  refine v_load (v := (2, 121)) (hz_X12_orders hT _ _ rfl) rfl rfl ?_
  refine v_getf (v := (0, s)) (r := 121) (hz_X12_orders hT _ _ rfl) rfl rfl (fun _ => hs) ?_
  refine v_bin (w := (9 * s)) (hz_X12_orders hT _ _ rfl) (hq_mul (by omega) (by omega)) ?_
  refine v_ic (hz_X12_orders hT _ _ rfl) (fun hc1 => ?_) (fun hc1 => ?_)
  · have hc1 : x < (9 * s) := hc1
    refine v_load (v := (2, 121)) (hz_X12_orders hT _ _ rfl) rfl rfl ?_
    refine v_getR (c := 126) (r := 121) (hz_X12_orders hT _ _ rfl) rfl rfl rfl ?_
    refine v_push (277) (hz_X12_orders hT _ _ rfl) rfl ?_
    refine v_load (v := (0, x)) (hz_X12_orders hT _ _ rfl) rfl rfl ?_
    refine v_bin (w := (277 + x)) (hz_X12_orders hT _ _ rfl) (hq_add (by omega) (by omega)) ?_
    refine v_load (v := (2, 121)) (hz_X12_orders hT _ _ rfl) rfl rfl ?_
    refine v_getR (c := 126) (r := 121) (hz_X12_orders hT _ _ rfl) rfl rfl rfl ?_
    refine v_push (2477) (hz_X12_orders hT _ _ rfl) rfl ?_
    refine v_load (v := (0, x)) (hz_X12_orders hT _ _ rfl) rfl rfl ?_
    refine v_bin (w := (2477 + x)) (hz_X12_orders hT _ _ rfl) (hq_add (by omega) (by omega)) ?_
    refine v_ald (t := 0) (r := 126) (hz_X12_orders hT _ _ rfl) rfl rfl rfl (fun ha2 hb3 => ?_)
    refine v_ast (r := 126) (hz_X12_orders hT _ _ rfl) rfl rfl (fun ha4 hb5 hf6 => ?_)
    refine v_iinc (x := x) (u := 1) (w := (x + 1)) [some (2, 121), some (0, w), some (0, (x + 1))] (hz_X12_orders hT _ _ rfl) rfl rfl (Nat.le_of_ble_eq_true rfl) (vz_inc (by omega) (by omega)) rfl ?_
    refine v_goto (hz_X12_orders hT _ _ rfl) ?_
    exact k0 hc1 ha2 hb3 ha4 hb5
  · have hc1 : (9 * s) ≤ x := Int.not_lt.mp hc1
    refine v_load (v := (2, 121)) (hz_X12_orders hT _ _ rfl) rfl rfl ?_
    refine v_getf (v := (0, s)) (r := 121) (hz_X12_orders hT _ _ rfl) rfl rfl (fun _ => hs) ?_
    refine v_ret (hz_X12_orders hT _ _ rfl) (Or.inl rfl) ?_
    exact k1 hc1
/-! the reference's orders(n) -/
def rOG (h0 h : zH) : Prop := ∀ a b, ¬ ((a = 121 ∧ (b ≤ 1 ∨ (8 ≤ b ∧ b ≤ 19) ∨ b = 25)) ∨ (a = 126 ∧ ((275 ≤ b ∧ b < 550) ∨ 2477 ≤ b))) → h a b = h0 a b
theorem rOG.f {h0 h g : zH} (f : rOG h0 h) (k : roF h g) : rOG h0 g := fun a b hn => (k a b (fun c => hn (by omega))).trans (f a b hn)
def rOd (τ P : PT) (h0 : zH) (x : zR) : Prop := rOG h0 x.1 ∧ ((∃ e, pOrd τ P 900 0 0 0 = .inl e ∧ x.2 = some (0, -1) ∧ x.1 121 10 = (0, e.1) ∧ x.1 121 11 = (0, e.2) ∧ (∀ j, j < 550 → x.1 126 j = h0 126 j)) ∨ (∃ s : Nat, pOrd τ P 900 0 0 0 = .inr s ∧ x.2 = some (0, (s : Int)) ∧ x.1 121 10 = (0, 0) ∧ x.1 121 11 = (0, -1) ∧ x.1 126 275 = (0, 1) ∧ x.1 126 276 = (0, (s : Int))))
theorem rx_orders {D : zD} {T : zT} (hT : hTab T) (hO : vOK T) {N : Nat} {h : zH} {B : Nat → Int} {n m : Nat} {τ P : PT} (hb : (0 ≤ P 0 0 ∧ P 0 0 ≤ 8) ∧ (0 ≤ P 0 1 ∧ P 0 1 ≤ 6) ∧ (0 ≤ P 0 2 ∧ P 0 2 ≤ 3) ∧ (0 ≤ P 0 3 ∧ P 0 3 ≤ 6)) (e0 : h 126 0 = (0, P 0 0)) (e1 : h 126 1 = (0, P 0 1)) (e2 : h 126 2 = (0, P 0 2)) (e3 : h 126 3 = (0, P 0 3)) (hN : rNm P h) (hK : Tks B n m τ) (hBB : BB B n) (hby : ∀ q, q < n → h 125 q = (0, B q)) (ht : (n : Int) ≤ (h 121 8).2) (hn3 : (n : Int) ≤ 300) : vP D T N 289 0 h [some (2, 121), some (0, (n : Int)), none] [] (rOd τ P h) := by
  refine vP_hv (fun hv => qr_ord0 hT hO hv hK hBB hby ht hn3 ?_)
  intro g f hX
  have f0 : rOG h (zset g 121 25 (0, 0)) := fun a b hn => by
    rw [zset_ne (fun c => hn (by omega)), f a b (fun c => hn (by omega)), zset_ne (fun c => hn (by omega)), zset_ne (fun c => hn (by omega)), zset_ne (fun c => hn (by omega)), zset_ne (fun c => hn (by omega)), zset_ne (fun c => hn (by omega)), zset_ne (fun c => hn (by omega))]
  have c0 : ∀ j, j < 550 → zset g 121 25 (0, 0) 126 j = h 126 j := fun j hj => by
    rw [zset_ne (by omega), f 126 j (fun c => by omega), zset_ne (by omega), zset_ne (by omega), zset_ne (by omega), zset_ne (by omega), zset_ne (by omega), zset_ne (by omega)]
  have n0 : ∀ k, zset g 121 25 (0, 0) 128 k = h 128 k := fun k => by
    rw [zset_ne (by omega), f 128 k (fun c => by omega), zset_ne (by omega), zset_ne (by omega), zset_ne (by omega), zset_ne (by omega), zset_ne (by omega), zset_ne (by omega)]
  have o : oRI B n m τ P 0 0 (zset g 121 25 (0, 0)) := ⟨hX.zf (by decide), ⟨(c0 0 (by decide)).trans e0, (c0 1 (by decide)).trans e1, (c0 2 (by decide)).trans e2, (c0 3 (by decide)).trans e3⟩, fun k hk => (n0 k).trans (hN k hk), zset_same, by decide⟩
  refine vP_loop (fun h' l => ∃ (o' : Option zV) (nn s i : Nat), l = [some (2, 121), some (0, (n : Int)), o'] ∧ oEq τ P nn 0 0 0 s 0 i ∧ 2 * nn ≤ i ∧ oRI B n m τ P s i h' ∧ roF (zset g 121 25 (0, 0)) h') ?_ N _ _ ⟨none, 0, 0, 0, rfl, fun f => by rw [Nat.zero_add], by decide, o, roF.rfl⟩
  rintro N h' l ⟨o', nn, s, i, rfl, hq, hni, o, hF⟩ ih
  have o'' := o
  obtain ⟨hX', ⟨e0, e1, e2, e3⟩, hN', hs, bs⟩ := o''
  have him : i ≤ 900 := Nat.le_trans hX'.2.1 hX'.2.2.1
  have cc0 : ∀ g', roF (zset g 121 25 (0, 0)) g' → ∀ j, j < 550 → g' 126 j = h 126 j := fun g' f' j hj => (f' 126 j (fun c => by omega)).trans (c0 j hj)
  refine vP_hv (fun hv => qr_ord28 hT hO n s o' hv hX' hs ⟨by omega, by omega⟩ ?_ ?_)
  · intro h0
    have hr : pOrd τ P 900 0 0 0 = .inr s := by
      have w := hq (900 - nn)
      rw [show nn + (900 - nn) = 900 from by omega] at w
      rw [w, show 900 - nn = (899 - nn) + 1 from by omega]
      show (if τ 0 i = 0 then (if (0 : Nat) = 0 then _ else _) else _) = _
      rw [if_pos h0, if_pos rfl]
    have hs4 : zset (zset (zset (zset h' 121 10 (0, 0)) 121 11 (0, -1)) 126 275 (0, 1)) 126 276 (0, (s : Int)) 121 25 = (0, (s : Int)) := by
      rw [zset_ne (by decide), zset_ne (by decide), zset_ne (by decide), zset_ne (by decide)]
      exact hs
    refine vP_loop (fun h'' l => ∃ x : Nat, l = [some (2, 121), some (0, (n : Int)), some (0, (x : Int))] ∧ x ≤ 9 * s ∧ (∀ a b, ¬ (a = 126 ∧ 277 ≤ b ∧ b < 547) → h'' a b = zset (zset (zset (zset h' 121 10 (0, 0)) 121 11 (0, -1)) 126 275 (0, 1)) 126 276 (0, (s : Int)) a b)) ?_ N _ _ ⟨0, rfl, by omega, fun _ _ _ => rfl⟩
    rintro N h'' l ⟨x, rfl, hx, hc⟩ ih2
    have hs5 : h'' 121 25 = (0, (s : Int)) := (hc 121 25 (fun c => by omega)).trans hs4
    refine vP_hv (fun hv => qr_ord82 hT hO n s x hv hs5 ⟨by omega, by omega⟩ ⟨by omega, by omega⟩ ?_ ?_)
    · intro c _ _ _ _
      refine ih2 _ _ ⟨x + 1, rfl, by omega, fun a b hn => ?_⟩
      rw [zset_ne (fun c => hn (by omega))]
      exact hc a b hn
    · intro c
      refine ⟨fun a b hn => ?_, Or.inr ⟨s, hr, rfl, ?_, ?_, ?_, ?_⟩⟩
      · show h'' a b = h a b
        rw [hc a b (fun c => hn (by omega)), zset_ne (fun c => hn (by omega)), zset_ne (fun c => hn (by omega)), zset_ne (fun c => hn (by omega)), zset_ne (fun c => hn (by omega))]
        exact (f0.f hF) a b hn
      · exact (hc 121 10 (fun c => by omega)).trans ((zset_ne (by decide)).trans ((zset_ne (by decide)).trans ((zset_ne (by decide)).trans zset_same)))
      · exact (hc 121 11 (fun c => by omega)).trans ((zset_ne (by decide)).trans ((zset_ne (by decide)).trans zset_same))
      · exact (hc 126 275 (fun c => by omega)).trans ((zset_ne (by decide)).trans zset_same)
      · exact (hc 126 276 (fun c => by omega)).trans zset_same
  · intro h0
    have R := (rx_rs (D := D) hT hO (B := B) (n := n) (m := m) (τ := τ) hb N).1 h' s 0 i (by decide) o (Or.inr rfl) (Or.inl h0)
    refine vP_Q (fun r hr => ?_) R
    obtain ⟨g2, v⟩ := r
    obtain ⟨h1, h2⟩ := hr
    have h1 : v = none := h1
    subst h1
    refine vP_hv (fun hv => qr_ord47 hT hO n o' hv ?_)
    rcases h2 with ⟨n2, e, a1, a2, a3, a4⟩ | ⟨n2, s2, i2, a1, a2, a3, a4⟩
    · have hr : pOrd τ P 900 0 0 0 = .inl e := by
        have w := (hq.er a1) (900 - (nn + n2))
        rw [show nn + n2 + (900 - (nn + n2)) = 900 from by omega] at w
        exact w
      refine vP_hv (fun hv => qr_ord28B hT hO n o' hv a3 ⟨fun a b hn => ?_, Or.inl ⟨e, hr, rfl, ?_, ?_, fun j hj => ?_⟩⟩)
      · show zset (zset (zset g2 121 10 (0, e.1)) 121 11 (0, e.2)) 121 0 (0, 10) a b = h a b
        rw [zset_ne (fun c => hn (by omega)), zset_ne (fun c => hn (by omega)), zset_ne (fun c => hn (by omega))]
        exact (f0.f (hF.trans a4)) a b hn
      · dsimp only
        exact (zset_ne (by decide)).trans ((zset_ne (by decide)).trans zset_same)
      · dsimp only
        exact (zset_ne (by decide)).trans zset_same
      · show zset (zset (zset g2 121 10 (0, e.1)) 121 11 (0, e.2)) 121 0 (0, 10) 126 j = h 126 j
        rw [zset_ne (by omega), zset_ne (by omega), zset_ne (by omega)]
        exact cc0 _ (hF.trans a4) j hj
    · exact ih _ _ ⟨o', nn + n2, s2, i2, rfl, hq.trans a1, by omega, a3, hF.trans a4⟩
end
section
theorem qc_ord_24 {D : zD} {T : zT} (hT : hTab T) (hO : vOK T) {N : Nat} {h : zH} {Q : zR → Prop} {B : Nat → Int} {n : Nat} {P : PT} (hv0 : zHv h) (hB : TXc B n h) (hP : cP 24 P h) (hb : lB P) (e7 : h 0 7 = (2, 24)) (hn : (n : Int) ≤ (h 10 1).2) (hn3 : (n : Int) ≤ 300)
    (k0 : ∀ (g4 : zH) (m : Nat) (τ : PT) (s : Nat) (z4 : Int), (oXr h g4) → (Tks B n m τ) → (pOrd τ P 900 0 0 0 = .inr s) → (g4 18 1 = (0, (s : Int))) → (g4 18 0 = (0, z4)) → (0 ≤ z4) → (g4 10 7 = (0, 0)) → (g4 10 8 = (0, -1)) → Q (zset (zcopy (zcopy (zcopy (zcopy (zset (zset (zset (zset (zset g4 10 1 (0, 0)) 10 9 (0, 0)) 10 10 (0, -1)) 34 0 (0, z4)) 34 1 (0, (s : Int))) 19 0 35 0 60) 20 0 36 0 60) 21 0 37 0 60) 22 0 38 0 60) 0 0 (0, 0), some (0, (s : Int))))
    (k1 : ∀ (g5 : zH) (m : Nat) (τ : PT) (e5 : Er), (oXr h g5) → (Tks B n m τ) → (pOrd τ P 900 0 0 0 = .inl e5) → (cB e5 g5) → Q (zset (zset (zset (zset g5 10 1 (0, 0)) 10 9 (0, e5.1)) 10 10 (0, e5.2)) 0 0 (0, 10), some (0, -1))) :
    vP D T N 170 0 h [some (2, 0), some (0, (n : Int)), none] [] Q := by
  refine v_load (v := (0, (n : Int))) (hi_X11_orders_0 hT) rfl rfl ?_
  refine v_if (hi_X11_orders_1 hT) (fun hc1 => absurd (show (n : Int) < 0 from hc1) (by omega)) (fun _ => ?_)
  refine v_load (v := (0, (n : Int))) (hi_X11_orders_4 hT) rfl rfl ?_
  refine v_load (v := (2, 0)) (hi_X11_orders_5 hT) rfl rfl ?_
  refine v_getR (c := 10) (r := 0) (hi_X11_orders_6 hT) rfl rfl rfl ?_
  refine v_getI (t := 0) (r := 10) (hi_X11_orders_9 hT) rfl rfl rfl ?_
  refine v_ic (hi_X11_orders_12 hT) (fun hc2 => absurd (show (h 10 1).2 < (n : Int) from hc2) (by omega)) (fun _ => ?_)
  refine v_load (v := (0, (n : Int))) (hi_X11_orders_15 hT) rfl rfl ?_
  refine v_push (300) (hi_X11_orders_16 hT) rfl ?_
  refine v_ic (hi_X11_orders_19 hT) (fun hc3 => absurd (show 300 < (n : Int) from hc3) (by omega)) (fun _ => ?_)
  refine v_load (v := (2, 0)) (hi_X11_orders_28 hT) rfl rfl ?_
  refine v_getR (c := 17) (r := 0) (hi_X11_orders_29 hT) rfl rfl rfl ?_
  refine v_load (v := (2, 0)) (hi_X11_orders_32 hT) rfl rfl ?_
  refine v_getf (v := (2, 24)) (r := 0) (hi_X11_orders_33 hT) rfl rfl (fun _ => e7) ?_
  refine v_load (v := (0, (n : Int))) (hi_X11_orders_36 hT) rfl rfl ?_
  refine v_call (w := 5) [some (2, 17), some (2, 24), some (0, (n : Int)), none, none] hO (hi_X11_orders_37 hT) rfl rfl (cOx_k (co_text_24 hT hO hB (by omega) hP hb) (fun g4 m τ s z4 xf4 hK4 q4 sa4 sb4 bz4 da4 db4 => ?_) (fun g5 m τ e5 xf5 hK5 q5 c5 => ?_))
  · show vP D T N 170 40 g4 [some (2, 0), some (0, (n : Int)), none] [(0, 1)] _
    refine vP_hv (fun hv4 => ?_)
    refine v_store1 [some (2, 0), some (0, (n : Int)), some (0, 1)] (hi_X11_orders_40 hT) ⟨rfl, Nat.ne_of_beq_eq_false rfl⟩ (Nat.le_of_ble_eq_true rfl) rfl ?_
    refine v_load (v := (2, 0)) (hi_X11_orders_41 hT) rfl rfl ?_
    refine v_getR (c := 10) (r := 0) (hi_X11_orders_42 hT) rfl rfl rfl ?_
    refine v_call (w := 1) [some (2, 10)] hO (hi_X11_orders_45 hT) rfl rfl ?_
    refine v_load (v := (2, 10)) (hi_X8_finishText_0 hT) rfl rfl ?_
    refine v_push (0) (hi_X8_finishText_1 hT) rfl ?_
    refine v_putf (r := 10) hO (hi_X8_finishText_2 hT) rfl (fun hf6 => ?_)
    refine v_load (v := (2, 10)) (hi_X8_finishText_5 hT) rfl rfl ?_
    refine v_load (v := (2, 10)) (hi_X8_finishText_6 hT) rfl rfl ?_
    refine v_getf (v := (0, 0)) (r := 10) (hi_X8_finishText_7 hT) rfl rfl (fun _ => Eq.trans (zset_ne (fun c => absurd c.2 (by decide))) (da4)) ?_
    refine v_putf (r := 10) hO (hi_X8_finishText_10 hT) rfl (fun hf7 => ?_)
    refine v_load (v := (2, 10)) (hi_X8_finishText_13 hT) rfl rfl ?_
    refine v_load (v := (2, 10)) (hi_X8_finishText_14 hT) rfl rfl ?_
    refine v_getf (v := (0, -1)) (r := 10) (hi_X8_finishText_15 hT) rfl rfl (fun _ => Eq.trans (Eq.trans (zset_ne (fun c => absurd c.2 (by decide))) (zset_ne (fun c => absurd c.2 (by decide)))) (db4)) ?_
    refine v_putf (r := 10) hO (hi_X8_finishText_18 hT) rfl (fun hf8 => ?_)
    refine v_ret0 (hi_X8_finishText_21 hT) ?_
    show vP D T N 170 48 (zset (zset (zset g4 10 1 (0, 0)) 10 9 (0, 0)) 10 10 (0, -1)) [some (2, 0), some (0, (n : Int)), some (0, 1)] [] _
    refine v_load (v := (0, 1)) (hi_X11_orders_48 hT) rfl rfl ?_
    refine v_if (hi_X11_orders_49 hT) (fun hc9 => absurd (show (1 : Int) = 0 from hc9) (by decide)) (fun _ => ?_)
    refine v_load (v := (2, 0)) (hi_X11_orders_59 hT) rfl rfl ?_
    refine v_getf (v := (2, 24)) (r := 0) (hi_X11_orders_60 hT) rfl rfl (fun _ => Eq.trans (Eq.trans (zset_ne (fun c => absurd c.1 (by decide))) (Eq.trans (zset_ne (fun c => absurd c.1 (by decide))) (zset_ne (fun c => absurd c.1 (by decide))))) ((Eq.trans (xf4 0 7 (fun c => by omega)) e7))) ?_
    refine v_getR (c := 34) (r := 24) (hi_X11_orders_63 hT) rfl rfl rfl ?_
    refine v_load (v := (2, 0)) (hi_X11_orders_66 hT) rfl rfl ?_
    refine v_getR (c := 17) (r := 0) (hi_X11_orders_67 hT) rfl rfl rfl ?_
    refine v_getR (c := 18) (r := 17) (hi_X11_orders_70 hT) rfl rfl rfl ?_
    refine v_call (w := 2) [some (2, 34), some (2, 18)] hO (hi_X11_orders_73 hT) rfl rfl ?_
    refine v_load (v := (2, 34)) (hi_X5_becomeLike_0 hT) rfl rfl ?_
    refine v_load (v := (2, 18)) (hi_X5_becomeLike_1 hT) rfl rfl ?_
    refine v_getf (v := (0, z4)) (r := 18) (hi_X5_becomeLike_2 hT) rfl rfl (fun _ => Eq.trans (Eq.trans (zset_ne (fun c => absurd c.1 (by decide))) (Eq.trans (zset_ne (fun c => absurd c.1 (by decide))) (zset_ne (fun c => absurd c.1 (by decide))))) (sb4)) ?_
    refine v_putf (r := 34) hO (hi_X5_becomeLike_5 hT) rfl (fun hf10 => ?_)
    refine v_load (v := (2, 34)) (hi_X5_becomeLike_8 hT) rfl rfl ?_
    refine v_load (v := (2, 18)) (hi_X5_becomeLike_9 hT) rfl rfl ?_
    refine v_getf (v := (0, (s : Int))) (r := 18) (hi_X5_becomeLike_10 hT) rfl rfl (fun _ => Eq.trans (Eq.trans (zset_ne (fun c => absurd c.1 (by decide))) (Eq.trans (zset_ne (fun c => absurd c.1 (by decide))) (Eq.trans (zset_ne (fun c => absurd c.1 (by decide))) (zset_ne (fun c => absurd c.1 (by decide)))))) (sa4)) ?_
    refine v_putf (r := 34) hO (hi_X5_becomeLike_13 hT) rfl (fun hf11 => ?_)
    refine v_load (v := (2, 18)) (hi_X5_becomeLike_16 hT) rfl rfl ?_
    refine v_getR (c := 19) (r := 18) (hi_X5_becomeLike_17 hT) rfl rfl rfl ?_
    refine v_push (0) (hi_X5_becomeLike_20 hT) rfl ?_
    refine v_load (v := (2, 34)) (hi_X5_becomeLike_21 hT) rfl rfl ?_
    refine v_getR (c := 35) (r := 34) (hi_X5_becomeLike_22 hT) rfl rfl rfl ?_
    refine v_push (0) (hi_X5_becomeLike_25 hT) rfl ?_
    refine v_push (60) (hi_X5_becomeLike_26 hT) rfl ?_
    refine v_copy (r0 := 19) (r1 := 35) (hi_X5_becomeLike_28 hT) rfl rfl rfl rfl (fun hd12 hd13 hd14 hd15 hd16 => ?_)
    refine v_load (v := (2, 18)) (hi_X5_becomeLike_31 hT) rfl rfl ?_
    refine v_getR (c := 20) (r := 18) (hi_X5_becomeLike_32 hT) rfl rfl rfl ?_
    refine v_push (0) (hi_X5_becomeLike_35 hT) rfl ?_
    refine v_load (v := (2, 34)) (hi_X5_becomeLike_36 hT) rfl rfl ?_
    refine v_getR (c := 36) (r := 34) (hi_X5_becomeLike_37 hT) rfl rfl rfl ?_
    refine v_push (0) (hi_X5_becomeLike_40 hT) rfl ?_
    refine v_push (60) (hi_X5_becomeLike_41 hT) rfl ?_
    refine v_copy (r0 := 20) (r1 := 36) (hi_X5_becomeLike_43 hT) rfl rfl rfl rfl (fun hd17 hd18 hd19 hd20 hd21 => ?_)
    refine v_load (v := (2, 18)) (hi_X5_becomeLike_46 hT) rfl rfl ?_
    refine v_getR (c := 21) (r := 18) (hi_X5_becomeLike_47 hT) rfl rfl rfl ?_
    refine v_push (0) (hi_X5_becomeLike_50 hT) rfl ?_
    refine v_load (v := (2, 34)) (hi_X5_becomeLike_51 hT) rfl rfl ?_
    refine v_getR (c := 37) (r := 34) (hi_X5_becomeLike_52 hT) rfl rfl rfl ?_
    refine v_push (0) (hi_X5_becomeLike_55 hT) rfl ?_
    refine v_push (60) (hi_X5_becomeLike_56 hT) rfl ?_
    refine v_copy (r0 := 21) (r1 := 37) (hi_X5_becomeLike_58 hT) rfl rfl rfl rfl (fun hd22 hd23 hd24 hd25 hd26 => ?_)
    refine v_load (v := (2, 18)) (hi_X5_becomeLike_61 hT) rfl rfl ?_
    refine v_getR (c := 22) (r := 18) (hi_X5_becomeLike_62 hT) rfl rfl rfl ?_
    refine v_push (0) (hi_X5_becomeLike_65 hT) rfl ?_
    refine v_load (v := (2, 34)) (hi_X5_becomeLike_66 hT) rfl rfl ?_
    refine v_getR (c := 38) (r := 34) (hi_X5_becomeLike_67 hT) rfl rfl rfl ?_
    refine v_push (0) (hi_X5_becomeLike_70 hT) rfl ?_
    refine v_push (60) (hi_X5_becomeLike_71 hT) rfl ?_
    refine v_copy (r0 := 22) (r1 := 38) (hi_X5_becomeLike_73 hT) rfl rfl rfl rfl (fun hd27 hd28 hd29 hd30 hd31 => ?_)
    refine v_ret0 (hi_X5_becomeLike_76 hT) ?_
    show vP D T N 170 76 (zcopy (zcopy (zcopy (zcopy (zset (zset (zset (zset (zset g4 10 1 (0, 0)) 10 9 (0, 0)) 10 10 (0, -1)) 34 0 (0, z4)) 34 1 (0, (s : Int))) 19 0 35 0 60) 20 0 36 0 60) 21 0 37 0 60) 22 0 38 0 60) [some (2, 0), some (0, (n : Int)), some (0, 1)] [] _
    refine v_load (v := (2, 0)) (hi_X11_orders_76 hT) rfl rfl ?_
    refine v_load (v := (2, 0)) (hi_X11_orders_77 hT) rfl rfl ?_
    refine v_getf (v := (2, 24)) (r := 0) (hi_X11_orders_78 hT) rfl rfl (fun _ => Eq.trans (Eq.trans (vcopy_ne (fun c => absurd c.1 (by decide))) (Eq.trans (vcopy_ne (fun c => absurd c.1 (by decide))) (Eq.trans (vcopy_ne (fun c => absurd c.1 (by decide))) (Eq.trans (vcopy_ne (fun c => absurd c.1 (by decide))) (Eq.trans (zset_ne (fun c => absurd c.1 (by decide))) (Eq.trans (zset_ne (fun c => absurd c.1 (by decide))) (Eq.trans (zset_ne (fun c => absurd c.1 (by decide))) (Eq.trans (zset_ne (fun c => absurd c.1 (by decide))) (zset_ne (fun c => absurd c.1 (by decide))))))))))) ((Eq.trans (xf4 0 7 (fun c => by omega)) e7))) ?_
    refine v_getR (c := 34) (r := 24) (hi_X11_orders_81 hT) rfl rfl rfl ?_
    refine v_getf (v := (0, (s : Int))) (r := 34) (hi_X11_orders_84 hT) rfl rfl (fun _ => Eq.trans (Eq.trans (vcopy_ne (fun c => absurd c.1 (by decide))) (Eq.trans (vcopy_ne (fun c => absurd c.1 (by decide))) (Eq.trans (vcopy_ne (fun c => absurd c.1 (by decide))) (vcopy_ne (fun c => absurd c.1 (by decide)))))) zset_same) ?_
    refine v_call (w := 2) [some (2, 0), some (0, (s : Int))] hO (hi_X11_orders_87 hT) rfl rfl ?_
    refine v_load (v := (2, 0)) (hi_X11_answer_0 hT) rfl rfl ?_
    refine v_push (0) (hi_X11_answer_1 hT) rfl ?_
    refine v_putf (r := 0) hO (hi_X11_answer_2 hT) rfl (fun hf32 => ?_)
    refine v_load (v := (0, (s : Int))) (hi_X11_answer_5 hT) rfl rfl ?_
    refine v_ret (hi_X11_answer_6 hT) (Or.inl rfl) ?_
    show vP D T N 170 90 (zset (zcopy (zcopy (zcopy (zcopy (zset (zset (zset (zset (zset g4 10 1 (0, 0)) 10 9 (0, 0)) 10 10 (0, -1)) 34 0 (0, z4)) 34 1 (0, (s : Int))) 19 0 35 0 60) 20 0 36 0 60) 21 0 37 0 60) 22 0 38 0 60) 0 0 (0, 0)) [some (2, 0), some (0, (n : Int)), some (0, 1)] [(0, (s : Int))] _
    refine v_ret (hi_X11_orders_90 hT) (Or.inl rfl) ?_
    exact k0 g4 m τ s z4 xf4 hK4 q4 sa4 sb4 bz4 da4 db4
  · show vP D T N 170 40 g5 [some (2, 0), some (0, (n : Int)), none] [(0, 0)] _
    refine vP_hv (fun hv5 => ?_)
    refine v_store1 [some (2, 0), some (0, (n : Int)), some (0, 0)] (hi_X11_orders_40 hT) ⟨rfl, Nat.ne_of_beq_eq_false rfl⟩ (Nat.le_of_ble_eq_true rfl) rfl ?_
    refine v_load (v := (2, 0)) (hi_X11_orders_41 hT) rfl rfl ?_
    refine v_getR (c := 10) (r := 0) (hi_X11_orders_42 hT) rfl rfl rfl ?_
    refine v_call (w := 1) [some (2, 10)] hO (hi_X11_orders_45 hT) rfl rfl ?_
    refine v_load (v := (2, 10)) (hi_X8_finishText_0 hT) rfl rfl ?_
    refine v_push (0) (hi_X8_finishText_1 hT) rfl ?_
    refine v_putf (r := 10) hO (hi_X8_finishText_2 hT) rfl (fun hf33 => ?_)
    refine v_load (v := (2, 10)) (hi_X8_finishText_5 hT) rfl rfl ?_
    refine v_load (v := (2, 10)) (hi_X8_finishText_6 hT) rfl rfl ?_
    refine v_getf (v := (0, e5.1)) (r := 10) (hi_X8_finishText_7 hT) rfl rfl (fun _ => Eq.trans (zset_ne (fun c => absurd c.2 (by decide))) (c5.1)) ?_
    refine v_putf (r := 10) hO (hi_X8_finishText_10 hT) rfl (fun hf34 => ?_)
    refine v_load (v := (2, 10)) (hi_X8_finishText_13 hT) rfl rfl ?_
    refine v_load (v := (2, 10)) (hi_X8_finishText_14 hT) rfl rfl ?_
    refine v_getf (v := (0, e5.2)) (r := 10) (hi_X8_finishText_15 hT) rfl rfl (fun _ => Eq.trans (Eq.trans (zset_ne (fun c => absurd c.2 (by decide))) (zset_ne (fun c => absurd c.2 (by decide)))) (c5.2)) ?_
    refine v_putf (r := 10) hO (hi_X8_finishText_18 hT) rfl (fun hf35 => ?_)
    refine v_ret0 (hi_X8_finishText_21 hT) ?_
    show vP D T N 170 48 (zset (zset (zset g5 10 1 (0, 0)) 10 9 (0, e5.1)) 10 10 (0, e5.2)) [some (2, 0), some (0, (n : Int)), some (0, 0)] [] _
    refine v_load (v := (0, 0)) (hi_X11_orders_48 hT) rfl rfl ?_
    refine v_if (hi_X11_orders_49 hT) (fun _ => ?_) (fun hc36 => absurd (show (0 : Int) = 0 from (by decide)) hc36)
    refine v_load (v := (2, 0)) (hi_X11_orders_52 hT) rfl rfl ?_
    refine v_push (10) (hi_X11_orders_53 hT) rfl ?_
    refine v_call (w := 2) [some (2, 0), some (0, 10)] hO (hi_X11_orders_55 hT) rfl rfl ?_
    refine v_load (v := (2, 0)) (hi_X11_refused_0 hT) rfl rfl ?_
    refine v_load (v := (0, 10)) (hi_X11_refused_1 hT) rfl rfl ?_
    refine v_putf (r := 0) hO (hi_X11_refused_2 hT) rfl (fun hf37 => ?_)
    refine v_push (-1) (hi_X11_refused_5 hT) rfl ?_
    refine v_ret (hi_X11_refused_6 hT) (Or.inl rfl) ?_
    show vP D T N 170 58 (zset (zset (zset (zset g5 10 1 (0, 0)) 10 9 (0, e5.1)) 10 10 (0, e5.2)) 0 0 (0, 10)) [some (2, 0), some (0, (n : Int)), some (0, 0)] [(0, -1)] _
    refine v_ret (hi_X11_orders_58 hT) (Or.inl rfl) ?_
    exact k1 g5 m τ e5 xf5 hK5 q5 c5
theorem co_ord_24 {D : zD} {T : zT} (hT : hTab T) (hO : vOK T) {N : Nat} {h : zH} {B : Nat → Int} {n : Nat} {P : PT} (hB : TXc B n h) (hP : cP 24 P h) (hb : lB P) (e7 : h 0 7 = (2, 24)) (hn : (n : Int) ≤ (h 10 1).2) (hn3 : (n : Int) ≤ 300) : vP D T N 170 0 h [some (2, 0), some (0, (n : Int)), none] [] (cOd 24 B n P h) := by
  refine vP_hv (fun hv => qc_ord_24 hT hO hv hB hP hb e7 hn hn3 ?_ ?_)
  · intro g m τ s z xf hK q s1 s0 z0 d7 d8
    refine ⟨fun a b hn => ?_, m, τ, hK, Or.inr ⟨s, q, rfl, ?_, ?_, ?_, z, z0, ?_⟩⟩
    · show zset (zcopy (zcopy (zcopy (zcopy (zset (zset (zset (zset (zset g 10 1 (0, 0)) 10 9 (0, 0)) 10 10 (0, -1)) 34 0 (0, z)) 34 1 (0, (s : Int))) 19 0 35 0 60) 20 0 36 0 60) 21 0 37 0 60) 22 0 38 0 60) 0 0 (0, 0) a b = h a b
      rw [zset_ne (fun c => hn (by omega)), vcopy_ne (fun c => hn (by omega)), vcopy_ne (fun c => hn (by omega)), vcopy_ne (fun c => hn (by omega)), vcopy_ne (fun c => hn (by omega)), zset_ne (fun c => hn (by omega)), zset_ne (fun c => hn (by omega)), zset_ne (fun c => hn (by omega)), zset_ne (fun c => hn (by omega)), zset_ne (fun c => hn (by omega))]
      exact xf a b (fun c => hn (by omega))
    · dsimp only
      exact (zset_ne (by decide)).trans ((vcopy_ne (by decide)).trans ((vcopy_ne (by decide)).trans ((vcopy_ne (by decide)).trans ((vcopy_ne (by decide)).trans ((zset_ne (by decide)).trans ((zset_ne (by decide)).trans ((zset_ne (by decide)).trans zset_same)))))))
    · dsimp only
      exact (zset_ne (by decide)).trans ((vcopy_ne (by decide)).trans ((vcopy_ne (by decide)).trans ((vcopy_ne (by decide)).trans ((vcopy_ne (by decide)).trans ((zset_ne (by decide)).trans ((zset_ne (by decide)).trans zset_same))))))
    · dsimp only
      exact (zset_ne (by decide)).trans ((vcopy_ne (by decide)).trans ((vcopy_ne (by decide)).trans ((vcopy_ne (by decide)).trans ((vcopy_ne (by decide)).trans zset_same))))
    · dsimp only
      exact (zset_ne (by decide)).trans ((vcopy_ne (by decide)).trans ((vcopy_ne (by decide)).trans ((vcopy_ne (by decide)).trans ((vcopy_ne (by decide)).trans ((zset_ne (by decide)).trans zset_same)))))
  · intro g m τ e xf hK q c
    refine ⟨fun a b hn => ?_, m, τ, hK, Or.inl ⟨e, q, rfl, ?_, ?_, ?_⟩⟩
    · show zset (zset (zset (zset g 10 1 (0, 0)) 10 9 (0, e.1)) 10 10 (0, e.2)) 0 0 (0, 10) a b = h a b
      rw [zset_ne (fun c => hn (by omega)), zset_ne (fun c => hn (by omega)), zset_ne (fun c => hn (by omega)), zset_ne (fun c => hn (by omega))]
      exact xf a b (fun c => hn (by omega))
    · dsimp only
      exact (zset_ne (by decide)).trans ((zset_ne (by decide)).trans zset_same)
    · dsimp only
      exact (zset_ne (by decide)).trans zset_same
    · intro j
      show zset (zset (zset (zset g 10 1 (0, 0)) 10 9 (0, e.1)) 10 10 (0, e.2)) 0 0 (0, 10) 34 j = h 34 j
      rw [zset_ne (by omega), zset_ne (by omega), zset_ne (by omega), zset_ne (by omega)]
      exact xf 34 j (fun c => by omega)
theorem qc_ord_39 {D : zD} {T : zT} (hT : hTab T) (hO : vOK T) {N : Nat} {h : zH} {Q : zR → Prop} {B : Nat → Int} {n : Nat} {P : PT} (hv0 : zHv h) (hB : TXc B n h) (hP : cP 39 P h) (hb : lB P) (e7 : h 0 7 = (2, 39)) (hn : (n : Int) ≤ (h 10 1).2) (hn3 : (n : Int) ≤ 300)
    (k0 : ∀ (g4 : zH) (m : Nat) (τ : PT) (s : Nat) (z4 : Int), (oXr h g4) → (Tks B n m τ) → (pOrd τ P 900 0 0 0 = .inr s) → (g4 18 1 = (0, (s : Int))) → (g4 18 0 = (0, z4)) → (0 ≤ z4) → (g4 10 7 = (0, 0)) → (g4 10 8 = (0, -1)) → Q (zset (zcopy (zcopy (zcopy (zcopy (zset (zset (zset (zset (zset g4 10 1 (0, 0)) 10 9 (0, 0)) 10 10 (0, -1)) 49 0 (0, z4)) 49 1 (0, (s : Int))) 19 0 50 0 60) 20 0 51 0 60) 21 0 52 0 60) 22 0 53 0 60) 0 0 (0, 0), some (0, (s : Int))))
    (k1 : ∀ (g5 : zH) (m : Nat) (τ : PT) (e5 : Er), (oXr h g5) → (Tks B n m τ) → (pOrd τ P 900 0 0 0 = .inl e5) → (cB e5 g5) → Q (zset (zset (zset (zset g5 10 1 (0, 0)) 10 9 (0, e5.1)) 10 10 (0, e5.2)) 0 0 (0, 10), some (0, -1))) :
    vP D T N 170 0 h [some (2, 0), some (0, (n : Int)), none] [] Q := by
  refine v_load (v := (0, (n : Int))) (hi_X11_orders_0 hT) rfl rfl ?_
  refine v_if (hi_X11_orders_1 hT) (fun hc1 => absurd (show (n : Int) < 0 from hc1) (by omega)) (fun _ => ?_)
  refine v_load (v := (0, (n : Int))) (hi_X11_orders_4 hT) rfl rfl ?_
  refine v_load (v := (2, 0)) (hi_X11_orders_5 hT) rfl rfl ?_
  refine v_getR (c := 10) (r := 0) (hi_X11_orders_6 hT) rfl rfl rfl ?_
  refine v_getI (t := 0) (r := 10) (hi_X11_orders_9 hT) rfl rfl rfl ?_
  refine v_ic (hi_X11_orders_12 hT) (fun hc2 => absurd (show (h 10 1).2 < (n : Int) from hc2) (by omega)) (fun _ => ?_)
  refine v_load (v := (0, (n : Int))) (hi_X11_orders_15 hT) rfl rfl ?_
  refine v_push (300) (hi_X11_orders_16 hT) rfl ?_
  refine v_ic (hi_X11_orders_19 hT) (fun hc3 => absurd (show 300 < (n : Int) from hc3) (by omega)) (fun _ => ?_)
  refine v_load (v := (2, 0)) (hi_X11_orders_28 hT) rfl rfl ?_
  refine v_getR (c := 17) (r := 0) (hi_X11_orders_29 hT) rfl rfl rfl ?_
  refine v_load (v := (2, 0)) (hi_X11_orders_32 hT) rfl rfl ?_
  refine v_getf (v := (2, 39)) (r := 0) (hi_X11_orders_33 hT) rfl rfl (fun _ => e7) ?_
  refine v_load (v := (0, (n : Int))) (hi_X11_orders_36 hT) rfl rfl ?_
  refine v_call (w := 5) [some (2, 17), some (2, 39), some (0, (n : Int)), none, none] hO (hi_X11_orders_37 hT) rfl rfl (cOx_k (co_text_39 hT hO hB (by omega) hP hb) (fun g4 m τ s z4 xf4 hK4 q4 sa4 sb4 bz4 da4 db4 => ?_) (fun g5 m τ e5 xf5 hK5 q5 c5 => ?_))
  · show vP D T N 170 40 g4 [some (2, 0), some (0, (n : Int)), none] [(0, 1)] _
    refine vP_hv (fun hv4 => ?_)
    refine v_store1 [some (2, 0), some (0, (n : Int)), some (0, 1)] (hi_X11_orders_40 hT) ⟨rfl, Nat.ne_of_beq_eq_false rfl⟩ (Nat.le_of_ble_eq_true rfl) rfl ?_
    refine v_load (v := (2, 0)) (hi_X11_orders_41 hT) rfl rfl ?_
    refine v_getR (c := 10) (r := 0) (hi_X11_orders_42 hT) rfl rfl rfl ?_
    refine v_call (w := 1) [some (2, 10)] hO (hi_X11_orders_45 hT) rfl rfl ?_
    refine v_load (v := (2, 10)) (hi_X8_finishText_0 hT) rfl rfl ?_
    refine v_push (0) (hi_X8_finishText_1 hT) rfl ?_
    refine v_putf (r := 10) hO (hi_X8_finishText_2 hT) rfl (fun hf6 => ?_)
    refine v_load (v := (2, 10)) (hi_X8_finishText_5 hT) rfl rfl ?_
    refine v_load (v := (2, 10)) (hi_X8_finishText_6 hT) rfl rfl ?_
    refine v_getf (v := (0, 0)) (r := 10) (hi_X8_finishText_7 hT) rfl rfl (fun _ => Eq.trans (zset_ne (fun c => absurd c.2 (by decide))) (da4)) ?_
    refine v_putf (r := 10) hO (hi_X8_finishText_10 hT) rfl (fun hf7 => ?_)
    refine v_load (v := (2, 10)) (hi_X8_finishText_13 hT) rfl rfl ?_
    refine v_load (v := (2, 10)) (hi_X8_finishText_14 hT) rfl rfl ?_
    refine v_getf (v := (0, -1)) (r := 10) (hi_X8_finishText_15 hT) rfl rfl (fun _ => Eq.trans (Eq.trans (zset_ne (fun c => absurd c.2 (by decide))) (zset_ne (fun c => absurd c.2 (by decide)))) (db4)) ?_
    refine v_putf (r := 10) hO (hi_X8_finishText_18 hT) rfl (fun hf8 => ?_)
    refine v_ret0 (hi_X8_finishText_21 hT) ?_
    show vP D T N 170 48 (zset (zset (zset g4 10 1 (0, 0)) 10 9 (0, 0)) 10 10 (0, -1)) [some (2, 0), some (0, (n : Int)), some (0, 1)] [] _
    refine v_load (v := (0, 1)) (hi_X11_orders_48 hT) rfl rfl ?_
    refine v_if (hi_X11_orders_49 hT) (fun hc9 => absurd (show (1 : Int) = 0 from hc9) (by decide)) (fun _ => ?_)
    refine v_load (v := (2, 0)) (hi_X11_orders_59 hT) rfl rfl ?_
    refine v_getf (v := (2, 39)) (r := 0) (hi_X11_orders_60 hT) rfl rfl (fun _ => Eq.trans (Eq.trans (zset_ne (fun c => absurd c.1 (by decide))) (Eq.trans (zset_ne (fun c => absurd c.1 (by decide))) (zset_ne (fun c => absurd c.1 (by decide))))) ((Eq.trans (xf4 0 7 (fun c => by omega)) e7))) ?_
    refine v_getR (c := 49) (r := 39) (hi_X11_orders_63 hT) rfl rfl rfl ?_
    refine v_load (v := (2, 0)) (hi_X11_orders_66 hT) rfl rfl ?_
    refine v_getR (c := 17) (r := 0) (hi_X11_orders_67 hT) rfl rfl rfl ?_
    refine v_getR (c := 18) (r := 17) (hi_X11_orders_70 hT) rfl rfl rfl ?_
    refine v_call (w := 2) [some (2, 49), some (2, 18)] hO (hi_X11_orders_73 hT) rfl rfl ?_
    refine v_load (v := (2, 49)) (hi_X5_becomeLike_0 hT) rfl rfl ?_
    refine v_load (v := (2, 18)) (hi_X5_becomeLike_1 hT) rfl rfl ?_
    refine v_getf (v := (0, z4)) (r := 18) (hi_X5_becomeLike_2 hT) rfl rfl (fun _ => Eq.trans (Eq.trans (zset_ne (fun c => absurd c.1 (by decide))) (Eq.trans (zset_ne (fun c => absurd c.1 (by decide))) (zset_ne (fun c => absurd c.1 (by decide))))) (sb4)) ?_
    refine v_putf (r := 49) hO (hi_X5_becomeLike_5 hT) rfl (fun hf10 => ?_)
    refine v_load (v := (2, 49)) (hi_X5_becomeLike_8 hT) rfl rfl ?_
    refine v_load (v := (2, 18)) (hi_X5_becomeLike_9 hT) rfl rfl ?_
    refine v_getf (v := (0, (s : Int))) (r := 18) (hi_X5_becomeLike_10 hT) rfl rfl (fun _ => Eq.trans (Eq.trans (zset_ne (fun c => absurd c.1 (by decide))) (Eq.trans (zset_ne (fun c => absurd c.1 (by decide))) (Eq.trans (zset_ne (fun c => absurd c.1 (by decide))) (zset_ne (fun c => absurd c.1 (by decide)))))) (sa4)) ?_
    refine v_putf (r := 49) hO (hi_X5_becomeLike_13 hT) rfl (fun hf11 => ?_)
    refine v_load (v := (2, 18)) (hi_X5_becomeLike_16 hT) rfl rfl ?_
    refine v_getR (c := 19) (r := 18) (hi_X5_becomeLike_17 hT) rfl rfl rfl ?_
    refine v_push (0) (hi_X5_becomeLike_20 hT) rfl ?_
    refine v_load (v := (2, 49)) (hi_X5_becomeLike_21 hT) rfl rfl ?_
    refine v_getR (c := 50) (r := 49) (hi_X5_becomeLike_22 hT) rfl rfl rfl ?_
    refine v_push (0) (hi_X5_becomeLike_25 hT) rfl ?_
    refine v_push (60) (hi_X5_becomeLike_26 hT) rfl ?_
    refine v_copy (r0 := 19) (r1 := 50) (hi_X5_becomeLike_28 hT) rfl rfl rfl rfl (fun hd12 hd13 hd14 hd15 hd16 => ?_)
    refine v_load (v := (2, 18)) (hi_X5_becomeLike_31 hT) rfl rfl ?_
    refine v_getR (c := 20) (r := 18) (hi_X5_becomeLike_32 hT) rfl rfl rfl ?_
    refine v_push (0) (hi_X5_becomeLike_35 hT) rfl ?_
    refine v_load (v := (2, 49)) (hi_X5_becomeLike_36 hT) rfl rfl ?_
    refine v_getR (c := 51) (r := 49) (hi_X5_becomeLike_37 hT) rfl rfl rfl ?_
    refine v_push (0) (hi_X5_becomeLike_40 hT) rfl ?_
    refine v_push (60) (hi_X5_becomeLike_41 hT) rfl ?_
    refine v_copy (r0 := 20) (r1 := 51) (hi_X5_becomeLike_43 hT) rfl rfl rfl rfl (fun hd17 hd18 hd19 hd20 hd21 => ?_)
    refine v_load (v := (2, 18)) (hi_X5_becomeLike_46 hT) rfl rfl ?_
    refine v_getR (c := 21) (r := 18) (hi_X5_becomeLike_47 hT) rfl rfl rfl ?_
    refine v_push (0) (hi_X5_becomeLike_50 hT) rfl ?_
    refine v_load (v := (2, 49)) (hi_X5_becomeLike_51 hT) rfl rfl ?_
    refine v_getR (c := 52) (r := 49) (hi_X5_becomeLike_52 hT) rfl rfl rfl ?_
    refine v_push (0) (hi_X5_becomeLike_55 hT) rfl ?_
    refine v_push (60) (hi_X5_becomeLike_56 hT) rfl ?_
    refine v_copy (r0 := 21) (r1 := 52) (hi_X5_becomeLike_58 hT) rfl rfl rfl rfl (fun hd22 hd23 hd24 hd25 hd26 => ?_)
    refine v_load (v := (2, 18)) (hi_X5_becomeLike_61 hT) rfl rfl ?_
    refine v_getR (c := 22) (r := 18) (hi_X5_becomeLike_62 hT) rfl rfl rfl ?_
    refine v_push (0) (hi_X5_becomeLike_65 hT) rfl ?_
    refine v_load (v := (2, 49)) (hi_X5_becomeLike_66 hT) rfl rfl ?_
    refine v_getR (c := 53) (r := 49) (hi_X5_becomeLike_67 hT) rfl rfl rfl ?_
    refine v_push (0) (hi_X5_becomeLike_70 hT) rfl ?_
    refine v_push (60) (hi_X5_becomeLike_71 hT) rfl ?_
    refine v_copy (r0 := 22) (r1 := 53) (hi_X5_becomeLike_73 hT) rfl rfl rfl rfl (fun hd27 hd28 hd29 hd30 hd31 => ?_)
    refine v_ret0 (hi_X5_becomeLike_76 hT) ?_
    show vP D T N 170 76 (zcopy (zcopy (zcopy (zcopy (zset (zset (zset (zset (zset g4 10 1 (0, 0)) 10 9 (0, 0)) 10 10 (0, -1)) 49 0 (0, z4)) 49 1 (0, (s : Int))) 19 0 50 0 60) 20 0 51 0 60) 21 0 52 0 60) 22 0 53 0 60) [some (2, 0), some (0, (n : Int)), some (0, 1)] [] _
    refine v_load (v := (2, 0)) (hi_X11_orders_76 hT) rfl rfl ?_
    refine v_load (v := (2, 0)) (hi_X11_orders_77 hT) rfl rfl ?_
    refine v_getf (v := (2, 39)) (r := 0) (hi_X11_orders_78 hT) rfl rfl (fun _ => Eq.trans (Eq.trans (vcopy_ne (fun c => absurd c.1 (by decide))) (Eq.trans (vcopy_ne (fun c => absurd c.1 (by decide))) (Eq.trans (vcopy_ne (fun c => absurd c.1 (by decide))) (Eq.trans (vcopy_ne (fun c => absurd c.1 (by decide))) (Eq.trans (zset_ne (fun c => absurd c.1 (by decide))) (Eq.trans (zset_ne (fun c => absurd c.1 (by decide))) (Eq.trans (zset_ne (fun c => absurd c.1 (by decide))) (Eq.trans (zset_ne (fun c => absurd c.1 (by decide))) (zset_ne (fun c => absurd c.1 (by decide))))))))))) ((Eq.trans (xf4 0 7 (fun c => by omega)) e7))) ?_
    refine v_getR (c := 49) (r := 39) (hi_X11_orders_81 hT) rfl rfl rfl ?_
    refine v_getf (v := (0, (s : Int))) (r := 49) (hi_X11_orders_84 hT) rfl rfl (fun _ => Eq.trans (Eq.trans (vcopy_ne (fun c => absurd c.1 (by decide))) (Eq.trans (vcopy_ne (fun c => absurd c.1 (by decide))) (Eq.trans (vcopy_ne (fun c => absurd c.1 (by decide))) (vcopy_ne (fun c => absurd c.1 (by decide)))))) zset_same) ?_
    refine v_call (w := 2) [some (2, 0), some (0, (s : Int))] hO (hi_X11_orders_87 hT) rfl rfl ?_
    refine v_load (v := (2, 0)) (hi_X11_answer_0 hT) rfl rfl ?_
    refine v_push (0) (hi_X11_answer_1 hT) rfl ?_
    refine v_putf (r := 0) hO (hi_X11_answer_2 hT) rfl (fun hf32 => ?_)
    refine v_load (v := (0, (s : Int))) (hi_X11_answer_5 hT) rfl rfl ?_
    refine v_ret (hi_X11_answer_6 hT) (Or.inl rfl) ?_
    show vP D T N 170 90 (zset (zcopy (zcopy (zcopy (zcopy (zset (zset (zset (zset (zset g4 10 1 (0, 0)) 10 9 (0, 0)) 10 10 (0, -1)) 49 0 (0, z4)) 49 1 (0, (s : Int))) 19 0 50 0 60) 20 0 51 0 60) 21 0 52 0 60) 22 0 53 0 60) 0 0 (0, 0)) [some (2, 0), some (0, (n : Int)), some (0, 1)] [(0, (s : Int))] _
    refine v_ret (hi_X11_orders_90 hT) (Or.inl rfl) ?_
    exact k0 g4 m τ s z4 xf4 hK4 q4 sa4 sb4 bz4 da4 db4
  · show vP D T N 170 40 g5 [some (2, 0), some (0, (n : Int)), none] [(0, 0)] _
    refine vP_hv (fun hv5 => ?_)
    refine v_store1 [some (2, 0), some (0, (n : Int)), some (0, 0)] (hi_X11_orders_40 hT) ⟨rfl, Nat.ne_of_beq_eq_false rfl⟩ (Nat.le_of_ble_eq_true rfl) rfl ?_
    refine v_load (v := (2, 0)) (hi_X11_orders_41 hT) rfl rfl ?_
    refine v_getR (c := 10) (r := 0) (hi_X11_orders_42 hT) rfl rfl rfl ?_
    refine v_call (w := 1) [some (2, 10)] hO (hi_X11_orders_45 hT) rfl rfl ?_
    refine v_load (v := (2, 10)) (hi_X8_finishText_0 hT) rfl rfl ?_
    refine v_push (0) (hi_X8_finishText_1 hT) rfl ?_
    refine v_putf (r := 10) hO (hi_X8_finishText_2 hT) rfl (fun hf33 => ?_)
    refine v_load (v := (2, 10)) (hi_X8_finishText_5 hT) rfl rfl ?_
    refine v_load (v := (2, 10)) (hi_X8_finishText_6 hT) rfl rfl ?_
    refine v_getf (v := (0, e5.1)) (r := 10) (hi_X8_finishText_7 hT) rfl rfl (fun _ => Eq.trans (zset_ne (fun c => absurd c.2 (by decide))) (c5.1)) ?_
    refine v_putf (r := 10) hO (hi_X8_finishText_10 hT) rfl (fun hf34 => ?_)
    refine v_load (v := (2, 10)) (hi_X8_finishText_13 hT) rfl rfl ?_
    refine v_load (v := (2, 10)) (hi_X8_finishText_14 hT) rfl rfl ?_
    refine v_getf (v := (0, e5.2)) (r := 10) (hi_X8_finishText_15 hT) rfl rfl (fun _ => Eq.trans (Eq.trans (zset_ne (fun c => absurd c.2 (by decide))) (zset_ne (fun c => absurd c.2 (by decide)))) (c5.2)) ?_
    refine v_putf (r := 10) hO (hi_X8_finishText_18 hT) rfl (fun hf35 => ?_)
    refine v_ret0 (hi_X8_finishText_21 hT) ?_
    show vP D T N 170 48 (zset (zset (zset g5 10 1 (0, 0)) 10 9 (0, e5.1)) 10 10 (0, e5.2)) [some (2, 0), some (0, (n : Int)), some (0, 0)] [] _
    refine v_load (v := (0, 0)) (hi_X11_orders_48 hT) rfl rfl ?_
    refine v_if (hi_X11_orders_49 hT) (fun _ => ?_) (fun hc36 => absurd (show (0 : Int) = 0 from (by decide)) hc36)
    refine v_load (v := (2, 0)) (hi_X11_orders_52 hT) rfl rfl ?_
    refine v_push (10) (hi_X11_orders_53 hT) rfl ?_
    refine v_call (w := 2) [some (2, 0), some (0, 10)] hO (hi_X11_orders_55 hT) rfl rfl ?_
    refine v_load (v := (2, 0)) (hi_X11_refused_0 hT) rfl rfl ?_
    refine v_load (v := (0, 10)) (hi_X11_refused_1 hT) rfl rfl ?_
    refine v_putf (r := 0) hO (hi_X11_refused_2 hT) rfl (fun hf37 => ?_)
    refine v_push (-1) (hi_X11_refused_5 hT) rfl ?_
    refine v_ret (hi_X11_refused_6 hT) (Or.inl rfl) ?_
    show vP D T N 170 58 (zset (zset (zset (zset g5 10 1 (0, 0)) 10 9 (0, e5.1)) 10 10 (0, e5.2)) 0 0 (0, 10)) [some (2, 0), some (0, (n : Int)), some (0, 0)] [(0, -1)] _
    refine v_ret (hi_X11_orders_58 hT) (Or.inl rfl) ?_
    exact k1 g5 m τ e5 xf5 hK5 q5 c5
theorem co_ord_39 {D : zD} {T : zT} (hT : hTab T) (hO : vOK T) {N : Nat} {h : zH} {B : Nat → Int} {n : Nat} {P : PT} (hB : TXc B n h) (hP : cP 39 P h) (hb : lB P) (e7 : h 0 7 = (2, 39)) (hn : (n : Int) ≤ (h 10 1).2) (hn3 : (n : Int) ≤ 300) : vP D T N 170 0 h [some (2, 0), some (0, (n : Int)), none] [] (cOd 39 B n P h) := by
  refine vP_hv (fun hv => qc_ord_39 hT hO hv hB hP hb e7 hn hn3 ?_ ?_)
  · intro g m τ s z xf hK q s1 s0 z0 d7 d8
    refine ⟨fun a b hn => ?_, m, τ, hK, Or.inr ⟨s, q, rfl, ?_, ?_, ?_, z, z0, ?_⟩⟩
    · show zset (zcopy (zcopy (zcopy (zcopy (zset (zset (zset (zset (zset g 10 1 (0, 0)) 10 9 (0, 0)) 10 10 (0, -1)) 49 0 (0, z)) 49 1 (0, (s : Int))) 19 0 50 0 60) 20 0 51 0 60) 21 0 52 0 60) 22 0 53 0 60) 0 0 (0, 0) a b = h a b
      rw [zset_ne (fun c => hn (by omega)), vcopy_ne (fun c => hn (by omega)), vcopy_ne (fun c => hn (by omega)), vcopy_ne (fun c => hn (by omega)), vcopy_ne (fun c => hn (by omega)), zset_ne (fun c => hn (by omega)), zset_ne (fun c => hn (by omega)), zset_ne (fun c => hn (by omega)), zset_ne (fun c => hn (by omega)), zset_ne (fun c => hn (by omega))]
      exact xf a b (fun c => hn (by omega))
    · dsimp only
      exact (zset_ne (by decide)).trans ((vcopy_ne (by decide)).trans ((vcopy_ne (by decide)).trans ((vcopy_ne (by decide)).trans ((vcopy_ne (by decide)).trans ((zset_ne (by decide)).trans ((zset_ne (by decide)).trans ((zset_ne (by decide)).trans zset_same)))))))
    · dsimp only
      exact (zset_ne (by decide)).trans ((vcopy_ne (by decide)).trans ((vcopy_ne (by decide)).trans ((vcopy_ne (by decide)).trans ((vcopy_ne (by decide)).trans ((zset_ne (by decide)).trans ((zset_ne (by decide)).trans zset_same))))))
    · dsimp only
      exact (zset_ne (by decide)).trans ((vcopy_ne (by decide)).trans ((vcopy_ne (by decide)).trans ((vcopy_ne (by decide)).trans ((vcopy_ne (by decide)).trans zset_same))))
    · dsimp only
      exact (zset_ne (by decide)).trans ((vcopy_ne (by decide)).trans ((vcopy_ne (by decide)).trans ((vcopy_ne (by decide)).trans ((vcopy_ne (by decide)).trans ((zset_ne (by decide)).trans zset_same)))))
  · intro g m τ e xf hK q c
    refine ⟨fun a b hn => ?_, m, τ, hK, Or.inl ⟨e, q, rfl, ?_, ?_, ?_⟩⟩
    · show zset (zset (zset (zset g 10 1 (0, 0)) 10 9 (0, e.1)) 10 10 (0, e.2)) 0 0 (0, 10) a b = h a b
      rw [zset_ne (fun c => hn (by omega)), zset_ne (fun c => hn (by omega)), zset_ne (fun c => hn (by omega)), zset_ne (fun c => hn (by omega))]
      exact xf a b (fun c => hn (by omega))
    · dsimp only
      exact (zset_ne (by decide)).trans ((zset_ne (by decide)).trans zset_same)
    · dsimp only
      exact (zset_ne (by decide)).trans zset_same
    · intro j
      show zset (zset (zset (zset g 10 1 (0, 0)) 10 9 (0, e.1)) 10 10 (0, e.2)) 0 0 (0, 10) 49 j = h 49 j
      rw [zset_ne (by omega), zset_ne (by omega), zset_ne (by omega), zset_ne (by omega)]
      exact xf 49 j (fun c => by omega)
end
section
/-! orders(n) on both sides -/
theorem cOb.c0 {c : Nat} (hc : cOb c) : (∀ k, k < 5 → vCode c k = some 0) ∧ (∀ k, k < 144 → vCode (c + 3) k = some 0) ∧ (∀ k, k < 6 → vCode (c + 6) k = some 0 ∧ vCode (c + 8) k = some 0 ∧ vCode (c + 9) k = some 0) ∧ vCode (c + 10) 0 = some 0 := by
  rcases hc with rfl | rfl | rfl | rfl | rfl <;> decide +kernel
theorem sLd.full {c b : Nat} {h : zH} (hv : zHv h) (hc : cOb c) (g : sLd c b h) : ∃ P, cP c P h ∧ rP b P h ∧ lB P ∧ oFl c b h := by
  obtain ⟨P, ⟨⟨a0, a1, a2, a3⟩, a4, a5, a6⟩, hr, lb, o⟩ := g
  obtain ⟨d0, d1, d2, _⟩ := hc.c0
  refine ⟨fun a k => if a = 0 ∧ k = 4 then (h c 4).2 else if a = 3 then (h (c + 3) k).2 else if a = 6 then (h (c + 6) k).2 else if a = 8 then (h (c + 8) k).2 else if a = 9 then (h (c + 9) k).2 else P a k, ⟨⟨a0, a1, a2, a3, hv.eta (d0 4 (by decide))⟩, a4, a5, fun k hk => hv.eta (d1 k hk), fun k hk => ?_⟩, hr, lb, o⟩
  have hk : (k : Int) < P 0 3 := hk
  have h6 : k < 6 := by have := lb.2.2.2.2; omega
  obtain ⟨x1, x2, x3⟩ := a6 k hk
  obtain ⟨y1, y2, y3⟩ := d2 k h6
  exact ⟨x1, x2, hv.eta y1, x3, hv.eta y2, hv.eta y3⟩
def cOF (c : Nat) (h h1 : zH) : Prop := ∀ a b, ¬ ((a = 0 ∧ b = 0) ∨ a = 10 ∨ (12 ≤ a ∧ a ≤ 15) ∨ (17 ≤ a ∧ a ≤ 23) ∨ (c + 10 ≤ a ∧ a ≤ c + 14)) → h1 a b = h a b
theorem orders_both {D : zD} {h h1 h2 : zH} {n v1 v2 : Int} {c : Nat} {P : PT} (hc : c = 24 ∨ c = 39) (e7 : h 0 7 = (2, (c : Int))) (hP : cP c P h) (hr : rP 0 P h) (hb : lB P) (hZ : lZ D h) (hZ1 : lZ D h1) (hR : lT h) (z1 : zRun D TLw 614 170 0 (h, zargs 0 [(2, 0), (0, n)], []) (h1, some (0, v1))) (f1 : aFr lM_170 h h1) (z2 : zRun D TLw 614 289 0 (h1, zargs 0 [(2, 121), (0, n)], []) (h2, some (0, v2))) : (v1 = -1 ∧ v2 = -1 ∧ h1 = zset h 0 0 (0, 5) ∧ (∀ a b, ¬ (a = 121 ∧ b ≤ 1) → h2 a b = h1 a b)) ∨ (cOF c h h1 ∧ rOG h1 h2 ∧ ((∃ e : Er, v1 = -1 ∧ v2 = -1 ∧ h1 10 9 = (0, e.1) ∧ h1 10 10 = (0, e.2) ∧ (∀ j, h1 (c + 10) j = h (c + 10) j) ∧ h2 121 10 = (0, e.1) ∧ h2 121 11 = (0, e.2) ∧ ∀ j, j < 550 → h2 126 j = h1 126 j) ∨ (∃ s : Nat, v1 = (s : Int) ∧ v2 = (s : Int) ∧ h1 10 9 = (0, 0) ∧ h1 10 10 = (0, -1) ∧ (∃ z : Int, 0 ≤ z ∧ h1 (c + 10) 0 = (0, z)) ∧ h2 121 10 = (0, 0) ∧ h2 121 11 = (0, -1) ∧ h2 126 275 = (0, 1)))) := by
  have b10 := hZ.b10
  have k1 : h1 121 8 = h 121 8 := f1.keep (S := tpR) (by decide +kernel) tpR_in
  have kr : tK (tR h1) (tR h) := tK_r f1 (by decide +kernel)
  have hR1 : (h 10 1).2 = (h 121 8).2 := hR.1
  have key : h1 = zset h 0 0 (0, 5) → v1 = -1 → (h2, some ((0, v2) : zV)) = (zset (zset (zset h1 121 1 (0, 0)) 121 0 (0, 0)) 121 0 (0, 5), some (0, -1)) → (v1 = -1 ∧ v2 = -1 ∧ h1 = zset h 0 0 (0, 5) ∧ (∀ a b, ¬ (a = 121 ∧ b ≤ 1) → h2 a b = h1 a b)) := fun q1 q2 a2 => by
    have a2' : h2 = zset (zset (zset h1 121 1 (0, 0)) 121 0 (0, 0)) 121 0 (0, 5) := congrArg Prod.fst a2
    refine ⟨q2, ?_, q1, fun a b hab => ?_⟩
    · cases (congrArg Prod.snd a2 : some ((0, v2) : zV) = some (0, -1)); rfl
    · rw [a2', zset_ne (fun c => hab (by omega)), zset_ne (fun c => hab (by omega)), zset_ne (fun c => hab (by omega))]
  have kc : (h1, some ((0, v1) : zV)) = (zset h 0 0 (0, 5), some (0, -1)) → h1 = zset h 0 0 (0, 5) ∧ v1 = -1 := fun a1 => ⟨congrArg Prod.fst a1, by cases (congrArg Prod.snd a1 : some ((0, v1) : zV) = some (0, -1)); rfl⟩
  by_cases hn : n < 0
  · obtain ⟨q1, q2⟩ := kc (hZ.run 3 z1 (Q := fun x => x = (zset h 0 0 (0, 5), some (0, -1))) (fun N => vP_hv (fun hv => qc_ordx TLw_T vOK_T n hv hn rfl)))
    exact Or.inl (key q1 q2 (hZ1.run 3 z2 (Q := fun x => x = (zset (zset (zset h1 121 1 (0, 0)) 121 0 (0, 0)) 121 0 (0, 5), some (0, -1))) (fun N => vP_hv (fun hv => qr_ordx TLw_T vOK_T n hv hn rfl))))
  by_cases hl : (h 10 1).2 < n
  · obtain ⟨q1, q2⟩ := kc (hZ.run 3 z1 (Q := fun x => x = (zset h 0 0 (0, 5), some (0, -1))) (fun N => vP_hv (fun hv => qc_ordy TLw_T vOK_T n hv (by omega) hl rfl)))
    exact Or.inl (key q1 q2 (hZ1.run 3 z2 (Q := fun x => x = (zset (zset (zset h1 121 1 (0, 0)) 121 0 (0, 0)) 121 0 (0, 5), some (0, -1))) (fun N => vP_hv (fun hv => qr_ordy TLw_T vOK_T n hv (by omega) (by rw [k1, ← hR1]; exact hl) rfl))))
  by_cases h3 : 300 < n
  · obtain ⟨q1, q2⟩ := kc (hZ.run 3 z1 (Q := fun x => x = (zset h 0 0 (0, 5), some (0, -1))) (fun N => vP_hv (fun hv => qc_ordz TLw_T vOK_T n hv (by omega) (by omega) h3 rfl)))
    exact Or.inl (key q1 q2 (hZ1.run 3 z2 (Q := fun x => x = (zset (zset (zset h1 121 1 (0, 0)) 121 0 (0, 0)) 121 0 (0, 5), some (0, -1))) (fun N => vP_hv (fun hv => qr_ordz TLw_T vOK_T n hv (by omega) (by rw [k1, ← hR1]; omega) h3 rfl))))
  obtain ⟨m', rfl⟩ : ∃ m' : Nat, n = (m' : Int) := ⟨n.toNat, by omega⟩
  have hn9 : m' ≤ 900 := by omega
  have bk : bK 0 0 h h1 := bK_fr f1 (by decide +kernel) (by decide)
  have hr1 := hr.tr hb bk
  have a1 : cOd c (lB2 h) m' P h (h1, some (0, v1)) := by
    rcases hc with rfl | rfl
    · exact hZ.run 3 z1 (Q := cOd 24 (lB2 h) m' P h) (fun N => co_ord_24 TLw_T vOK_T (hZ.tx hn9) hP hb e7 (by omega) (by omega))
    · exact hZ.run 3 z1 (Q := cOd 39 (lB2 h) m' P h) (fun N => co_ord_39 TLw_T vOK_T (hZ.tx hn9) hP hb e7 (by omega) (by omega))
  obtain ⟨fr, m, τ, hK, hh⟩ := a1
  have a2 := hZ1.run 3 z2 (Q := rOd τ P h1) (fun N => rx_orders TLw_T vOK_T hb hr1.1.1 hr1.1.2.1 hr1.1.2.2.1 hr1.1.2.2.2 (fun k hk => by
    have w := (hr1.2.2 k hk).1
    rw [show 6 * 0 + k = k by omega] at w
    exact w) hK (hZ.tx hn9).1 (fun q hq => by
      rw [hZ1.bt q (by omega)]
      refine congrArg (Prod.mk (0 : Nat)) ?_
      have w := kr.2 q (by omega)
      exact w.trans (hR.2 q (by omega) (by show (q : Int) < (h 10 1).2; omega)).symm) (by rw [k1, ← hR1]; omega) (by omega))
  obtain ⟨fg, a2⟩ := a2
  refine Or.inr ⟨fr, fg, ?_⟩
  rcases hh with ⟨e, q1, q2, q3, q4, q5⟩ | ⟨s, q1, q2, q3, q4, q5, q6⟩
  · rcases a2 with ⟨e', p1, p2, p3, p4, p5⟩ | ⟨s', p1, _⟩
    · rw [q1] at p1
      cases p1
      refine Or.inl ⟨e, ?_, ?_, q3, q4, q5, p3, p4, p5⟩
      · cases (q2 : some ((0, v1) : zV) = some (0, -1)); rfl
      · cases (p2 : some ((0, v2) : zV) = some (0, -1)); rfl
    · rw [q1] at p1; cases p1
  · rcases a2 with ⟨e', p1, _⟩ | ⟨s', p1, p2, p3, p4, p5, p6⟩
    · rw [q1] at p1; cases p1
    · rw [q1] at p1
      cases p1
      refine Or.inr ⟨s, ?_, ?_, q3, q4, q6, p3, p4, p5⟩
      · cases (q2 : some ((0, v1) : zV) = some (0, (s : Int))); rfl
      · cases (p2 : some ((0, v2) : zV) = some (0, (s : Int))); rfl
theorem bK_rOG {b : Nat} {h g : zH} (h1 : 1 ≤ b) (hb : b < 4) (f : rOG h g) : bK b b h g := by
  refine ⟨fun j hj => f _ _ (fun c => ?_), fun k hk => f _ _ (fun c => by omega)⟩
  have : j < 276 := by
    rcases hj with e | e | e | e <;> omega
  omega
theorem lRk_orders {D : zD} (_ : ∀ i, -2147483648 ≤ D.2 i ∧ D.2 i ≤ 2147483647) {h h1 h2 : zH} {n v1 v2 : Int} (hZ : lZ D h) (hZ1 : lZ D h1) (hR : lR h) (z1 : zRun D TLw 614 170 0 (h, zargs 0 [(2, 0), (0, n)], []) (h1, some (0, v1))) (f1 : aFr lM_170 h h1) (z2 : zRun D TLw 614 289 0 (h1, zargs 0 [(2, 121), (0, n)], []) (h2, some (0, v2))) (f2 : aFr lM_289 h1 h2) : lR h2 ∧ v1 = v2 := by
  have hR' := hR
  obtain ⟨hT, hF, hM, r, c, s1, s2, s3, hL⟩ := hR'
  have t := lT_orders hZ hZ1 hT z1 f1 z2 f2
  obtain ⟨P, g1, g2, g3, g4⟩ := hL.full hZ.hv s1.ob
  have c2 : c = 24 ∨ c = 39 := by
    rcases s1 with ⟨_, e⟩ | ⟨_, e⟩
    · exact Or.inr e
    · exact Or.inl e
  have hb : ∀ b, b < 4 → bK b b h h1 := fun b hb => bK_fr f1 (by decide +kernel) hb
  have hc : ∀ c, cOb c → cK c c h1 h2 := fun c hc => cK_fr f2 (by decide +kernel) hc
  have k1 : ∀ a k, aIn [(0, 7, 8), (0, 10, 10), (121, 23, 23)] a k → h1 a k = h a k := fun a k hi => f1.keep (S := [(0, 7, 8), (0, 10, 10), (121, 23, 23)]) (by decide +kernel) hi
  have k2 : ∀ a k, aIn [(0, 7, 8), (0, 10, 10), (10, 9, 10), (121, 23, 23)] a k → h2 a k = h1 a k := fun a k hi => f2.keep (S := [(0, 7, 8), (0, 10, 10), (10, 9, 10), (121, 23, 23)]) (by decide +kernel) hi
  have e7 : h2 0 7 = h 0 7 := (k2 0 7 ⟨(0, 7, 8), by decide, rfl, by decide, by decide⟩).trans (k1 0 7 ⟨(0, 7, 8), by decide, rfl, by decide, by decide⟩)
  have e8 : h2 0 8 = h 0 8 := (k2 0 8 ⟨(0, 7, 8), by decide, rfl, by decide, by decide⟩).trans (k1 0 8 ⟨(0, 7, 8), by decide, rfl, by decide, by decide⟩)
  have e10 : h2 0 10 = h 0 10 := (k2 0 10 ⟨(0, 10, 10), by decide, rfl, by decide, by decide⟩).trans (k1 0 10 ⟨(0, 10, 10), by decide, rfl, by decide, by decide⟩)
  have e23 : h2 121 23 = h 121 23 := (k2 121 23 ⟨(121, 23, 23), by decide, rfl, by decide, by decide⟩).trans (k1 121 23 ⟨(121, 23, 23), by decide, rfl, by decide, by decide⟩)
  have e9 := k2 10 9 ⟨(10, 9, 10), by decide, rfl, by decide, by decide⟩
  have e9' := k2 10 10 ⟨(10, 9, 10), by decide, rfl, by decide, by decide⟩
  rcases orders_both c2 s2 g1 g2 g3 hZ hZ1 hT z1 f1 z2 with ⟨a1, a2, a3, a4⟩ | ⟨lf, lg, hh⟩
  · refine ⟨hR.off (M := [(0, 0, 0), (121, 0, 1)]) (by decide +kernel) (fun a b hn => ?_), by omega⟩
    rw [a4 a b (fun e => hn ⟨(121, 0, 1), by decide, e.1.symm, Nat.zero_le _, e.2⟩), a3]
    exact zset_ne (fun e => hn ⟨(0, 0, 0), by decide, e.1.symm, Nat.zero_le _, Nat.le_of_eq e.2⟩)
  · have lm : ∀ m, m < 3 → cK (55 + 15 * m) (55 + 15 * m) h h2 := fun m hm => by
      refine cK.trans ⟨fun k _ => lf _ _ ?_, fun k _ => lf _ _ ?_, fun k _ => lf _ _ ?_, fun k _ => ⟨lf _ _ ?_, lf _ _ ?_, lf _ _ ?_⟩, lf _ _ ?_⟩ (hc _ (mOb hm)) <;> · rcases c2 with rfl | rfl <;> omega
    have bm : ∀ m, m < 3 → bK (m + 1) (m + 1) h h2 := fun m hm => (hb _ (by omega)).trans (bK_rOG (by omega) (by omega) lg)
    rcases hh with ⟨e, a1, a2, a3, a4, a5, a6, a7, a8⟩ | ⟨s, a1, a2, a3, a4, ⟨z, z0, a5⟩, a6, a7, a8⟩
    · refine ⟨⟨t, ⟨?_, ?_⟩, hM.of e10 e23 lm bm, r, c, s1, e7.trans s2, e8.trans s3, ?_⟩, by omega⟩
      · rw [e9, a3, a6]
      · rw [e9', a4, a7]
      · have kk : cK c c h h1 := by
          refine ⟨fun k _ => lf _ _ ?_, fun k _ => lf _ _ ?_, fun k _ => lf _ _ ?_, fun k _ => ⟨lf _ _ ?_, lf _ _ ?_, lf _ _ ?_⟩, a5 0⟩ <;> · rcases c2 with rfl | rfl <;> omega
        have bb : bK 0 0 h1 h2 := by
          refine ⟨fun j hj => ?_, fun k hk => lg _ _ (fun c => by omega)⟩
          have : j < 276 := by
            rcases hj with e | e | e | e <;> omega
          rw [show 550 * 0 + j = j by omega]
          exact a8 j (by omega)
        exact hL.tr (kk.trans (hc _ s1.ob)) ((hb _ (by decide)).trans bb)
    · have ho := hc c s1.ob
      have cs : sCl c P h1 := by
        have g := g1.s
        have f : ∀ a k, ¬ ((a = 0 ∧ k = 0) ∨ a = 10 ∨ (12 ≤ a ∧ a ≤ 15) ∨ (17 ≤ a ∧ a ≤ 23) ∨ (c + 10 ≤ a ∧ a ≤ c + 14)) → h1 a k = h a k := lf
        refine ⟨⟨(f _ _ ?_).trans g.1.1, (f _ _ ?_).trans g.1.2.1, (f _ _ ?_).trans g.1.2.2.1, (f _ _ ?_).trans g.1.2.2.2⟩, fun k hk => (f _ _ ?_).trans (g.2.1 k hk), fun k hk => (f _ _ ?_).trans (g.2.2.1 k hk), fun k hk => ⟨(f _ _ ?_).trans (g.2.2.2 k hk).1, (f _ _ ?_).trans (g.2.2.2 k hk).2.1, (f _ _ ?_).trans (g.2.2.2 k hk).2.2⟩⟩ <;> · rcases c2 with rfl | rfl <;> omega
      have rp1 := g2.tr g3 (hb 0 (by decide))
      have ix := fun x y (x1 : 0 ≤ x) (x2 : x < P 0 0) (y1 : 0 ≤ y) (y2 : y < 6) => pIxy g3.1.2 x1 x2 y1 y2
      have rp2 : rP 0 P h2 := by
        refine ⟨⟨(lg _ _ (fun c => by omega)).trans rp1.1.1, (lg _ _ (fun c => by omega)).trans rp1.1.2.1, (lg _ _ (fun c => by omega)).trans rp1.1.2.2.1, (lg _ _ (fun c => by omega)).trans rp1.1.2.2.2⟩, fun x y x1 x2 y1 y2 => ?_, fun k hk => ?_⟩
        · have i := ix x y x1 x2 y1 y2
          exact ⟨(lg _ _ (fun c => by omega)).trans (rp1.2.1 x y x1 x2 y1 y2).1, (lg _ _ (fun c => by omega)).trans (rp1.2.1 x y x1 x2 y1 y2).2⟩
        · have := g3.2.2.2.2
          exact ⟨(lg _ _ (fun c => by omega)).trans (rp1.2.2 k hk).1, (lg _ _ (fun c => by omega)).trans (rp1.2.2 k hk).2.1, (lg _ _ (fun c => by omega)).trans (rp1.2.2 k hk).2.2⟩
      refine ⟨⟨t, ⟨?_, ?_⟩, hM.of e10 e23 lm bm, r, c, s1, e7.trans s2, e8.trans s3, P, cs.tr g3.2.2.2.2 ho, rp2, g3, Or.inr ⟨?_, ?_⟩⟩, by omega⟩
      · rw [e9, a3, a6]
      · rw [e9', a4, a7]
      · rw [ho.2.2.2.2, a5]; exact z0
      · exact congrArg Prod.snd a8
end
