theorem qc_ordx {D : zD} {T : zT} (hT : hTab T) (hO : vOK T) {N : Nat} {h : zH} {Q : zR → Prop} (n : Int) (hv0 : zHv h) (hn : n < 0)
    (k0 : Q (zset h 0 0 (0, 5), some (0, -1))) :
    vP D T N 170 0 h [some (2, 0), some (0, n), none] [] Q := by
  refine v_load (v := (0, n)) (hz_X11_orders hT _ _ rfl) rfl rfl ?_
  refine v_if (hz_X11_orders hT _ _ rfl) (fun _ => ?_) (fun hc1 => absurd (show n < 0 from hn) hc1)
  refine v_load (v := (2, 0)) (hz_X11_orders hT _ _ rfl) rfl rfl ?_
  refine v_push (5) (hz_X11_orders hT _ _ rfl) rfl ?_
  refine v_call (w := 2) [some (2, 0), some (0, 5)] hO (hz_X11_orders hT _ _ rfl) rfl rfl ?_
  refine v_load (v := (2, 0)) (hz_X11_refused hT _ _ rfl) rfl rfl ?_
  refine v_load (v := (0, 5)) (hz_X11_refused hT _ _ rfl) rfl rfl ?_
  refine v_putf (r := 0) hO (hz_X11_refused hT _ _ rfl) rfl (fun hf2 => ?_)
  refine v_push (-1) (hz_X11_refused hT _ _ rfl) rfl ?_
  refine v_ret (hz_X11_refused hT _ _ rfl) (Or.inl rfl) ?_
  show vP D T N 170 27 (zset h 0 0 (0, 5)) [some (2, 0), some (0, n), none] [(0, -1)] _
  refine v_ret (hz_X11_orders hT _ _ rfl) (Or.inl rfl) ?_
  exact k0 
theorem qc_ordy {D : zD} {T : zT} (hT : hTab T) (hO : vOK T) {N : Nat} {h : zH} {Q : zR → Prop} (n : Int) (hv0 : zHv h) (h0 : 0 ≤ n) (hn : (h 10 1).2 < n)
    (k0 : Q (zset h 0 0 (0, 5), some (0, -1))) :
    vP D T N 170 0 h [some (2, 0), some (0, n), none] [] Q := by
  refine v_load (v := (0, n)) (hz_X11_orders hT _ _ rfl) rfl rfl ?_
  refine v_if (hz_X11_orders hT _ _ rfl) (fun hc1 => absurd (show n < 0 from hc1) (by omega)) (fun _ => ?_)
  refine v_load (v := (0, n)) (hz_X11_orders hT _ _ rfl) rfl rfl ?_
  refine v_load (v := (2, 0)) (hz_X11_orders hT _ _ rfl) rfl rfl ?_
  refine v_getR (c := 10) (r := 0) (hz_X11_orders hT _ _ rfl) rfl rfl rfl ?_
  refine v_getI (t := 0) (r := 10) (hz_X11_orders hT _ _ rfl) rfl rfl rfl ?_
  refine v_ic (hz_X11_orders hT _ _ rfl) (fun _ => ?_) (fun hc2 => absurd (show (h 10 1).2 < n from hn) hc2)
  refine v_load (v := (2, 0)) (hz_X11_orders hT _ _ rfl) rfl rfl ?_
  refine v_push (5) (hz_X11_orders hT _ _ rfl) rfl ?_
  refine v_call (w := 2) [some (2, 0), some (0, 5)] hO (hz_X11_orders hT _ _ rfl) rfl rfl ?_
  refine v_load (v := (2, 0)) (hz_X11_refused hT _ _ rfl) rfl rfl ?_
  refine v_load (v := (0, 5)) (hz_X11_refused hT _ _ rfl) rfl rfl ?_
  refine v_putf (r := 0) hO (hz_X11_refused hT _ _ rfl) rfl (fun hf3 => ?_)
  refine v_push (-1) (hz_X11_refused hT _ _ rfl) rfl ?_
  refine v_ret (hz_X11_refused hT _ _ rfl) (Or.inl rfl) ?_
  show vP D T N 170 27 (zset h 0 0 (0, 5)) [some (2, 0), some (0, n), none] [(0, -1)] _
  refine v_ret (hz_X11_orders hT _ _ rfl) (Or.inl rfl) ?_
  exact k0 
theorem qc_ordz {D : zD} {T : zT} (hT : hTab T) (hO : vOK T) {N : Nat} {h : zH} {Q : zR → Prop} (n : Int) (hv0 : zHv h) (h0 : 0 ≤ n) (hn : n ≤ (h 10 1).2) (h3 : 300 < n)
    (k0 : Q (zset h 0 0 (0, 5), some (0, -1))) :
    vP D T N 170 0 h [some (2, 0), some (0, n), none] [] Q := by
  refine v_load (v := (0, n)) (hz_X11_orders hT _ _ rfl) rfl rfl ?_
  refine v_if (hz_X11_orders hT _ _ rfl) (fun hc1 => absurd (show n < 0 from hc1) (by omega)) (fun _ => ?_)
  refine v_load (v := (0, n)) (hz_X11_orders hT _ _ rfl) rfl rfl ?_
  refine v_load (v := (2, 0)) (hz_X11_orders hT _ _ rfl) rfl rfl ?_
  refine v_getR (c := 10) (r := 0) (hz_X11_orders hT _ _ rfl) rfl rfl rfl ?_
  refine v_getI (t := 0) (r := 10) (hz_X11_orders hT _ _ rfl) rfl rfl rfl ?_
  refine v_ic (hz_X11_orders hT _ _ rfl) (fun hc2 => absurd (show (h 10 1).2 < n from hc2) (by omega)) (fun _ => ?_)
  refine v_load (v := (0, n)) (hz_X11_orders hT _ _ rfl) rfl rfl ?_
  refine v_push (300) (hz_X11_orders hT _ _ rfl) rfl ?_
  refine v_ic (hz_X11_orders hT _ _ rfl) (fun _ => ?_) (fun hc3 => absurd (show 300 < n from h3) hc3)
  refine v_load (v := (2, 0)) (hz_X11_orders hT _ _ rfl) rfl rfl ?_
  refine v_push (5) (hz_X11_orders hT _ _ rfl) rfl ?_
  refine v_call (w := 2) [some (2, 0), some (0, 5)] hO (hz_X11_orders hT _ _ rfl) rfl rfl ?_
  refine v_load (v := (2, 0)) (hz_X11_refused hT _ _ rfl) rfl rfl ?_
  refine v_load (v := (0, 5)) (hz_X11_refused hT _ _ rfl) rfl rfl ?_
  refine v_putf (r := 0) hO (hz_X11_refused hT _ _ rfl) rfl (fun hf4 => ?_)
  refine v_push (-1) (hz_X11_refused hT _ _ rfl) rfl ?_
  refine v_ret (hz_X11_refused hT _ _ rfl) (Or.inl rfl) ?_
  show vP D T N 170 27 (zset h 0 0 (0, 5)) [some (2, 0), some (0, n), none] [(0, -1)] _
  refine v_ret (hz_X11_orders hT _ _ rfl) (Or.inl rfl) ?_
  exact k0 
theorem qr_ordx {D : zD} {T : zT} (hT : hTab T) (hO : vOK T) {N : Nat} {h : zH} {Q : zR → Prop} (n : Int) (hv0 : zHv h) (hn : n < 0)
    (k0 : Q (zset (zset (zset h 121 1 (0, 0)) 121 0 (0, 0)) 121 0 (0, 5), some (0, -1))) :
    vP D T N 289 0 h [some (2, 121), some (0, n), none] [] Q := by
  refine v_load (v := (2, 121)) (hz_X12_orders hT _ _ rfl) rfl rfl ?_
  refine v_push (0) (hz_X12_orders hT _ _ rfl) rfl ?_
  refine v_putf (r := 121) hO (hz_X12_orders hT _ _ rfl) rfl (fun hf1 => ?_)
  refine v_load (v := (2, 121)) (hz_X12_orders hT _ _ rfl) rfl rfl ?_
  refine v_push (0) (hz_X12_orders hT _ _ rfl) rfl ?_
  refine v_putf (r := 121) hO (hz_X12_orders hT _ _ rfl) rfl (fun hf2 => ?_)
  refine v_load (v := (2, 121)) (hz_X12_orders hT _ _ rfl) rfl rfl ?_
  refine v_load (v := (0, n)) (hz_X12_orders hT _ _ rfl) rfl rfl ?_
  refine v_push (300) (hz_X12_orders hT _ _ rfl) rfl ?_
  refine v_call (w := 3) [some (2, 121), some (0, n), some (0, 300)] hO (hz_X12_orders hT _ _ rfl) rfl rfl ?_
  refine v_load (v := (0, n)) (hz_X12_opens hT _ _ rfl) rfl rfl ?_
  refine v_if (hz_X12_opens hT _ _ rfl) (fun _ => ?_) (fun hc3 => absurd (show n < 0 from hn) hc3)
  refine v_load (v := (2, 121)) (hz_X12_opens hT _ _ rfl) rfl rfl ?_
  refine v_push (5) (hz_X12_opens hT _ _ rfl) rfl ?_
  refine v_call (w := 2) [some (2, 121), some (0, 5)] hO (hz_X12_opens hT _ _ rfl) rfl rfl ?_
  refine v_load (v := (2, 121)) (hz_X12_no hT _ _ rfl) rfl rfl ?_
  refine v_load (v := (0, 5)) (hz_X12_no hT _ _ rfl) rfl rfl ?_
  refine v_putf (r := 121) hO (hz_X12_no hT _ _ rfl) rfl (fun hf4 => ?_)
  refine v_push (0) (hz_X12_no hT _ _ rfl) rfl ?_
  refine v_ret (hz_X12_no hT _ _ rfl) (Or.inl rfl) ?_
  show vP D T N 288 22 (zset (zset (zset h 121 1 (0, 0)) 121 0 (0, 0)) 121 0 (0, 5)) [some (2, 121), some (0, n), some (0, 300)] [(0, 0)] _
  refine v_ret (hz_X12_opens hT _ _ rfl) (Or.inl rfl) ?_
  show vP D T N 289 18 (zset (zset (zset h 121 1 (0, 0)) 121 0 (0, 0)) 121 0 (0, 5)) [some (2, 121), some (0, n), none] [(0, 0)] _
  refine v_if (hz_X12_orders hT _ _ rfl) (fun _ => ?_) (fun hc5 => absurd (show (0 : Int) = 0 from (by omega)) hc5)
  refine v_push (-1) (hz_X12_orders hT _ _ rfl) rfl ?_
  refine v_ret (hz_X12_orders hT _ _ rfl) (Or.inl rfl) ?_
  exact k0 
theorem qr_ordy {D : zD} {T : zT} (hT : hTab T) (hO : vOK T) {N : Nat} {h : zH} {Q : zR → Prop} (n : Int) (hv0 : zHv h) (h0 : 0 ≤ n) (hn : (h 121 8).2 < n)
    (k0 : Q (zset (zset (zset h 121 1 (0, 0)) 121 0 (0, 0)) 121 0 (0, 5), some (0, -1))) :
    vP D T N 289 0 h [some (2, 121), some (0, n), none] [] Q := by
  refine v_load (v := (2, 121)) (hz_X12_orders hT _ _ rfl) rfl rfl ?_
  refine v_push (0) (hz_X12_orders hT _ _ rfl) rfl ?_
  refine v_putf (r := 121) hO (hz_X12_orders hT _ _ rfl) rfl (fun hf1 => ?_)
  refine v_load (v := (2, 121)) (hz_X12_orders hT _ _ rfl) rfl rfl ?_
  refine v_push (0) (hz_X12_orders hT _ _ rfl) rfl ?_
  refine v_putf (r := 121) hO (hz_X12_orders hT _ _ rfl) rfl (fun hf2 => ?_)
  refine v_load (v := (2, 121)) (hz_X12_orders hT _ _ rfl) rfl rfl ?_
  refine v_load (v := (0, n)) (hz_X12_orders hT _ _ rfl) rfl rfl ?_
  refine v_push (300) (hz_X12_orders hT _ _ rfl) rfl ?_
  refine v_call (w := 3) [some (2, 121), some (0, n), some (0, 300)] hO (hz_X12_orders hT _ _ rfl) rfl rfl ?_
  refine v_load (v := (0, n)) (hz_X12_opens hT _ _ rfl) rfl rfl ?_
  refine v_if (hz_X12_opens hT _ _ rfl) (fun hc3 => absurd (show n < 0 from hc3) (by omega)) (fun _ => ?_)
  refine v_load (v := (0, n)) (hz_X12_opens hT _ _ rfl) rfl rfl ?_
  refine v_load (v := (2, 121)) (hz_X12_opens hT _ _ rfl) rfl rfl ?_
  refine v_getf (v := (0, (h 121 8).2)) (r := 121) (hz_X12_opens hT _ _ rfl) rfl rfl (fun hv_ => Eq.trans (Eq.trans (zset_ne (fun c => absurd c.2 (by decide))) (zset_ne (fun c => absurd c.2 (by decide)))) (hv0.at rfl)) ?_
  refine v_ic (hz_X12_opens hT _ _ rfl) (fun _ => ?_) (fun hc4 => absurd (show (h 121 8).2 < n from hn) hc4)
  refine v_load (v := (2, 121)) (hz_X12_opens hT _ _ rfl) rfl rfl ?_
  refine v_push (5) (hz_X12_opens hT _ _ rfl) rfl ?_
  refine v_call (w := 2) [some (2, 121), some (0, 5)] hO (hz_X12_opens hT _ _ rfl) rfl rfl ?_
  refine v_load (v := (2, 121)) (hz_X12_no hT _ _ rfl) rfl rfl ?_
  refine v_load (v := (0, 5)) (hz_X12_no hT _ _ rfl) rfl rfl ?_
  refine v_putf (r := 121) hO (hz_X12_no hT _ _ rfl) rfl (fun hf5 => ?_)
  refine v_push (0) (hz_X12_no hT _ _ rfl) rfl ?_
  refine v_ret (hz_X12_no hT _ _ rfl) (Or.inl rfl) ?_
  show vP D T N 288 22 (zset (zset (zset h 121 1 (0, 0)) 121 0 (0, 0)) 121 0 (0, 5)) [some (2, 121), some (0, n), some (0, 300)] [(0, 0)] _
  refine v_ret (hz_X12_opens hT _ _ rfl) (Or.inl rfl) ?_
  show vP D T N 289 18 (zset (zset (zset h 121 1 (0, 0)) 121 0 (0, 0)) 121 0 (0, 5)) [some (2, 121), some (0, n), none] [(0, 0)] _
  refine v_if (hz_X12_orders hT _ _ rfl) (fun _ => ?_) (fun hc6 => absurd (show (0 : Int) = 0 from (by omega)) hc6)
  refine v_push (-1) (hz_X12_orders hT _ _ rfl) rfl ?_
  refine v_ret (hz_X12_orders hT _ _ rfl) (Or.inl rfl) ?_
  exact k0 
theorem qr_ordz {D : zD} {T : zT} (hT : hTab T) (hO : vOK T) {N : Nat} {h : zH} {Q : zR → Prop} (n : Int) (hv0 : zHv h) (h0 : 0 ≤ n) (hn : n ≤ (h 121 8).2) (h3 : 300 < n)
    (k0 : Q (zset (zset (zset h 121 1 (0, 0)) 121 0 (0, 0)) 121 0 (0, 5), some (0, -1))) :
    vP D T N 289 0 h [some (2, 121), some (0, n), none] [] Q := by
  refine v_load (v := (2, 121)) (hz_X12_orders hT _ _ rfl) rfl rfl ?_
  refine v_push (0) (hz_X12_orders hT _ _ rfl) rfl ?_
  refine v_putf (r := 121) hO (hz_X12_orders hT _ _ rfl) rfl (fun hf1 => ?_)
  refine v_load (v := (2, 121)) (hz_X12_orders hT _ _ rfl) rfl rfl ?_
  refine v_push (0) (hz_X12_orders hT _ _ rfl) rfl ?_
  refine v_putf (r := 121) hO (hz_X12_orders hT _ _ rfl) rfl (fun hf2 => ?_)
  refine v_load (v := (2, 121)) (hz_X12_orders hT _ _ rfl) rfl rfl ?_
  refine v_load (v := (0, n)) (hz_X12_orders hT _ _ rfl) rfl rfl ?_
  refine v_push (300) (hz_X12_orders hT _ _ rfl) rfl ?_
  refine v_call (w := 3) [some (2, 121), some (0, n), some (0, 300)] hO (hz_X12_orders hT _ _ rfl) rfl rfl ?_
  refine v_load (v := (0, n)) (hz_X12_opens hT _ _ rfl) rfl rfl ?_
  refine v_if (hz_X12_opens hT _ _ rfl) (fun hc3 => absurd (show n < 0 from hc3) (by omega)) (fun _ => ?_)
  refine v_load (v := (0, n)) (hz_X12_opens hT _ _ rfl) rfl rfl ?_
  refine v_load (v := (2, 121)) (hz_X12_opens hT _ _ rfl) rfl rfl ?_
  refine v_getf (v := (0, (h 121 8).2)) (r := 121) (hz_X12_opens hT _ _ rfl) rfl rfl (fun hv_ => Eq.trans (Eq.trans (zset_ne (fun c => absurd c.2 (by decide))) (zset_ne (fun c => absurd c.2 (by decide)))) (hv0.at rfl)) ?_
  refine v_ic (hz_X12_opens hT _ _ rfl) (fun hc4 => absurd (show (h 121 8).2 < n from hc4) (by omega)) (fun _ => ?_)
  refine v_load (v := (0, n)) (hz_X12_opens hT _ _ rfl) rfl rfl ?_
  refine v_load (v := (0, 300)) (hz_X12_opens hT _ _ rfl) rfl rfl ?_
  refine v_ic (hz_X12_opens hT _ _ rfl) (fun _ => ?_) (fun hc5 => absurd (show 300 < n from h3) hc5)
  refine v_load (v := (2, 121)) (hz_X12_opens hT _ _ rfl) rfl rfl ?_
  refine v_push (5) (hz_X12_opens hT _ _ rfl) rfl ?_
  refine v_call (w := 2) [some (2, 121), some (0, 5)] hO (hz_X12_opens hT _ _ rfl) rfl rfl ?_
  refine v_load (v := (2, 121)) (hz_X12_no hT _ _ rfl) rfl rfl ?_
  refine v_load (v := (0, 5)) (hz_X12_no hT _ _ rfl) rfl rfl ?_
  refine v_putf (r := 121) hO (hz_X12_no hT _ _ rfl) rfl (fun hf6 => ?_)
  refine v_push (0) (hz_X12_no hT _ _ rfl) rfl ?_
  refine v_ret (hz_X12_no hT _ _ rfl) (Or.inl rfl) ?_
  show vP D T N 288 22 (zset (zset (zset h 121 1 (0, 0)) 121 0 (0, 0)) 121 0 (0, 5)) [some (2, 121), some (0, n), some (0, 300)] [(0, 0)] _
  refine v_ret (hz_X12_opens hT _ _ rfl) (Or.inl rfl) ?_
  show vP D T N 289 18 (zset (zset (zset h 121 1 (0, 0)) 121 0 (0, 0)) 121 0 (0, 5)) [some (2, 121), some (0, n), none] [(0, 0)] _
  refine v_if (hz_X12_orders hT _ _ rfl) (fun _ => ?_) (fun hc7 => absurd (show (0 : Int) = 0 from (by omega)) hc7)
  refine v_push (-1) (hz_X12_orders hT _ _ rfl) rfl ?_
  refine v_ret (hz_X12_orders hT _ _ rfl) (Or.inl rfl) ?_
  exact k0 
theorem qr_ord0 {D : zD} {T : zT} (hT : hTab T) (hO : vOK T) {N : Nat} {h : zH} {Q : zR → Prop} {B : Nat → Int} {n m : Nat} {τ : PT} (hv0 : zHv h) (hK : Tks B n m τ) (hBB : BB B n) (hby : ∀ q, q < n → h 125 q = (0, B q)) (hn : (n : Int) ≤ (h 121 8).2) (hn3 : (n : Int) ≤ 300)
    (k0 : ∀ (g10 : zH), (qF (zset (zset (zset (zset (zset (zset h 121 1 (0, 0)) 121 0 (0, 0)) 121 9 (0, (n : Int))) 121 8 (0, 0)) 121 16 (0, 0)) 121 12 (0, 0)) g10) → (rX B n m τ 0 g10) → vP D T N 289 28 (zset g10 121 25 (0, 0)) [some (2, 121), some (0, (n : Int)), none] [] Q) :
    vP D T N 289 0 h [some (2, 121), some (0, (n : Int)), none] [] Q := by
  refine v_load (v := (2, 121)) (hz_X12_orders hT _ _ rfl) rfl rfl ?_
  refine v_push (0) (hz_X12_orders hT _ _ rfl) rfl ?_
  refine v_putf (r := 121) hO (hz_X12_orders hT _ _ rfl) rfl (fun hf1 => ?_)
  refine v_load (v := (2, 121)) (hz_X12_orders hT _ _ rfl) rfl rfl ?_
  refine v_push (0) (hz_X12_orders hT _ _ rfl) rfl ?_
  refine v_putf (r := 121) hO (hz_X12_orders hT _ _ rfl) rfl (fun hf2 => ?_)
  refine v_load (v := (2, 121)) (hz_X12_orders hT _ _ rfl) rfl rfl ?_
  refine v_load (v := (0, (n : Int))) (hz_X12_orders hT _ _ rfl) rfl rfl ?_
  refine v_push (300) (hz_X12_orders hT _ _ rfl) rfl ?_
  refine v_call (w := 3) [some (2, 121), some (0, (n : Int)), some (0, 300)] hO (hz_X12_orders hT _ _ rfl) rfl rfl ?_
  refine v_load (v := (0, (n : Int))) (hz_X12_opens hT _ _ rfl) rfl rfl ?_
  refine v_if (hz_X12_opens hT _ _ rfl) (fun hc3 => absurd (show (n : Int) < 0 from hc3) (by omega)) (fun _ => ?_)
  refine v_load (v := (0, (n : Int))) (hz_X12_opens hT _ _ rfl) rfl rfl ?_
  refine v_load (v := (2, 121)) (hz_X12_opens hT _ _ rfl) rfl rfl ?_
  refine v_getf (v := (0, (h 121 8).2)) (r := 121) (hz_X12_opens hT _ _ rfl) rfl rfl (fun hv_ => Eq.trans (Eq.trans (zset_ne (fun c => absurd c.2 (by decide))) (zset_ne (fun c => absurd c.2 (by decide)))) (hv0.at rfl)) ?_
  refine v_ic (hz_X12_opens hT _ _ rfl) (fun hc4 => absurd (show (h 121 8).2 < (n : Int) from hc4) (by omega)) (fun _ => ?_)
  refine v_load (v := (0, (n : Int))) (hz_X12_opens hT _ _ rfl) rfl rfl ?_
  refine v_load (v := (0, 300)) (hz_X12_opens hT _ _ rfl) rfl rfl ?_
  refine v_ic (hz_X12_opens hT _ _ rfl) (fun hc5 => absurd (show 300 < (n : Int) from hc5) (by omega)) (fun _ => ?_)
  refine v_load (v := (2, 121)) (hz_X12_opens hT _ _ rfl) rfl rfl ?_
  refine v_load (v := (0, (n : Int))) (hz_X12_opens hT _ _ rfl) rfl rfl ?_
  refine v_putf (r := 121) hO (hz_X12_opens hT _ _ rfl) rfl (fun hf6 => ?_)
  refine v_load (v := (2, 121)) (hz_X12_opens hT _ _ rfl) rfl rfl ?_
  refine v_push (0) (hz_X12_opens hT _ _ rfl) rfl ?_
  refine v_putf (r := 121) hO (hz_X12_opens hT _ _ rfl) rfl (fun hf7 => ?_)
  refine v_load (v := (2, 121)) (hz_X12_opens hT _ _ rfl) rfl rfl ?_
  refine v_push (0) (hz_X12_opens hT _ _ rfl) rfl ?_
  refine v_putf (r := 121) hO (hz_X12_opens hT _ _ rfl) rfl (fun hf8 => ?_)
  refine v_load (v := (2, 121)) (hz_X12_opens hT _ _ rfl) rfl rfl ?_
  refine v_push (0) (hz_X12_opens hT _ _ rfl) rfl ?_
  refine v_putf (r := 121) hO (hz_X12_opens hT _ _ rfl) rfl (fun hf9 => ?_)
  refine v_load (v := (2, 121)) (hz_X12_opens hT _ _ rfl) rfl rfl ?_
  refine v_call (w := 2) [some (2, 121), none] hO (hz_X12_opens hT _ _ rfl) rfl rfl (rx_first hT hO ⟨Eq.trans (Eq.trans (zset_ne (fun c => absurd c.2 (by decide))) (Eq.trans (zset_ne (fun c => absurd c.2 (by decide))) (zset_ne (fun c => absurd c.2 (by decide))))) zset_same, hBB, fun q hq => (Eq.trans (zset_ne (fun c => absurd c.1 (by decide))) (Eq.trans (zset_ne (fun c => absurd c.1 (by decide))) (Eq.trans (zset_ne (fun c => absurd c.1 (by decide))) (Eq.trans (zset_ne (fun c => absurd c.1 (by decide))) (Eq.trans (zset_ne (fun c => absurd c.1 (by decide))) (zset_ne (fun c => absurd c.1 (by decide)))))))).trans (hby q hq)⟩ (Eq.trans (zset_ne (fun c => absurd c.2 (by decide))) zset_same) (zset_same) hK (fun g10 ft10 hX10 => ?_))
  · show vP D T N 288 47 g10 [some (2, 121), some (0, (n : Int)), some (0, 300)] [] _
    refine vP_hv (fun hv10 => ?_)
    refine v_push (1) (hz_X12_opens hT _ _ rfl) rfl ?_
    refine v_ret (hz_X12_opens hT _ _ rfl) (Or.inl rfl) ?_
    show vP D T N 289 18 g10 [some (2, 121), some (0, (n : Int)), none] [(0, 1)] _
    refine v_if (hz_X12_orders hT _ _ rfl) (fun hc11 => absurd (show (1 : Int) = 0 from hc11) (by omega)) (fun _ => ?_)
    refine v_load (v := (2, 121)) (hz_X12_orders hT _ _ rfl) rfl rfl ?_
    refine v_push (0) (hz_X12_orders hT _ _ rfl) rfl ?_
    refine v_putf (r := 121) hO (hz_X12_orders hT _ _ rfl) rfl (fun hf12 => ?_)
    exact k0 g10 ft10 hX10
theorem qr_ord28 {D : zD} {T : zT} (hT : hTab T) (hO : vOK T) {N : Nat} {h : zH} {Q : zR → Prop} {B : Nat → Int} {n m i : Nat} {τ : PT} (w s : Int) (o : Option zV) (hv0 : zHv h) (hX : rX B n m τ i h) (hs : h 121 25 = (0, s)) (bs : 0 ≤ s ∧ s ≤ 30)
    (k0 : ((τ 0 i) = 0) → vP D T N 289 82 (zset (zset (zset (zset h 121 10 (0, 0)) 121 11 (0, -1)) 126 275 (0, 1)) 126 276 (0, s)) [some (2, 121), some (0, w), some (0, 0)] [] Q)
    (k1 : ((τ 0 i) ≠ 0) → vP D T N 304 0 h [some (2, 121), some (0, 0), none, none, none] [] (fun r1 => vP D T N 289 47 r1.1 [some (2, 121), some (0, w), o] (zpush r1.2 []) Q)) :
    vP D T (N + 1) 289 28 h [some (2, 121), some (0, w), o] [] Q := by
  refine v_loadS (v := (2, 121)) (hz_X12_orders hT _ _ rfl) rfl rfl ?_
  refine v_getf (v := (0, 0)) (r := 121) (hz_X12_orders hT _ _ rfl) rfl rfl (fun _ => hX.b) ?_
  refine v_if (hz_X12_orders hT _ _ rfl) (fun _ => ?_) (fun hc1 => absurd (show (0 : Int) = 0 from (by omega)) hc1)
  refine v_load (v := (2, 121)) (hz_X12_orders hT _ _ rfl) rfl rfl ?_
  refine v_getf (v := (0, (τ 0 i))) (r := 121) (hz_X12_orders hT _ _ rfl) rfl rfl (fun _ => hX.tk) ?_
  refine v_if (hz_X12_orders hT _ _ rfl) (fun hc2 => ?_) (fun hc2 => ?_)
  · have hc2 : (τ 0 i) = 0 := hc2
    refine v_load (v := (2, 121)) (hz_X12_orders hT _ _ rfl) rfl rfl ?_
    refine v_call (w := 1) [some (2, 121)] hO (hz_X12_orders hT _ _ rfl) rfl rfl ?_
    refine v_load (v := (2, 121)) (hz_X12_isWell hT _ _ rfl) rfl rfl ?_
    refine v_load (v := (2, 121)) (hz_X12_isWell hT _ _ rfl) rfl rfl ?_
    refine v_getf (v := (0, 0)) (r := 121) (hz_X12_isWell hT _ _ rfl) rfl rfl (fun _ => hX.b) ?_
    refine v_putf (r := 121) hO (hz_X12_isWell hT _ _ rfl) rfl (fun hf3 => ?_)
    refine v_load (v := (2, 121)) (hz_X12_isWell hT _ _ rfl) rfl rfl ?_
    refine v_load (v := (2, 121)) (hz_X12_isWell hT _ _ rfl) rfl rfl ?_
    refine v_getf (v := (0, 0)) (r := 121) (hz_X12_isWell hT _ _ rfl) rfl rfl (fun _ => Eq.trans (zset_ne (fun c => absurd c.2 (by decide))) (hX.b)) ?_
    refine v_if (hz_X12_isWell hT _ _ rfl) (fun _ => ?_) (fun hc4 => absurd (show (0 : Int) = 0 from (by omega)) hc4)
    refine v_push (-1) (hz_X12_isWell hT _ _ rfl) rfl ?_
    refine v_goto (hz_X12_isWell hT _ _ rfl) ?_
    refine v_putf (r := 121) hO (hz_X12_isWell hT _ _ rfl) rfl (fun hf5 => ?_)
    refine v_load (v := (2, 121)) (hz_X12_isWell hT _ _ rfl) rfl rfl ?_
    refine v_getf (v := (0, 0)) (r := 121) (hz_X12_isWell hT _ _ rfl) rfl rfl (fun _ => Eq.trans (Eq.trans (zset_ne (fun c => absurd c.2 (by decide))) (zset_ne (fun c => absurd c.2 (by decide)))) (hX.b)) ?_
    refine v_if (hz_X12_isWell hT _ _ rfl) (fun _ => ?_) (fun hc6 => absurd (show (0 : Int) = 0 from (by omega)) hc6)
    refine v_push (1) (hz_X12_isWell hT _ _ rfl) rfl ?_
    refine v_goto (hz_X12_isWell hT _ _ rfl) ?_
    refine v_ret (hz_X12_isWell hT _ _ rfl) (Or.inl rfl) ?_
    show vP D T N 289 54 (zset (zset h 121 10 (0, 0)) 121 11 (0, -1)) [some (2, 121), some (0, w), o] [(0, 1)] _
    refine v_if (hz_X12_orders hT _ _ rfl) (fun hc7 => absurd (show (1 : Int) = 0 from hc7) (by omega)) (fun _ => ?_)
    refine v_load (v := (2, 121)) (hz_X12_orders hT _ _ rfl) rfl rfl ?_
    refine v_getR (c := 126) (r := 121) (hz_X12_orders hT _ _ rfl) rfl rfl rfl ?_
    refine v_push (275) (hz_X12_orders hT _ _ rfl) rfl ?_
    refine v_push (1) (hz_X12_orders hT _ _ rfl) rfl ?_
    refine v_ast (r := 126) (hz_X12_orders hT _ _ rfl) rfl rfl (fun ha8 hb9 hf10 => ?_)
    refine v_load (v := (2, 121)) (hz_X12_orders hT _ _ rfl) rfl rfl ?_
    refine v_getR (c := 126) (r := 121) (hz_X12_orders hT _ _ rfl) rfl rfl rfl ?_
    refine v_push (276) (hz_X12_orders hT _ _ rfl) rfl ?_
    refine v_load (v := (2, 121)) (hz_X12_orders hT _ _ rfl) rfl rfl ?_
    refine v_getf (v := (0, s)) (r := 121) (hz_X12_orders hT _ _ rfl) rfl rfl (fun _ => Eq.trans (Eq.trans (zset_ne (fun c => absurd c.1 (by decide))) (Eq.trans (zset_ne (fun c => absurd c.2 (by decide))) (zset_ne (fun c => absurd c.2 (by decide))))) (hs)) ?_
    refine v_ast (r := 126) (hz_X12_orders hT _ _ rfl) rfl rfl (fun ha11 hb12 hf13 => ?_)
    refine v_push (0) (hz_X12_orders hT _ _ rfl) rfl ?_
    refine v_store1 [some (2, 121), some (0, w), some (0, 0)] (hz_X12_orders hT _ _ rfl) ⟨rfl, Nat.ne_of_beq_eq_false rfl⟩ (Nat.le_of_ble_eq_true rfl) rfl ?_
    exact k0 hc2
  · have hc2 : (τ 0 i) ≠ 0 := hc2
    refine v_load (v := (2, 121)) (hz_X12_orders hT _ _ rfl) rfl rfl ?_
    refine v_push (0) (hz_X12_orders hT _ _ rfl) rfl ?_
    refine v_call (w := 5) [some (2, 121), some (0, 0), none, none, none] hO (hz_X12_orders hT _ _ rfl) rfl rfl ?_
    exact k1 hc2
theorem qr_ord28B {D : zD} {T : zT} (hT : hTab T) (hO : vOK T) {N : Nat} {h : zH} {Q : zR → Prop} {e : Er} (w : Int) (o : Option zV) (hv0 : zHv h) (hB : rE e h)
    (k0 : Q (zset (zset (zset h 121 10 (0, e.1)) 121 11 (0, e.2)) 121 0 (0, 10), some (0, -1))) :
    vP D T N 289 28 h [some (2, 121), some (0, w), o] [] Q := by
  refine v_load (v := (2, 121)) (hz_X12_orders hT _ _ rfl) rfl rfl ?_
  refine v_getf (v := (0, e.1)) (r := 121) (hz_X12_orders hT _ _ rfl) rfl rfl (fun _ => hB.1) ?_
  refine v_if (hz_X12_orders hT _ _ rfl) (fun hc1 => absurd (show e.1 = 0 from hc1) (by have := hB.2.1; omega)) (fun _ => ?_)
  refine v_load (v := (2, 121)) (hz_X12_orders hT _ _ rfl) rfl rfl ?_
  refine v_call (w := 1) [some (2, 121)] hO (hz_X12_orders hT _ _ rfl) rfl rfl ?_
  refine v_load (v := (2, 121)) (hz_X12_isWell hT _ _ rfl) rfl rfl ?_
  refine v_load (v := (2, 121)) (hz_X12_isWell hT _ _ rfl) rfl rfl ?_
  refine v_getf (v := (0, e.1)) (r := 121) (hz_X12_isWell hT _ _ rfl) rfl rfl (fun _ => hB.1) ?_
  refine v_putf (r := 121) hO (hz_X12_isWell hT _ _ rfl) rfl (fun hf2 => ?_)
  refine v_load (v := (2, 121)) (hz_X12_isWell hT _ _ rfl) rfl rfl ?_
  refine v_load (v := (2, 121)) (hz_X12_isWell hT _ _ rfl) rfl rfl ?_
  refine v_getf (v := (0, e.1)) (r := 121) (hz_X12_isWell hT _ _ rfl) rfl rfl (fun _ => Eq.trans (zset_ne (fun c => absurd c.2 (by decide))) (hB.1)) ?_
  refine v_if (hz_X12_isWell hT _ _ rfl) (fun hc3 => absurd (show e.1 = 0 from hc3) (by have := hB.2.1; omega)) (fun _ => ?_)
  refine v_load (v := (2, 121)) (hz_X12_isWell hT _ _ rfl) rfl rfl ?_
  refine v_getf (v := (0, e.2)) (r := 121) (hz_X12_isWell hT _ _ rfl) rfl rfl (fun _ => Eq.trans (zset_ne (fun c => absurd c.2 (by decide))) (hB.2.2)) ?_
  refine v_putf (r := 121) hO (hz_X12_isWell hT _ _ rfl) rfl (fun hf4 => ?_)
  refine v_load (v := (2, 121)) (hz_X12_isWell hT _ _ rfl) rfl rfl ?_
  refine v_getf (v := (0, e.1)) (r := 121) (hz_X12_isWell hT _ _ rfl) rfl rfl (fun _ => Eq.trans (Eq.trans (zset_ne (fun c => absurd c.2 (by decide))) (zset_ne (fun c => absurd c.2 (by decide)))) (hB.1)) ?_
  refine v_if (hz_X12_isWell hT _ _ rfl) (fun hc5 => absurd (show e.1 = 0 from hc5) (by have := hB.2.1; omega)) (fun _ => ?_)
  refine v_load (v := (2, 121)) (hz_X12_isWell hT _ _ rfl) rfl rfl ?_
  refine v_push (10) (hz_X12_isWell hT _ _ rfl) rfl ?_
  refine v_call (w := 2) [some (2, 121), some (0, 10)] hO (hz_X12_isWell hT _ _ rfl) rfl rfl ?_
  refine v_load (v := (2, 121)) (hz_X12_no hT _ _ rfl) rfl rfl ?_
  refine v_load (v := (0, 10)) (hz_X12_no hT _ _ rfl) rfl rfl ?_
  refine v_putf (r := 121) hO (hz_X12_no hT _ _ rfl) rfl (fun hf6 => ?_)
  refine v_push (0) (hz_X12_no hT _ _ rfl) rfl ?_
  refine v_ret (hz_X12_no hT _ _ rfl) (Or.inl rfl) ?_
  show vP D T N 265 40 (zset (zset (zset h 121 10 (0, e.1)) 121 11 (0, e.2)) 121 0 (0, 10)) [some (2, 121)] [(0, 0)] _
  refine v_if (hz_X12_isWell hT _ _ rfl) (fun _ => ?_) (fun hc7 => absurd (show (0 : Int) = 0 from (by omega)) hc7)
  refine v_push (0) (hz_X12_isWell hT _ _ rfl) rfl ?_
  refine v_ret (hz_X12_isWell hT _ _ rfl) (Or.inl rfl) ?_
  show vP D T N 289 54 (zset (zset (zset h 121 10 (0, e.1)) 121 11 (0, e.2)) 121 0 (0, 10)) [some (2, 121), some (0, w), o] [(0, 0)] _
  refine v_if (hz_X12_orders hT _ _ rfl) (fun _ => ?_) (fun hc8 => absurd (show (0 : Int) = 0 from (by omega)) hc8)
  refine v_push (-1) (hz_X12_orders hT _ _ rfl) rfl ?_
  refine v_ret (hz_X12_orders hT _ _ rfl) (Or.inl rfl) ?_
  exact k0 
theorem qr_ord47 {D : zD} {T : zT} (hT : hTab T) (hO : vOK T) {N : Nat} {h : zH} {Q : zR → Prop} (w : Int) (o : Option zV) (hv0 : zHv h)
    (k0 : vP D T N 289 28 h [some (2, 121), some (0, w), o] [] Q) :
    vP D T N 289 47 h [some (2, 121), some (0, w), o] [] Q := by
  refine v_goto (hz_X12_orders hT _ _ rfl) ?_
  exact k0 
theorem qr_ord82 {D : zD} {T : zT} (hT : hTab T) (hO : vOK T) {N : Nat} {h : zH} {Q : zR → Prop} (w s x : Int) (hv0 : zHv h) (hs : h 121 25 = (0, s)) (bs : 0 ≤ s ∧ s ≤ 30) (hx : 0 ≤ x ∧ x ≤ 270)
    (k0 : (x < (9 * s)) → (0 ≤ (2477 + x)) → ((2477 + x) < 2750) → (0 ≤ (277 + x)) → ((277 + x) < 2750) → vP D T N 289 82 (zset h 126 (((277 + x)).toNat) (0, (h 126 ((2477 + x)).toNat).2)) [some (2, 121), some (0, w), some (0, (x + 1))] [] Q)
    (k1 : ((9 * s) ≤ x) → Q (h, some (0, s))) :
    vP D T (N + 1) 289 82 h [some (2, 121), some (0, w), some (0, x)] [] Q := by
  refine v_loadS (v := (0, x)) (hz_X12_orders hT _ _ rfl) rfl rfl ?_
  refine v_push (9) (hz_X12_orders hT _ _ rfl) rfl ?_
  refine v_load (v := (2, 121)) (hz_X12_orders hT _ _ rfl) rfl rfl ?_
  refine v_getf (v := (0, s)) (r := 121) (hz_X12_orders hT _ _ rfl) rfl rfl (fun _ => hs) ?_
  refine v_bin (w := (9 * s)) (hz_X12_orders hT _ _ rfl) (hq_mul (by omega) (by omega)) ?_
  refine v_ic (hz_X12_orders hT _ _ rfl) (fun hc1 => ?_) (fun hc1 => ?_)
  · have hc1 : x < (9 * s) := hc1
    refine v_load (v := (2, 121)) (hz_X12_orders hT _ _ rfl) rfl rfl ?_
    refine v_getR (c := 126) (r := 121) (hz_X12_orders hT _ _ rfl) rfl rfl rfl ?_
    refine v_push (277) (hz_X12_orders hT _ _ rfl) rfl ?_
    refine v_load (v := (0, x)) (hz_X12_orders hT _ _ rfl) rfl rfl ?_
    refine v_bin (w := (277 + x)) (hz_X12_orders hT _ _ rfl) (hq_add (by omega) (by omega)) ?_
    refine v_load (v := (2, 121)) (hz_X12_orders hT _ _ rfl) rfl rfl ?_
    refine v_getR (c := 126) (r := 121) (hz_X12_orders hT _ _ rfl) rfl rfl rfl ?_
    refine v_push (2477) (hz_X12_orders hT _ _ rfl) rfl ?_
    refine v_load (v := (0, x)) (hz_X12_orders hT _ _ rfl) rfl rfl ?_
    refine v_bin (w := (2477 + x)) (hz_X12_orders hT _ _ rfl) (hq_add (by omega) (by omega)) ?_
    refine v_ald (t := 0) (r := 126) (hz_X12_orders hT _ _ rfl) rfl rfl rfl (fun ha2 hb3 => ?_)
    refine v_ast (r := 126) (hz_X12_orders hT _ _ rfl) rfl rfl (fun ha4 hb5 hf6 => ?_)
    refine v_iinc (x := x) (u := 1) (w := (x + 1)) [some (2, 121), some (0, w), some (0, (x + 1))] (hz_X12_orders hT _ _ rfl) rfl rfl (Nat.le_of_ble_eq_true rfl) (vz_inc (by omega) (by omega)) rfl ?_
    refine v_goto (hz_X12_orders hT _ _ rfl) ?_
    exact k0 hc1 ha2 hb3 ha4 hb5
  · have hc1 : (9 * s) ≤ x := Int.not_lt.mp hc1
    refine v_load (v := (2, 121)) (hz_X12_orders hT _ _ rfl) rfl rfl ?_
    refine v_getf (v := (0, s)) (r := 121) (hz_X12_orders hT _ _ rfl) rfl rfl (fun _ => hs) ?_
    refine v_ret (hz_X12_orders hT _ _ rfl) (Or.inl rfl) ?_
    exact k1 hc1
/-! the reference's orders(n) -/
def rOG (h0 h : zH) : Prop := ∀ a b, ¬ ((a = 121 ∧ (b ≤ 1 ∨ (8 ≤ b ∧ b ≤ 19) ∨ b = 25)) ∨ (a = 126 ∧ ((275 ≤ b ∧ b < 550) ∨ 2477 ≤ b))) → h a b = h0 a b
theorem rOG.f {h0 h g : zH} (f : rOG h0 h) (k : roF h g) : rOG h0 g := fun a b hn => (k a b (fun c => hn (by omega))).trans (f a b hn)
def rOd (τ P : PT) (h0 : zH) (x : zR) : Prop := rOG h0 x.1 ∧ ((∃ e, pOrd τ P 900 0 0 0 = .inl e ∧ x.2 = some (0, -1) ∧ x.1 121 10 = (0, e.1) ∧ x.1 121 11 = (0, e.2) ∧ (∀ j, j < 550 → x.1 126 j = h0 126 j)) ∨ (∃ s : Nat, pOrd τ P 900 0 0 0 = .inr s ∧ x.2 = some (0, (s : Int)) ∧ x.1 121 10 = (0, 0) ∧ x.1 121 11 = (0, -1) ∧ x.1 126 275 = (0, 1) ∧ x.1 126 276 = (0, (s : Int))))
theorem rx_orders {D : zD} {T : zT} (hT : hTab T) (hO : vOK T) {N : Nat} {h : zH} {B : Nat → Int} {n m : Nat} {τ P : PT} (hb : (0 ≤ P 0 0 ∧ P 0 0 ≤ 8) ∧ (0 ≤ P 0 1 ∧ P 0 1 ≤ 6) ∧ (0 ≤ P 0 2 ∧ P 0 2 ≤ 3) ∧ (0 ≤ P 0 3 ∧ P 0 3 ≤ 6)) (e0 : h 126 0 = (0, P 0 0)) (e1 : h 126 1 = (0, P 0 1)) (e2 : h 126 2 = (0, P 0 2)) (e3 : h 126 3 = (0, P 0 3)) (hN : rNm P h) (hK : Tks B n m τ) (hBB : BB B n) (hby : ∀ q, q < n → h 125 q = (0, B q)) (ht : (n : Int) ≤ (h 121 8).2) (hn3 : (n : Int) ≤ 300) : vP D T N 289 0 h [some (2, 121), some (0, (n : Int)), none] [] (rOd τ P h) := by
  refine vP_hv (fun hv => qr_ord0 hT hO hv hK hBB hby ht hn3 ?_)
  intro g f hX
  have f0 : rOG h (zset g 121 25 (0, 0)) := fun a b hn => by
    rw [zset_ne (fun c => hn (by omega)), f a b (fun c => hn (by omega)), zset_ne (fun c => hn (by omega)), zset_ne (fun c => hn (by omega)), zset_ne (fun c => hn (by omega)), zset_ne (fun c => hn (by omega)), zset_ne (fun c => hn (by omega)), zset_ne (fun c => hn (by omega))]
  have c0 : ∀ j, j < 550 → zset g 121 25 (0, 0) 126 j = h 126 j := fun j hj => by
    rw [zset_ne (by omega), f 126 j (fun c => by omega), zset_ne (by omega), zset_ne (by omega), zset_ne (by omega), zset_ne (by omega), zset_ne (by omega), zset_ne (by omega)]
  have n0 : ∀ k, zset g 121 25 (0, 0) 128 k = h 128 k := fun k => by
    rw [zset_ne (by omega), f 128 k (fun c => by omega), zset_ne (by omega), zset_ne (by omega), zset_ne (by omega), zset_ne (by omega), zset_ne (by omega), zset_ne (by omega)]
  have o : oRI B n m τ P 0 0 (zset g 121 25 (0, 0)) := ⟨hX.zf (by decide), ⟨(c0 0 (by decide)).trans e0, (c0 1 (by decide)).trans e1, (c0 2 (by decide)).trans e2, (c0 3 (by decide)).trans e3⟩, fun k hk => (n0 k).trans (hN k hk), zset_same, by decide⟩
  refine vP_loop (fun h' l => ∃ (o' : Option zV) (nn s i : Nat), l = [some (2, 121), some (0, (n : Int)), o'] ∧ oEq τ P nn 0 0 0 s 0 i ∧ 2 * nn ≤ i ∧ oRI B n m τ P s i h' ∧ roF (zset g 121 25 (0, 0)) h') ?_ N _ _ ⟨none, 0, 0, 0, rfl, fun f => by rw [Nat.zero_add], by decide, o, roF.rfl⟩
  rintro N h' l ⟨o', nn, s, i, rfl, hq, hni, o, hF⟩ ih
  have o'' := o
  obtain ⟨hX', ⟨e0, e1, e2, e3⟩, hN', hs, bs⟩ := o''
  have him : i ≤ 900 := Nat.le_trans hX'.2.1 hX'.2.2.1
  have cc0 : ∀ g', roF (zset g 121 25 (0, 0)) g' → ∀ j, j < 550 → g' 126 j = h 126 j := fun g' f' j hj => (f' 126 j (fun c => by omega)).trans (c0 j hj)
  refine vP_hv (fun hv => qr_ord28 hT hO n s o' hv hX' hs ⟨by omega, by omega⟩ ?_ ?_)
  · intro h0
    have hr : pOrd τ P 900 0 0 0 = .inr s := by
      have w := hq (900 - nn)
      rw [show nn + (900 - nn) = 900 from by omega] at w
      rw [w, show 900 - nn = (899 - nn) + 1 from by omega]
      show (if τ 0 i = 0 then (if (0 : Nat) = 0 then _ else _) else _) = _
      rw [if_pos h0, if_pos rfl]
    have hs4 : zset (zset (zset (zset h' 121 10 (0, 0)) 121 11 (0, -1)) 126 275 (0, 1)) 126 276 (0, (s : Int)) 121 25 = (0, (s : Int)) := by
      rw [zset_ne (by decide), zset_ne (by decide), zset_ne (by decide), zset_ne (by decide)]
      exact hs
    refine vP_loop (fun h'' l => ∃ x : Nat, l = [some (2, 121), some (0, (n : Int)), some (0, (x : Int))] ∧ x ≤ 9 * s ∧ (∀ a b, ¬ (a = 126 ∧ 277 ≤ b ∧ b < 547) → h'' a b = zset (zset (zset (zset h' 121 10 (0, 0)) 121 11 (0, -1)) 126 275 (0, 1)) 126 276 (0, (s : Int)) a b)) ?_ N _ _ ⟨0, rfl, by omega, fun _ _ _ => rfl⟩
    rintro N h'' l ⟨x, rfl, hx, hc⟩ ih2
    have hs5 : h'' 121 25 = (0, (s : Int)) := (hc 121 25 (fun c => by omega)).trans hs4
    refine vP_hv (fun hv => qr_ord82 hT hO n s x hv hs5 ⟨by omega, by omega⟩ ⟨by omega, by omega⟩ ?_ ?_)
    · intro c _ _ _ _
      refine ih2 _ _ ⟨x + 1, rfl, by omega, fun a b hn => ?_⟩
      rw [zset_ne (fun c => hn (by omega))]
      exact hc a b hn
    · intro c
      refine ⟨fun a b hn => ?_, Or.inr ⟨s, hr, rfl, ?_, ?_, ?_, ?_⟩⟩
      · show h'' a b = h a b
        rw [hc a b (fun c => hn (by omega)), zset_ne (fun c => hn (by omega)), zset_ne (fun c => hn (by omega)), zset_ne (fun c => hn (by omega)), zset_ne (fun c => hn (by omega))]
        exact (f0.f hF) a b hn
      · exact (hc 121 10 (fun c => by omega)).trans ((zset_ne (by decide)).trans ((zset_ne (by decide)).trans ((zset_ne (by decide)).trans zset_same)))
      · exact (hc 121 11 (fun c => by omega)).trans ((zset_ne (by decide)).trans ((zset_ne (by decide)).trans zset_same))
      · exact (hc 126 275 (fun c => by omega)).trans ((zset_ne (by decide)).trans zset_same)
      · exact (hc 126 276 (fun c => by omega)).trans zset_same
  · intro h0
    have R := (rx_rs (D := D) hT hO (B := B) (n := n) (m := m) (τ := τ) hb N).1 h' s 0 i (by decide) o (Or.inr rfl) (Or.inl h0)
    refine vP_Q (fun r hr => ?_) R
    obtain ⟨g2, v⟩ := r
    obtain ⟨h1, h2⟩ := hr
    have h1 : v = none := h1
    subst h1
    refine vP_hv (fun hv => qr_ord47 hT hO n o' hv ?_)
    rcases h2 with ⟨n2, e, a1, a2, a3, a4⟩ | ⟨n2, s2, i2, a1, a2, a3, a4⟩
    · have hr : pOrd τ P 900 0 0 0 = .inl e := by
        have w := (hq.er a1) (900 - (nn + n2))
        rw [show nn + n2 + (900 - (nn + n2)) = 900 from by omega] at w
        exact w
      refine vP_hv (fun hv => qr_ord28B hT hO n o' hv a3 ⟨fun a b hn => ?_, Or.inl ⟨e, hr, rfl, ?_, ?_, fun j hj => ?_⟩⟩)
      · show zset (zset (zset g2 121 10 (0, e.1)) 121 11 (0, e.2)) 121 0 (0, 10) a b = h a b
        rw [zset_ne (fun c => hn (by omega)), zset_ne (fun c => hn (by omega)), zset_ne (fun c => hn (by omega))]
        exact (f0.f (hF.trans a4)) a b hn
      · dsimp only
        exact (zset_ne (by decide)).trans ((zset_ne (by decide)).trans zset_same)
      · dsimp only
        exact (zset_ne (by decide)).trans zset_same
      · show zset (zset (zset g2 121 10 (0, e.1)) 121 11 (0, e.2)) 121 0 (0, 10) 126 j = h 126 j
        rw [zset_ne (by omega), zset_ne (by omega), zset_ne (by omega)]
        exact cc0 _ (hF.trans a4) j hj
    · exact ih _ _ ⟨o', nn + n2, s2, i2, rfl, hq.trans a1, by omega, a3, hF.trans a4⟩
