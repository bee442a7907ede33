theorem qc_ord_24 {D : zD} {T : zT} (hT : hTab T) (hO : vOK T) {N : Nat} {h : zH} {Q : zR → Prop} {B : Nat → Int} {n : Nat} {P : PT} (hv0 : zHv h) (hB : TXc B n h) (hP : cP 24 P h) (hb : lB P) (e7 : h 0 7 = (2, 24)) (hn : (n : Int) ≤ (h 10 1).2) (hn3 : (n : Int) ≤ 300)
    (k0 : ∀ (g4 : zH) (m : Nat) (τ : PT) (s : Nat) (z4 : Int), (oXr h g4) → (Tks B n m τ) → (pOrd τ P 900 0 0 0 = .inr s) → (g4 18 1 = (0, (s : Int))) → (g4 18 0 = (0, z4)) → (0 ≤ z4) → (g4 10 7 = (0, 0)) → (g4 10 8 = (0, -1)) → Q (zset (zcopy (zcopy (zcopy (zcopy (zset (zset (zset (zset (zset g4 10 1 (0, 0)) 10 9 (0, 0)) 10 10 (0, -1)) 34 0 (0, z4)) 34 1 (0, (s : Int))) 19 0 35 0 60) 20 0 36 0 60) 21 0 37 0 60) 22 0 38 0 60) 0 0 (0, 0), some (0, (s : Int))))
    (k1 : ∀ (g5 : zH) (m : Nat) (τ : PT) (e5 : Er), (oXr h g5) → (Tks B n m τ) → (pOrd τ P 900 0 0 0 = .inl e5) → (cB e5 g5) → Q (zset (zset (zset (zset g5 10 1 (0, 0)) 10 9 (0, e5.1)) 10 10 (0, e5.2)) 0 0 (0, 10), some (0, -1))) :
    vP D T N 170 0 h [some (2, 0), some (0, (n : Int)), none] [] Q := by
  refine v_load (v := (0, (n : Int))) (hz_X11_orders hT _ _ rfl) rfl rfl ?_
  refine v_if (hz_X11_orders hT _ _ rfl) (fun hc1 => absurd (show (n : Int) < 0 from hc1) (by omega)) (fun _ => ?_)
  refine v_load (v := (0, (n : Int))) (hz_X11_orders hT _ _ rfl) rfl rfl ?_
  refine v_load (v := (2, 0)) (hz_X11_orders hT _ _ rfl) rfl rfl ?_
  refine v_getR (c := 10) (r := 0) (hz_X11_orders hT _ _ rfl) rfl rfl rfl ?_
  refine v_getI (t := 0) (r := 10) (hz_X11_orders hT _ _ rfl) rfl rfl rfl ?_
  refine v_ic (hz_X11_orders hT _ _ rfl) (fun hc2 => absurd (show (h 10 1).2 < (n : Int) from hc2) (by omega)) (fun _ => ?_)
  refine v_load (v := (0, (n : Int))) (hz_X11_orders hT _ _ rfl) rfl rfl ?_
  refine v_push (300) (hz_X11_orders hT _ _ rfl) rfl ?_
  refine v_ic (hz_X11_orders hT _ _ rfl) (fun hc3 => absurd (show 300 < (n : Int) from hc3) (by omega)) (fun _ => ?_)
  refine v_load (v := (2, 0)) (hz_X11_orders hT _ _ rfl) rfl rfl ?_
  refine v_getR (c := 17) (r := 0) (hz_X11_orders hT _ _ rfl) rfl rfl rfl ?_
  refine v_load (v := (2, 0)) (hz_X11_orders hT _ _ rfl) rfl rfl ?_
  refine v_getf (v := (2, 24)) (r := 0) (hz_X11_orders hT _ _ rfl) rfl rfl (fun _ => e7) ?_
  refine v_load (v := (0, (n : Int))) (hz_X11_orders hT _ _ rfl) rfl rfl ?_
  refine v_call (w := 5) [some (2, 17), some (2, 24), some (0, (n : Int)), none, none] hO (hz_X11_orders hT _ _ rfl) rfl rfl (cOx_k (co_text_24 hT hO hB (by omega) hP hb) (fun g4 m τ s z4 xf4 hK4 q4 sa4 sb4 bz4 da4 db4 => ?_) (fun g5 m τ e5 xf5 hK5 q5 c5 => ?_))
  · show vP D T N 170 40 g4 [some (2, 0), some (0, (n : Int)), none] [(0, 1)] _
    refine vP_hv (fun hv4 => ?_)
    refine v_store1 [some (2, 0), some (0, (n : Int)), some (0, 1)] (hz_X11_orders hT _ _ rfl) ⟨rfl, Nat.ne_of_beq_eq_false rfl⟩ (Nat.le_of_ble_eq_true rfl) rfl ?_
    refine v_load (v := (2, 0)) (hz_X11_orders hT _ _ rfl) rfl rfl ?_
    refine v_getR (c := 10) (r := 0) (hz_X11_orders hT _ _ rfl) rfl rfl rfl ?_
    refine v_call (w := 1) [some (2, 10)] hO (hz_X11_orders hT _ _ rfl) rfl rfl ?_
    refine v_load (v := (2, 10)) (hz_X8_finishText hT _ _ rfl) rfl rfl ?_
    refine v_push (0) (hz_X8_finishText hT _ _ rfl) rfl ?_
    refine v_putf (r := 10) hO (hz_X8_finishText hT _ _ rfl) rfl (fun hf6 => ?_)
    refine v_load (v := (2, 10)) (hz_X8_finishText hT _ _ rfl) rfl rfl ?_
    refine v_load (v := (2, 10)) (hz_X8_finishText hT _ _ rfl) rfl rfl ?_
    refine v_getf (v := (0, 0)) (r := 10) (hz_X8_finishText hT _ _ rfl) rfl rfl (fun _ => Eq.trans (zset_ne (fun c => absurd c.2 (by decide))) (da4)) ?_
    refine v_putf (r := 10) hO (hz_X8_finishText hT _ _ rfl) rfl (fun hf7 => ?_)
    refine v_load (v := (2, 10)) (hz_X8_finishText hT _ _ rfl) rfl rfl ?_
    refine v_load (v := (2, 10)) (hz_X8_finishText hT _ _ rfl) rfl rfl ?_
    refine v_getf (v := (0, -1)) (r := 10) (hz_X8_finishText hT _ _ rfl) rfl rfl (fun _ => Eq.trans (Eq.trans (zset_ne (fun c => absurd c.2 (by decide))) (zset_ne (fun c => absurd c.2 (by decide)))) (db4)) ?_
    refine v_putf (r := 10) hO (hz_X8_finishText hT _ _ rfl) rfl (fun hf8 => ?_)
    refine v_ret0 (hz_X8_finishText hT _ _ rfl) ?_
    show vP D T N 170 48 (zset (zset (zset g4 10 1 (0, 0)) 10 9 (0, 0)) 10 10 (0, -1)) [some (2, 0), some (0, (n : Int)), some (0, 1)] [] _
    refine v_load (v := (0, 1)) (hz_X11_orders hT _ _ rfl) rfl rfl ?_
    refine v_if (hz_X11_orders hT _ _ rfl) (fun hc9 => absurd (show (1 : Int) = 0 from hc9) (by omega)) (fun _ => ?_)
    refine v_load (v := (2, 0)) (hz_X11_orders hT _ _ rfl) rfl rfl ?_
    refine v_getf (v := (2, 24)) (r := 0) (hz_X11_orders hT _ _ rfl) rfl rfl (fun _ => Eq.trans (Eq.trans (zset_ne (fun c => absurd c.1 (by decide))) (Eq.trans (zset_ne (fun c => absurd c.1 (by decide))) (zset_ne (fun c => absurd c.1 (by decide))))) ((Eq.trans (xf4 0 7 (fun c => by omega)) e7))) ?_
    refine v_getR (c := 34) (r := 24) (hz_X11_orders hT _ _ rfl) rfl rfl rfl ?_
    refine v_load (v := (2, 0)) (hz_X11_orders hT _ _ rfl) rfl rfl ?_
    refine v_getR (c := 17) (r := 0) (hz_X11_orders hT _ _ rfl) rfl rfl rfl ?_
    refine v_getR (c := 18) (r := 17) (hz_X11_orders hT _ _ rfl) rfl rfl rfl ?_
    refine v_call (w := 2) [some (2, 34), some (2, 18)] hO (hz_X11_orders hT _ _ rfl) rfl rfl ?_
    refine v_load (v := (2, 34)) (hz_X5_becomeLike hT _ _ rfl) rfl rfl ?_
    refine v_load (v := (2, 18)) (hz_X5_becomeLike hT _ _ rfl) rfl rfl ?_
    refine v_getf (v := (0, z4)) (r := 18) (hz_X5_becomeLike hT _ _ rfl) rfl rfl (fun _ => Eq.trans (Eq.trans (zset_ne (fun c => absurd c.1 (by decide))) (Eq.trans (zset_ne (fun c => absurd c.1 (by decide))) (zset_ne (fun c => absurd c.1 (by decide))))) (sb4)) ?_
    refine v_putf (r := 34) hO (hz_X5_becomeLike hT _ _ rfl) rfl (fun hf10 => ?_)
    refine v_load (v := (2, 34)) (hz_X5_becomeLike hT _ _ rfl) rfl rfl ?_
    refine v_load (v := (2, 18)) (hz_X5_becomeLike hT _ _ rfl) rfl rfl ?_
    refine v_getf (v := (0, (s : Int))) (r := 18) (hz_X5_becomeLike hT _ _ rfl) rfl rfl (fun _ => Eq.trans (Eq.trans (zset_ne (fun c => absurd c.1 (by decide))) (Eq.trans (zset_ne (fun c => absurd c.1 (by decide))) (Eq.trans (zset_ne (fun c => absurd c.1 (by decide))) (zset_ne (fun c => absurd c.1 (by decide)))))) (sa4)) ?_
    refine v_putf (r := 34) hO (hz_X5_becomeLike hT _ _ rfl) rfl (fun hf11 => ?_)
    refine v_load (v := (2, 18)) (hz_X5_becomeLike hT _ _ rfl) rfl rfl ?_
    refine v_getR (c := 19) (r := 18) (hz_X5_becomeLike hT _ _ rfl) rfl rfl rfl ?_
    refine v_push (0) (hz_X5_becomeLike hT _ _ rfl) rfl ?_
    refine v_load (v := (2, 34)) (hz_X5_becomeLike hT _ _ rfl) rfl rfl ?_
    refine v_getR (c := 35) (r := 34) (hz_X5_becomeLike hT _ _ rfl) rfl rfl rfl ?_
    refine v_push (0) (hz_X5_becomeLike hT _ _ rfl) rfl ?_
    refine v_push (60) (hz_X5_becomeLike hT _ _ rfl) rfl ?_
    refine v_copy (r0 := 19) (r1 := 35) (hz_X5_becomeLike hT _ _ rfl) rfl rfl rfl rfl (fun hd12 hd13 hd14 hd15 hd16 => ?_)
    refine v_load (v := (2, 18)) (hz_X5_becomeLike hT _ _ rfl) rfl rfl ?_
    refine v_getR (c := 20) (r := 18) (hz_X5_becomeLike hT _ _ rfl) rfl rfl rfl ?_
    refine v_push (0) (hz_X5_becomeLike hT _ _ rfl) rfl ?_
    refine v_load (v := (2, 34)) (hz_X5_becomeLike hT _ _ rfl) rfl rfl ?_
    refine v_getR (c := 36) (r := 34) (hz_X5_becomeLike hT _ _ rfl) rfl rfl rfl ?_
    refine v_push (0) (hz_X5_becomeLike hT _ _ rfl) rfl ?_
    refine v_push (60) (hz_X5_becomeLike hT _ _ rfl) rfl ?_
    refine v_copy (r0 := 20) (r1 := 36) (hz_X5_becomeLike hT _ _ rfl) rfl rfl rfl rfl (fun hd17 hd18 hd19 hd20 hd21 => ?_)
    refine v_load (v := (2, 18)) (hz_X5_becomeLike hT _ _ rfl) rfl rfl ?_
    refine v_getR (c := 21) (r := 18) (hz_X5_becomeLike hT _ _ rfl) rfl rfl rfl ?_
    refine v_push (0) (hz_X5_becomeLike hT _ _ rfl) rfl ?_
    refine v_load (v := (2, 34)) (hz_X5_becomeLike hT _ _ rfl) rfl rfl ?_
    refine v_getR (c := 37) (r := 34) (hz_X5_becomeLike hT _ _ rfl) rfl rfl rfl ?_
    refine v_push (0) (hz_X5_becomeLike hT _ _ rfl) rfl ?_
    refine v_push (60) (hz_X5_becomeLike hT _ _ rfl) rfl ?_
    refine v_copy (r0 := 21) (r1 := 37) (hz_X5_becomeLike hT _ _ rfl) rfl rfl rfl rfl (fun hd22 hd23 hd24 hd25 hd26 => ?_)
    refine v_load (v := (2, 18)) (hz_X5_becomeLike hT _ _ rfl) rfl rfl ?_
    refine v_getR (c := 22) (r := 18) (hz_X5_becomeLike hT _ _ rfl) rfl rfl rfl ?_
    refine v_push (0) (hz_X5_becomeLike hT _ _ rfl) rfl ?_
    refine v_load (v := (2, 34)) (hz_X5_becomeLike hT _ _ rfl) rfl rfl ?_
    refine v_getR (c := 38) (r := 34) (hz_X5_becomeLike hT _ _ rfl) rfl rfl rfl ?_
    refine v_push (0) (hz_X5_becomeLike hT _ _ rfl) rfl ?_
    refine v_push (60) (hz_X5_becomeLike hT _ _ rfl) rfl ?_
    refine v_copy (r0 := 22) (r1 := 38) (hz_X5_becomeLike hT _ _ rfl) rfl rfl rfl rfl (fun hd27 hd28 hd29 hd30 hd31 => ?_)
    refine v_ret0 (hz_X5_becomeLike hT _ _ rfl) ?_
    show vP D T N 170 76 (zcopy (zcopy (zcopy (zcopy (zset (zset (zset (zset (zset g4 10 1 (0, 0)) 10 9 (0, 0)) 10 10 (0, -1)) 34 0 (0, z4)) 34 1 (0, (s : Int))) 19 0 35 0 60) 20 0 36 0 60) 21 0 37 0 60) 22 0 38 0 60) [some (2, 0), some (0, (n : Int)), some (0, 1)] [] _
    refine v_load (v := (2, 0)) (hz_X11_orders hT _ _ rfl) rfl rfl ?_
    refine v_load (v := (2, 0)) (hz_X11_orders hT _ _ rfl) rfl rfl ?_
    refine v_getf (v := (2, 24)) (r := 0) (hz_X11_orders hT _ _ rfl) rfl rfl (fun _ => Eq.trans (Eq.trans (vcopy_ne (fun c => absurd c.1 (by decide))) (Eq.trans (vcopy_ne (fun c => absurd c.1 (by decide))) (Eq.trans (vcopy_ne (fun c => absurd c.1 (by decide))) (Eq.trans (vcopy_ne (fun c => absurd c.1 (by decide))) (Eq.trans (zset_ne (fun c => absurd c.1 (by decide))) (Eq.trans (zset_ne (fun c => absurd c.1 (by decide))) (Eq.trans (zset_ne (fun c => absurd c.1 (by decide))) (Eq.trans (zset_ne (fun c => absurd c.1 (by decide))) (zset_ne (fun c => absurd c.1 (by decide))))))))))) ((Eq.trans (xf4 0 7 (fun c => by omega)) e7))) ?_
    refine v_getR (c := 34) (r := 24) (hz_X11_orders hT _ _ rfl) rfl rfl rfl ?_
    refine v_getf (v := (0, (s : Int))) (r := 34) (hz_X11_orders hT _ _ rfl) rfl rfl (fun _ => Eq.trans (Eq.trans (vcopy_ne (fun c => absurd c.1 (by decide))) (Eq.trans (vcopy_ne (fun c => absurd c.1 (by decide))) (Eq.trans (vcopy_ne (fun c => absurd c.1 (by decide))) (vcopy_ne (fun c => absurd c.1 (by decide)))))) zset_same) ?_
    refine v_call (w := 2) [some (2, 0), some (0, (s : Int))] hO (hz_X11_orders hT _ _ rfl) rfl rfl ?_
    refine v_load (v := (2, 0)) (hz_X11_answer hT _ _ rfl) rfl rfl ?_
    refine v_push (0) (hz_X11_answer hT _ _ rfl) rfl ?_
    refine v_putf (r := 0) hO (hz_X11_answer hT _ _ rfl) rfl (fun hf32 => ?_)
    refine v_load (v := (0, (s : Int))) (hz_X11_answer hT _ _ rfl) rfl rfl ?_
    refine v_ret (hz_X11_answer hT _ _ rfl) (Or.inl rfl) ?_
    show vP D T N 170 90 (zset (zcopy (zcopy (zcopy (zcopy (zset (zset (zset (zset (zset g4 10 1 (0, 0)) 10 9 (0, 0)) 10 10 (0, -1)) 34 0 (0, z4)) 34 1 (0, (s : Int))) 19 0 35 0 60) 20 0 36 0 60) 21 0 37 0 60) 22 0 38 0 60) 0 0 (0, 0)) [some (2, 0), some (0, (n : Int)), some (0, 1)] [(0, (s : Int))] _
    refine v_ret (hz_X11_orders hT _ _ rfl) (Or.inl rfl) ?_
    exact k0 g4 m τ s z4 xf4 hK4 q4 sa4 sb4 bz4 da4 db4
  · show vP D T N 170 40 g5 [some (2, 0), some (0, (n : Int)), none] [(0, 0)] _
    refine vP_hv (fun hv5 => ?_)
    refine v_store1 [some (2, 0), some (0, (n : Int)), some (0, 0)] (hz_X11_orders hT _ _ rfl) ⟨rfl, Nat.ne_of_beq_eq_false rfl⟩ (Nat.le_of_ble_eq_true rfl) rfl ?_
    refine v_load (v := (2, 0)) (hz_X11_orders hT _ _ rfl) rfl rfl ?_
    refine v_getR (c := 10) (r := 0) (hz_X11_orders hT _ _ rfl) rfl rfl rfl ?_
    refine v_call (w := 1) [some (2, 10)] hO (hz_X11_orders hT _ _ rfl) rfl rfl ?_
    refine v_load (v := (2, 10)) (hz_X8_finishText hT _ _ rfl) rfl rfl ?_
    refine v_push (0) (hz_X8_finishText hT _ _ rfl) rfl ?_
    refine v_putf (r := 10) hO (hz_X8_finishText hT _ _ rfl) rfl (fun hf33 => ?_)
    refine v_load (v := (2, 10)) (hz_X8_finishText hT _ _ rfl) rfl rfl ?_
    refine v_load (v := (2, 10)) (hz_X8_finishText hT _ _ rfl) rfl rfl ?_
    refine v_getf (v := (0, e5.1)) (r := 10) (hz_X8_finishText hT _ _ rfl) rfl rfl (fun _ => Eq.trans (zset_ne (fun c => absurd c.2 (by decide))) (c5.1)) ?_
    refine v_putf (r := 10) hO (hz_X8_finishText hT _ _ rfl) rfl (fun hf34 => ?_)
    refine v_load (v := (2, 10)) (hz_X8_finishText hT _ _ rfl) rfl rfl ?_
    refine v_load (v := (2, 10)) (hz_X8_finishText hT _ _ rfl) rfl rfl ?_
    refine v_getf (v := (0, e5.2)) (r := 10) (hz_X8_finishText hT _ _ rfl) rfl rfl (fun _ => Eq.trans (Eq.trans (zset_ne (fun c => absurd c.2 (by decide))) (zset_ne (fun c => absurd c.2 (by decide)))) (c5.2)) ?_
    refine v_putf (r := 10) hO (hz_X8_finishText hT _ _ rfl) rfl (fun hf35 => ?_)
    refine v_ret0 (hz_X8_finishText hT _ _ rfl) ?_
    show vP D T N 170 48 (zset (zset (zset g5 10 1 (0, 0)) 10 9 (0, e5.1)) 10 10 (0, e5.2)) [some (2, 0), some (0, (n : Int)), some (0, 0)] [] _
    refine v_load (v := (0, 0)) (hz_X11_orders hT _ _ rfl) rfl rfl ?_
    refine v_if (hz_X11_orders hT _ _ rfl) (fun _ => ?_) (fun hc36 => absurd (show (0 : Int) = 0 from (by omega)) hc36)
    refine v_load (v := (2, 0)) (hz_X11_orders hT _ _ rfl) rfl rfl ?_
    refine v_push (10) (hz_X11_orders hT _ _ rfl) rfl ?_
    refine v_call (w := 2) [some (2, 0), some (0, 10)] hO (hz_X11_orders hT _ _ rfl) rfl rfl ?_
    refine v_load (v := (2, 0)) (hz_X11_refused hT _ _ rfl) rfl rfl ?_
    refine v_load (v := (0, 10)) (hz_X11_refused hT _ _ rfl) rfl rfl ?_
    refine v_putf (r := 0) hO (hz_X11_refused hT _ _ rfl) rfl (fun hf37 => ?_)
    refine v_push (-1) (hz_X11_refused hT _ _ rfl) rfl ?_
    refine v_ret (hz_X11_refused hT _ _ rfl) (Or.inl rfl) ?_
    show vP D T N 170 58 (zset (zset (zset (zset g5 10 1 (0, 0)) 10 9 (0, e5.1)) 10 10 (0, e5.2)) 0 0 (0, 10)) [some (2, 0), some (0, (n : Int)), some (0, 0)] [(0, -1)] _
    refine v_ret (hz_X11_orders hT _ _ rfl) (Or.inl rfl) ?_
    exact k1 g5 m τ e5 xf5 hK5 q5 c5
theorem co_ord_24 {D : zD} {T : zT} (hT : hTab T) (hO : vOK T) {N : Nat} {h : zH} {B : Nat → Int} {n : Nat} {P : PT} (hB : TXc B n h) (hP : cP 24 P h) (hb : lB P) (e7 : h 0 7 = (2, 24)) (hn : (n : Int) ≤ (h 10 1).2) (hn3 : (n : Int) ≤ 300) : vP D T N 170 0 h [some (2, 0), some (0, (n : Int)), none] [] (cOd 24 B n P h) := by
  refine vP_hv (fun hv => qc_ord_24 hT hO hv hB hP hb e7 hn hn3 ?_ ?_)
  · intro g m τ s z xf hK q s1 s0 z0 d7 d8
    refine ⟨fun a b hn => ?_, m, τ, hK, Or.inr ⟨s, q, rfl, ?_, ?_, ?_, z, z0, ?_⟩⟩
    · show zset (zcopy (zcopy (zcopy (zcopy (zset (zset (zset (zset (zset g 10 1 (0, 0)) 10 9 (0, 0)) 10 10 (0, -1)) 34 0 (0, z)) 34 1 (0, (s : Int))) 19 0 35 0 60) 20 0 36 0 60) 21 0 37 0 60) 22 0 38 0 60) 0 0 (0, 0) a b = h a b
      rw [zset_ne (fun c => hn (by omega)), vcopy_ne (fun c => hn (by omega)), vcopy_ne (fun c => hn (by omega)), vcopy_ne (fun c => hn (by omega)), vcopy_ne (fun c => hn (by omega)), zset_ne (fun c => hn (by omega)), zset_ne (fun c => hn (by omega)), zset_ne (fun c => hn (by omega)), zset_ne (fun c => hn (by omega)), zset_ne (fun c => hn (by omega))]
      exact xf a b (fun c => hn (by omega))
    · dsimp only
      exact (zset_ne (by decide)).trans ((vcopy_ne (by decide)).trans ((vcopy_ne (by decide)).trans ((vcopy_ne (by decide)).trans ((vcopy_ne (by decide)).trans ((zset_ne (by decide)).trans ((zset_ne (by decide)).trans ((zset_ne (by decide)).trans zset_same)))))))
    · dsimp only
      exact (zset_ne (by decide)).trans ((vcopy_ne (by decide)).trans ((vcopy_ne (by decide)).trans ((vcopy_ne (by decide)).trans ((vcopy_ne (by decide)).trans ((zset_ne (by decide)).trans ((zset_ne (by decide)).trans zset_same))))))
    · dsimp only
      exact (zset_ne (by decide)).trans ((vcopy_ne (by decide)).trans ((vcopy_ne (by decide)).trans ((vcopy_ne (by decide)).trans ((vcopy_ne (by decide)).trans zset_same))))
    · dsimp only
      exact (zset_ne (by decide)).trans ((vcopy_ne (by decide)).trans ((vcopy_ne (by decide)).trans ((vcopy_ne (by decide)).trans ((vcopy_ne (by decide)).trans ((zset_ne (by decide)).trans zset_same)))))
  · intro g m τ e xf hK q c
    refine ⟨fun a b hn => ?_, m, τ, hK, Or.inl ⟨e, q, rfl, ?_, ?_, ?_⟩⟩
    · show zset (zset (zset (zset g 10 1 (0, 0)) 10 9 (0, e.1)) 10 10 (0, e.2)) 0 0 (0, 10) a b = h a b
      rw [zset_ne (fun c => hn (by omega)), zset_ne (fun c => hn (by omega)), zset_ne (fun c => hn (by omega)), zset_ne (fun c => hn (by omega))]
      exact xf a b (fun c => hn (by omega))
    · dsimp only
      exact (zset_ne (by decide)).trans ((zset_ne (by decide)).trans zset_same)
    · dsimp only
      exact (zset_ne (by decide)).trans zset_same
    · intro j
      show zset (zset (zset (zset g 10 1 (0, 0)) 10 9 (0, e.1)) 10 10 (0, e.2)) 0 0 (0, 10) 34 j = h 34 j
      rw [zset_ne (by omega), zset_ne (by omega), zset_ne (by omega), zset_ne (by omega)]
      exact xf 34 j (fun c => by omega)
theorem qc_ord_39 {D : zD} {T : zT} (hT : hTab T) (hO : vOK T) {N : Nat} {h : zH} {Q : zR → Prop} {B : Nat → Int} {n : Nat} {P : PT} (hv0 : zHv h) (hB : TXc B n h) (hP : cP 39 P h) (hb : lB P) (e7 : h 0 7 = (2, 39)) (hn : (n : Int) ≤ (h 10 1).2) (hn3 : (n : Int) ≤ 300)
    (k0 : ∀ (g4 : zH) (m : Nat) (τ : PT) (s : Nat) (z4 : Int), (oXr h g4) → (Tks B n m τ) → (pOrd τ P 900 0 0 0 = .inr s) → (g4 18 1 = (0, (s : Int))) → (g4 18 0 = (0, z4)) → (0 ≤ z4) → (g4 10 7 = (0, 0)) → (g4 10 8 = (0, -1)) → Q (zset (zcopy (zcopy (zcopy (zcopy (zset (zset (zset (zset (zset g4 10 1 (0, 0)) 10 9 (0, 0)) 10 10 (0, -1)) 49 0 (0, z4)) 49 1 (0, (s : Int))) 19 0 50 0 60) 20 0 51 0 60) 21 0 52 0 60) 22 0 53 0 60) 0 0 (0, 0), some (0, (s : Int))))
    (k1 : ∀ (g5 : zH) (m : Nat) (τ : PT) (e5 : Er), (oXr h g5) → (Tks B n m τ) → (pOrd τ P 900 0 0 0 = .inl e5) → (cB e5 g5) → Q (zset (zset (zset (zset g5 10 1 (0, 0)) 10 9 (0, e5.1)) 10 10 (0, e5.2)) 0 0 (0, 10), some (0, -1))) :
    vP D T N 170 0 h [some (2, 0), some (0, (n : Int)), none] [] Q := by
  refine v_load (v := (0, (n : Int))) (hz_X11_orders hT _ _ rfl) rfl rfl ?_
  refine v_if (hz_X11_orders hT _ _ rfl) (fun hc1 => absurd (show (n : Int) < 0 from hc1) (by omega)) (fun _ => ?_)
  refine v_load (v := (0, (n : Int))) (hz_X11_orders hT _ _ rfl) rfl rfl ?_
  refine v_load (v := (2, 0)) (hz_X11_orders hT _ _ rfl) rfl rfl ?_
  refine v_getR (c := 10) (r := 0) (hz_X11_orders hT _ _ rfl) rfl rfl rfl ?_
  refine v_getI (t := 0) (r := 10) (hz_X11_orders hT _ _ rfl) rfl rfl rfl ?_
  refine v_ic (hz_X11_orders hT _ _ rfl) (fun hc2 => absurd (show (h 10 1).2 < (n : Int) from hc2) (by omega)) (fun _ => ?_)
  refine v_load (v := (0, (n : Int))) (hz_X11_orders hT _ _ rfl) rfl rfl ?_
  refine v_push (300) (hz_X11_orders hT _ _ rfl) rfl ?_
  refine v_ic (hz_X11_orders hT _ _ rfl) (fun hc3 => absurd (show 300 < (n : Int) from hc3) (by omega)) (fun _ => ?_)
  refine v_load (v := (2, 0)) (hz_X11_orders hT _ _ rfl) rfl rfl ?_
  refine v_getR (c := 17) (r := 0) (hz_X11_orders hT _ _ rfl) rfl rfl rfl ?_
  refine v_load (v := (2, 0)) (hz_X11_orders hT _ _ rfl) rfl rfl ?_
  refine v_getf (v := (2, 39)) (r := 0) (hz_X11_orders hT _ _ rfl) rfl rfl (fun _ => e7) ?_
  refine v_load (v := (0, (n : Int))) (hz_X11_orders hT _ _ rfl) rfl rfl ?_
  refine v_call (w := 5) [some (2, 17), some (2, 39), some (0, (n : Int)), none, none] hO (hz_X11_orders hT _ _ rfl) rfl rfl (cOx_k (co_text_39 hT hO hB (by omega) hP hb) (fun g4 m τ s z4 xf4 hK4 q4 sa4 sb4 bz4 da4 db4 => ?_) (fun g5 m τ e5 xf5 hK5 q5 c5 => ?_))
  · show vP D T N 170 40 g4 [some (2, 0), some (0, (n : Int)), none] [(0, 1)] _
    refine vP_hv (fun hv4 => ?_)
    refine v_store1 [some (2, 0), some (0, (n : Int)), some (0, 1)] (hz_X11_orders hT _ _ rfl) ⟨rfl, Nat.ne_of_beq_eq_false rfl⟩ (Nat.le_of_ble_eq_true rfl) rfl ?_
    refine v_load (v := (2, 0)) (hz_X11_orders hT _ _ rfl) rfl rfl ?_
    refine v_getR (c := 10) (r := 0) (hz_X11_orders hT _ _ rfl) rfl rfl rfl ?_
    refine v_call (w := 1) [some (2, 10)] hO (hz_X11_orders hT _ _ rfl) rfl rfl ?_
    refine v_load (v := (2, 10)) (hz_X8_finishText hT _ _ rfl) rfl rfl ?_
    refine v_push (0) (hz_X8_finishText hT _ _ rfl) rfl ?_
    refine v_putf (r := 10) hO (hz_X8_finishText hT _ _ rfl) rfl (fun hf6 => ?_)
    refine v_load (v := (2, 10)) (hz_X8_finishText hT _ _ rfl) rfl rfl ?_
    refine v_load (v := (2, 10)) (hz_X8_finishText hT _ _ rfl) rfl rfl ?_
    refine v_getf (v := (0, 0)) (r := 10) (hz_X8_finishText hT _ _ rfl) rfl rfl (fun _ => Eq.trans (zset_ne (fun c => absurd c.2 (by decide))) (da4)) ?_
    refine v_putf (r := 10) hO (hz_X8_finishText hT _ _ rfl) rfl (fun hf7 => ?_)
    refine v_load (v := (2, 10)) (hz_X8_finishText hT _ _ rfl) rfl rfl ?_
    refine v_load (v := (2, 10)) (hz_X8_finishText hT _ _ rfl) rfl rfl ?_
    refine v_getf (v := (0, -1)) (r := 10) (hz_X8_finishText hT _ _ rfl) rfl rfl (fun _ => Eq.trans (Eq.trans (zset_ne (fun c => absurd c.2 (by decide))) (zset_ne (fun c => absurd c.2 (by decide)))) (db4)) ?_
    refine v_putf (r := 10) hO (hz_X8_finishText hT _ _ rfl) rfl (fun hf8 => ?_)
    refine v_ret0 (hz_X8_finishText hT _ _ rfl) ?_
    show vP D T N 170 48 (zset (zset (zset g4 10 1 (0, 0)) 10 9 (0, 0)) 10 10 (0, -1)) [some (2, 0), some (0, (n : Int)), some (0, 1)] [] _
    refine v_load (v := (0, 1)) (hz_X11_orders hT _ _ rfl) rfl rfl ?_
    refine v_if (hz_X11_orders hT _ _ rfl) (fun hc9 => absurd (show (1 : Int) = 0 from hc9) (by omega)) (fun _ => ?_)
    refine v_load (v := (2, 0)) (hz_X11_orders hT _ _ rfl) rfl rfl ?_
    refine v_getf (v := (2, 39)) (r := 0) (hz_X11_orders hT _ _ rfl) rfl rfl (fun _ => Eq.trans (Eq.trans (zset_ne (fun c => absurd c.1 (by decide))) (Eq.trans (zset_ne (fun c => absurd c.1 (by decide))) (zset_ne (fun c => absurd c.1 (by decide))))) ((Eq.trans (xf4 0 7 (fun c => by omega)) e7))) ?_
    refine v_getR (c := 49) (r := 39) (hz_X11_orders hT _ _ rfl) rfl rfl rfl ?_
    refine v_load (v := (2, 0)) (hz_X11_orders hT _ _ rfl) rfl rfl ?_
    refine v_getR (c := 17) (r := 0) (hz_X11_orders hT _ _ rfl) rfl rfl rfl ?_
    refine v_getR (c := 18) (r := 17) (hz_X11_orders hT _ _ rfl) rfl rfl rfl ?_
    refine v_call (w := 2) [some (2, 49), some (2, 18)] hO (hz_X11_orders hT _ _ rfl) rfl rfl ?_
    refine v_load (v := (2, 49)) (hz_X5_becomeLike hT _ _ rfl) rfl rfl ?_
    refine v_load (v := (2, 18)) (hz_X5_becomeLike hT _ _ rfl) rfl rfl ?_
    refine v_getf (v := (0, z4)) (r := 18) (hz_X5_becomeLike hT _ _ rfl) rfl rfl (fun _ => Eq.trans (Eq.trans (zset_ne (fun c => absurd c.1 (by decide))) (Eq.trans (zset_ne (fun c => absurd c.1 (by decide))) (zset_ne (fun c => absurd c.1 (by decide))))) (sb4)) ?_
    refine v_putf (r := 49) hO (hz_X5_becomeLike hT _ _ rfl) rfl (fun hf10 => ?_)
    refine v_load (v := (2, 49)) (hz_X5_becomeLike hT _ _ rfl) rfl rfl ?_
    refine v_load (v := (2, 18)) (hz_X5_becomeLike hT _ _ rfl) rfl rfl ?_
    refine v_getf (v := (0, (s : Int))) (r := 18) (hz_X5_becomeLike hT _ _ rfl) rfl rfl (fun _ => Eq.trans (Eq.trans (zset_ne (fun c => absurd c.1 (by decide))) (Eq.trans (zset_ne (fun c => absurd c.1 (by decide))) (Eq.trans (zset_ne (fun c => absurd c.1 (by decide))) (zset_ne (fun c => absurd c.1 (by decide)))))) (sa4)) ?_
    refine v_putf (r := 49) hO (hz_X5_becomeLike hT _ _ rfl) rfl (fun hf11 => ?_)
    refine v_load (v := (2, 18)) (hz_X5_becomeLike hT _ _ rfl) rfl rfl ?_
    refine v_getR (c := 19) (r := 18) (hz_X5_becomeLike hT _ _ rfl) rfl rfl rfl ?_
    refine v_push (0) (hz_X5_becomeLike hT _ _ rfl) rfl ?_
    refine v_load (v := (2, 49)) (hz_X5_becomeLike hT _ _ rfl) rfl rfl ?_
    refine v_getR (c := 50) (r := 49) (hz_X5_becomeLike hT _ _ rfl) rfl rfl rfl ?_
    refine v_push (0) (hz_X5_becomeLike hT _ _ rfl) rfl ?_
    refine v_push (60) (hz_X5_becomeLike hT _ _ rfl) rfl ?_
    refine v_copy (r0 := 19) (r1 := 50) (hz_X5_becomeLike hT _ _ rfl) rfl rfl rfl rfl (fun hd12 hd13 hd14 hd15 hd16 => ?_)
    refine v_load (v := (2, 18)) (hz_X5_becomeLike hT _ _ rfl) rfl rfl ?_
    refine v_getR (c := 20) (r := 18) (hz_X5_becomeLike hT _ _ rfl) rfl rfl rfl ?_
    refine v_push (0) (hz_X5_becomeLike hT _ _ rfl) rfl ?_
    refine v_load (v := (2, 49)) (hz_X5_becomeLike hT _ _ rfl) rfl rfl ?_
    refine v_getR (c := 51) (r := 49) (hz_X5_becomeLike hT _ _ rfl) rfl rfl rfl ?_
    refine v_push (0) (hz_X5_becomeLike hT _ _ rfl) rfl ?_
    refine v_push (60) (hz_X5_becomeLike hT _ _ rfl) rfl ?_
    refine v_copy (r0 := 20) (r1 := 51) (hz_X5_becomeLike hT _ _ rfl) rfl rfl rfl rfl (fun hd17 hd18 hd19 hd20 hd21 => ?_)
    refine v_load (v := (2, 18)) (hz_X5_becomeLike hT _ _ rfl) rfl rfl ?_
    refine v_getR (c := 21) (r := 18) (hz_X5_becomeLike hT _ _ rfl) rfl rfl rfl ?_
    refine v_push (0) (hz_X5_becomeLike hT _ _ rfl) rfl ?_
    refine v_load (v := (2, 49)) (hz_X5_becomeLike hT _ _ rfl) rfl rfl ?_
    refine v_getR (c := 52) (r := 49) (hz_X5_becomeLike hT _ _ rfl) rfl rfl rfl ?_
    refine v_push (0) (hz_X5_becomeLike hT _ _ rfl) rfl ?_
    refine v_push (60) (hz_X5_becomeLike hT _ _ rfl) rfl ?_
    refine v_copy (r0 := 21) (r1 := 52) (hz_X5_becomeLike hT _ _ rfl) rfl rfl rfl rfl (fun hd22 hd23 hd24 hd25 hd26 => ?_)
    refine v_load (v := (2, 18)) (hz_X5_becomeLike hT _ _ rfl) rfl rfl ?_
    refine v_getR (c := 22) (r := 18) (hz_X5_becomeLike hT _ _ rfl) rfl rfl rfl ?_
    refine v_push (0) (hz_X5_becomeLike hT _ _ rfl) rfl ?_
    refine v_load (v := (2, 49)) (hz_X5_becomeLike hT _ _ rfl) rfl rfl ?_
    refine v_getR (c := 53) (r := 49) (hz_X5_becomeLike hT _ _ rfl) rfl rfl rfl ?_
    refine v_push (0) (hz_X5_becomeLike hT _ _ rfl) rfl ?_
    refine v_push (60) (hz_X5_becomeLike hT _ _ rfl) rfl ?_
    refine v_copy (r0 := 22) (r1 := 53) (hz_X5_becomeLike hT _ _ rfl) rfl rfl rfl rfl (fun hd27 hd28 hd29 hd30 hd31 => ?_)
    refine v_ret0 (hz_X5_becomeLike hT _ _ rfl) ?_
    show vP D T N 170 76 (zcopy (zcopy (zcopy (zcopy (zset (zset (zset (zset (zset g4 10 1 (0, 0)) 10 9 (0, 0)) 10 10 (0, -1)) 49 0 (0, z4)) 49 1 (0, (s : Int))) 19 0 50 0 60) 20 0 51 0 60) 21 0 52 0 60) 22 0 53 0 60) [some (2, 0), some (0, (n : Int)), some (0, 1)] [] _
    refine v_load (v := (2, 0)) (hz_X11_orders hT _ _ rfl) rfl rfl ?_
    refine v_load (v := (2, 0)) (hz_X11_orders hT _ _ rfl) rfl rfl ?_
    refine v_getf (v := (2, 39)) (r := 0) (hz_X11_orders hT _ _ rfl) rfl rfl (fun _ => Eq.trans (Eq.trans (vcopy_ne (fun c => absurd c.1 (by decide))) (Eq.trans (vcopy_ne (fun c => absurd c.1 (by decide))) (Eq.trans (vcopy_ne (fun c => absurd c.1 (by decide))) (Eq.trans (vcopy_ne (fun c => absurd c.1 (by decide))) (Eq.trans (zset_ne (fun c => absurd c.1 (by decide))) (Eq.trans (zset_ne (fun c => absurd c.1 (by decide))) (Eq.trans (zset_ne (fun c => absurd c.1 (by decide))) (Eq.trans (zset_ne (fun c => absurd c.1 (by decide))) (zset_ne (fun c => absurd c.1 (by decide))))))))))) ((Eq.trans (xf4 0 7 (fun c => by omega)) e7))) ?_
    refine v_getR (c := 49) (r := 39) (hz_X11_orders hT _ _ rfl) rfl rfl rfl ?_
    refine v_getf (v := (0, (s : Int))) (r := 49) (hz_X11_orders hT _ _ rfl) rfl rfl (fun _ => Eq.trans (Eq.trans (vcopy_ne (fun c => absurd c.1 (by decide))) (Eq.trans (vcopy_ne (fun c => absurd c.1 (by decide))) (Eq.trans (vcopy_ne (fun c => absurd c.1 (by decide))) (vcopy_ne (fun c => absurd c.1 (by decide)))))) zset_same) ?_
    refine v_call (w := 2) [some (2, 0), some (0, (s : Int))] hO (hz_X11_orders hT _ _ rfl) rfl rfl ?_
    refine v_load (v := (2, 0)) (hz_X11_answer hT _ _ rfl) rfl rfl ?_
    refine v_push (0) (hz_X11_answer hT _ _ rfl) rfl ?_
    refine v_putf (r := 0) hO (hz_X11_answer hT _ _ rfl) rfl (fun hf32 => ?_)
    refine v_load (v := (0, (s : Int))) (hz_X11_answer hT _ _ rfl) rfl rfl ?_
    refine v_ret (hz_X11_answer hT _ _ rfl) (Or.inl rfl) ?_
    show vP D T N 170 90 (zset (zcopy (zcopy (zcopy (zcopy (zset (zset (zset (zset (zset g4 10 1 (0, 0)) 10 9 (0, 0)) 10 10 (0, -1)) 49 0 (0, z4)) 49 1 (0, (s : Int))) 19 0 50 0 60) 20 0 51 0 60) 21 0 52 0 60) 22 0 53 0 60) 0 0 (0, 0)) [some (2, 0), some (0, (n : Int)), some (0, 1)] [(0, (s : Int))] _
    refine v_ret (hz_X11_orders hT _ _ rfl) (Or.inl rfl) ?_
    exact k0 g4 m τ s z4 xf4 hK4 q4 sa4 sb4 bz4 da4 db4
  · show vP D T N 170 40 g5 [some (2, 0), some (0, (n : Int)), none] [(0, 0)] _
    refine vP_hv (fun hv5 => ?_)
    refine v_store1 [some (2, 0), some (0, (n : Int)), some (0, 0)] (hz_X11_orders hT _ _ rfl) ⟨rfl, Nat.ne_of_beq_eq_false rfl⟩ (Nat.le_of_ble_eq_true rfl) rfl ?_
    refine v_load (v := (2, 0)) (hz_X11_orders hT _ _ rfl) rfl rfl ?_
    refine v_getR (c := 10) (r := 0) (hz_X11_orders hT _ _ rfl) rfl rfl rfl ?_
    refine v_call (w := 1) [some (2, 10)] hO (hz_X11_orders hT _ _ rfl) rfl rfl ?_
    refine v_load (v := (2, 10)) (hz_X8_finishText hT _ _ rfl) rfl rfl ?_
    refine v_push (0) (hz_X8_finishText hT _ _ rfl) rfl ?_
    refine v_putf (r := 10) hO (hz_X8_finishText hT _ _ rfl) rfl (fun hf33 => ?_)
    refine v_load (v := (2, 10)) (hz_X8_finishText hT _ _ rfl) rfl rfl ?_
    refine v_load (v := (2, 10)) (hz_X8_finishText hT _ _ rfl) rfl rfl ?_
    refine v_getf (v := (0, e5.1)) (r := 10) (hz_X8_finishText hT _ _ rfl) rfl rfl (fun _ => Eq.trans (zset_ne (fun c => absurd c.2 (by decide))) (c5.1)) ?_
    refine v_putf (r := 10) hO (hz_X8_finishText hT _ _ rfl) rfl (fun hf34 => ?_)
    refine v_load (v := (2, 10)) (hz_X8_finishText hT _ _ rfl) rfl rfl ?_
    refine v_load (v := (2, 10)) (hz_X8_finishText hT _ _ rfl) rfl rfl ?_
    refine v_getf (v := (0, e5.2)) (r := 10) (hz_X8_finishText hT _ _ rfl) rfl rfl (fun _ => Eq.trans (Eq.trans (zset_ne (fun c => absurd c.2 (by decide))) (zset_ne (fun c => absurd c.2 (by decide)))) (c5.2)) ?_
    refine v_putf (r := 10) hO (hz_X8_finishText hT _ _ rfl) rfl (fun hf35 => ?_)
    refine v_ret0 (hz_X8_finishText hT _ _ rfl) ?_
    show vP D T N 170 48 (zset (zset (zset g5 10 1 (0, 0)) 10 9 (0, e5.1)) 10 10 (0, e5.2)) [some (2, 0), some (0, (n : Int)), some (0, 0)] [] _
    refine v_load (v := (0, 0)) (hz_X11_orders hT _ _ rfl) rfl rfl ?_
    refine v_if (hz_X11_orders hT _ _ rfl) (fun _ => ?_) (fun hc36 => absurd (show (0 : Int) = 0 from (by omega)) hc36)
    refine v_load (v := (2, 0)) (hz_X11_orders hT _ _ rfl) rfl rfl ?_
    refine v_push (10) (hz_X11_orders hT _ _ rfl) rfl ?_
    refine v_call (w := 2) [some (2, 0), some (0, 10)] hO (hz_X11_orders hT _ _ rfl) rfl rfl ?_
    refine v_load (v := (2, 0)) (hz_X11_refused hT _ _ rfl) rfl rfl ?_
    refine v_load (v := (0, 10)) (hz_X11_refused hT _ _ rfl) rfl rfl ?_
    refine v_putf (r := 0) hO (hz_X11_refused hT _ _ rfl) rfl (fun hf37 => ?_)
    refine v_push (-1) (hz_X11_refused hT _ _ rfl) rfl ?_
    refine v_ret (hz_X11_refused hT _ _ rfl) (Or.inl rfl) ?_
    show vP D T N 170 58 (zset (zset (zset (zset g5 10 1 (0, 0)) 10 9 (0, e5.1)) 10 10 (0, e5.2)) 0 0 (0, 10)) [some (2, 0), some (0, (n : Int)), some (0, 0)] [(0, -1)] _
    refine v_ret (hz_X11_orders hT _ _ rfl) (Or.inl rfl) ?_
    exact k1 g5 m τ e5 xf5 hK5 q5 c5
theorem co_ord_39 {D : zD} {T : zT} (hT : hTab T) (hO : vOK T) {N : Nat} {h : zH} {B : Nat → Int} {n : Nat} {P : PT} (hB : TXc B n h) (hP : cP 39 P h) (hb : lB P) (e7 : h 0 7 = (2, 39)) (hn : (n : Int) ≤ (h 10 1).2) (hn3 : (n : Int) ≤ 300) : vP D T N 170 0 h [some (2, 0), some (0, (n : Int)), none] [] (cOd 39 B n P h) := by
  refine vP_hv (fun hv => qc_ord_39 hT hO hv hB hP hb e7 hn hn3 ?_ ?_)
  · intro g m τ s z xf hK q s1 s0 z0 d7 d8
    refine ⟨fun a b hn => ?_, m, τ, hK, Or.inr ⟨s, q, rfl, ?_, ?_, ?_, z, z0, ?_⟩⟩
    · show zset (zcopy (zcopy (zcopy (zcopy (zset (zset (zset (zset (zset g 10 1 (0, 0)) 10 9 (0, 0)) 10 10 (0, -1)) 49 0 (0, z)) 49 1 (0, (s : Int))) 19 0 50 0 60) 20 0 51 0 60) 21 0 52 0 60) 22 0 53 0 60) 0 0 (0, 0) a b = h a b
      rw [zset_ne (fun c => hn (by omega)), vcopy_ne (fun c => hn (by omega)), vcopy_ne (fun c => hn (by omega)), vcopy_ne (fun c => hn (by omega)), vcopy_ne (fun c => hn (by omega)), zset_ne (fun c => hn (by omega)), zset_ne (fun c => hn (by omega)), zset_ne (fun c => hn (by omega)), zset_ne (fun c => hn (by omega)), zset_ne (fun c => hn (by omega))]
      exact xf a b (fun c => hn (by omega))
    · dsimp only
      exact (zset_ne (by decide)).trans ((vcopy_ne (by decide)).trans ((vcopy_ne (by decide)).trans ((vcopy_ne (by decide)).trans ((vcopy_ne (by decide)).trans ((zset_ne (by decide)).trans ((zset_ne (by decide)).trans ((zset_ne (by decide)).trans zset_same)))))))
    · dsimp only
      exact (zset_ne (by decide)).trans ((vcopy_ne (by decide)).trans ((vcopy_ne (by decide)).trans ((vcopy_ne (by decide)).trans ((vcopy_ne (by decide)).trans ((zset_ne (by decide)).trans ((zset_ne (by decide)).trans zset_same))))))
    · dsimp only
      exact (zset_ne (by decide)).trans ((vcopy_ne (by decide)).trans ((vcopy_ne (by decide)).trans ((vcopy_ne (by decide)).trans ((vcopy_ne (by decide)).trans zset_same))))
    · dsimp only
      exact (zset_ne (by decide)).trans ((vcopy_ne (by decide)).trans ((vcopy_ne (by decide)).trans ((vcopy_ne (by decide)).trans ((vcopy_ne (by decide)).trans ((zset_ne (by decide)).trans zset_same)))))
  · intro g m τ e xf hK q c
    refine ⟨fun a b hn => ?_, m, τ, hK, Or.inl ⟨e, q, rfl, ?_, ?_, ?_⟩⟩
    · show zset (zset (zset (zset g 10 1 (0, 0)) 10 9 (0, e.1)) 10 10 (0, e.2)) 0 0 (0, 10) a b = h a b
      rw [zset_ne (fun c => hn (by omega)), zset_ne (fun c => hn (by omega)), zset_ne (fun c => hn (by omega)), zset_ne (fun c => hn (by omega))]
      exact xf a b (fun c => hn (by omega))
    · dsimp only
      exact (zset_ne (by decide)).trans ((zset_ne (by decide)).trans zset_same)
    · dsimp only
      exact (zset_ne (by decide)).trans zset_same
    · intro j
      show zset (zset (zset (zset g 10 1 (0, 0)) 10 9 (0, e.1)) 10 10 (0, e.2)) 0 0 (0, 10) 49 j = h 49 j
      rw [zset_ne (by omega), zset_ne (by omega), zset_ne (by omega), zset_ne (by omega)]
      exact xf 49 j (fun c => by omega)
