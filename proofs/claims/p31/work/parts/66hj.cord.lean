theorem co7_8_24 {D : zD} {T : zT} (hT : hTab T) (hO : vOK T) {N : Nat} {h : zH} {Q : zR → Prop} {B : Nat → Int} {n m i s d : Nat} {τ P : PT} (w x z : Int) (o : Option zV) (hv0 : zHv h) (hX : cX B n m τ i h) (hK : Tks B n m τ) (hP : cP 24 P h) (hb : (0 ≤ P 0 0 ∧ P 0 0 ≤ 8) ∧ (0 ≤ P 0 1 ∧ P 0 1 ≤ 6) ∧ (0 ≤ P 0 2 ∧ P 0 2 ≤ 3) ∧ (0 ≤ P 0 3 ∧ P 0 3 ≤ 6)) (hl : h 17 2 = (2, 24)) (hs : h 18 1 = (0, (s : Int))) (hd : h 17 4 = (0, (d : Int))) (hz : h 18 0 = (0, z)) (bs : s ≤ 30) (bd : d ≤ 3) (bz : 0 ≤ z) (bzd : z + d ≤ 2 * s) (ho : ∀ e : Nat, e < d → 0 ≤ (h 23 e).2 ∧ (h 23 e).2 < z) (hx : 0 ≤ x ∧ x < 900) (h0 : τ 0 i ≠ 0) (h1 : τ 0 i = 1) (h3 : τ 3 i = 8) (ih : ∀ g s' d' i' a b z' o' K u v j, pStep τ P s d i = .inr (s', d', i') → cX B n m τ i' g → cP 24 P g → g 17 2 = (2, 24) → g 18 1 = (0, a) → a = (s' : Int) → g 17 4 = (0, b) → b = (d' : Int) → g 18 0 = (0, z') → s' ≤ 30 ∧ d' ≤ 3 ∧ 0 ≤ z' ∧ z' + d' ≤ 2 * s' → (∀ e : Nat, e < d' → 0 ≤ (g 23 e).2 ∧ (g 23 e).2 < z') → oFr h g → z' = z + 1 → pItV τ P i = .inr (K, u, v, j) → oW4 h g z K u v → (∀ e, g 23 e = h 23 e) → vP D T N 88 27 g [some (2, 17), some (2, 24), some (0, w), some (0, (x + 1)), o'] [] Q) (er : ∀ g e, pStep τ P s d i = .inl e → cB e g → oFr h g → Q (g, some (0, 0))) :
    vP D T (N + 1) 88 27 h [some (2, 17), some (2, 24), some (0, w), some (0, x), o] [] Q := by
  have hEn : (bEn τ i) = 0 := bEn_n h0
  have hE : (bW τ 20 i) = 0 := bW_0.mpr (fun c => absurd (h3.symm.trans c.2) (by decide))
  have hsw : ¬ swd τ i < 0 := by rw [swd_v h1, h3]; decide
  have hop : opW (τ 3 i) = false := by rw [h3]; rfl
  have h15 : ¬ τ 3 i = 15 := by rw [h3]; decide
  have harg : ∀ j, oArg τ P (τ 3 i) j = (eb (pNum τ 0 (P 0 2 - 1) j) fun a => eb (pWord τ 6 a.2) fun j => eb (pCell τ (P 0 0) (P 0 1) j) fun c => .inr c.2.2) := fun j => by rw [h3]; rfl
  have hargV : ∀ j, oArV τ P 8 j = (eb (pNum τ 0 (P 0 2 - 1) j) fun a => eb (pWord τ 6 a.2) fun j => eb (pCell τ (P 0 0) (P 0 1) j) fun c => .inr (a.1, c.2.1 * 8 + c.1, c.2.2)) := fun _ => rfl
  refine v_loadS (v := (0, x)) (hi_X6_readText_27 hT) rfl rfl ?_
  refine v_push (900) (hi_X6_readText_28 hT) rfl ?_
  refine v_ic (hi_X6_readText_31 hT) (fun _ => ?_) (fun hc1 => absurd (show x < 900 from hx.2) hc1)
  refine v_load (v := (2, 17)) (hi_X6_readText_34 hT) rfl rfl ?_
  refine v_getR (c := 10) (r := 17) (hi_X6_readText_35 hT) rfl rfl rfl ?_
  refine v_call (w := 1) [some (2, 10)] hO (hi_X6_readText_38 hT) rfl rfl (cx_isEnd hT hO hX ?_)
  show vP D T N 88 41 h [some (2, 17), some (2, 24), some (0, w), some (0, x), o] [(0, (bEn τ i))] _
  refine v_if (hi_X6_readText_41 hT) (fun _ => ?_) (fun hc2 => absurd (show (bEn τ i) = 0 from hEn) hc2)
  refine v_load (v := (2, 17)) (hi_X6_readText_44 hT) rfl rfl ?_
  refine v_getR (c := 10) (r := 17) (hi_X6_readText_45 hT) rfl rfl rfl ?_
  refine v_push (20) (hi_X6_readText_48 hT) rfl ?_
  refine v_call (w := 2) [some (2, 10), some (0, 20)] hO (hi_X6_readText_50 hT) rfl rfl (cx_isWord hT hO 20 hX ?_)
  show vP D T N 88 53 h [some (2, 17), some (2, 24), some (0, w), some (0, x), o] [(0, (bW τ 20 i))] _
  refine v_if (hi_X6_readText_53 hT) (fun _ => ?_) (fun hc3 => absurd (show (bW τ 20 i) = 0 from hE) hc3)
  refine v_load (v := (2, 17)) (hi_X6_readText_63 hT) rfl rfl ?_
  refine v_call (w := 3) [some (2, 17), none, none] hO (hi_X6_readText_64 hT) rfl rfl ?_
  refine v_load (v := (2, 17)) (hi_X6_mayBegin_0 hT) rfl rfl ?_
  refine v_getR (c := 10) (r := 17) (hi_X6_mayBegin_1 hT) rfl rfl rfl ?_
  refine v_call (w := 1) [some (2, 10)] hO (hi_X6_mayBegin_4 hT) rfl rfl (cx_wordK hT hO 8 hX h1 h3 ?_)
  show vP D T N 81 7 h [some (2, 17), none, none] [(0, 8)] _
  refine v_store1 [some (2, 17), some (0, 8), none] (hi_X6_mayBegin_7 hT) ⟨rfl, Nat.ne_of_beq_eq_false rfl⟩ (Nat.le_of_ble_eq_true rfl) rfl ?_
  refine v_load (v := (0, 8)) (hi_X6_mayBegin_8 hT) rfl rfl ?_
  refine v_push (15) (hi_X6_mayBegin_9 hT) rfl ?_
  refine v_ic (hi_X6_mayBegin_11 hT) (fun hc4 => absurd (show (8 : Int) = 15 from hc4) (by decide)) (fun _ => ?_)
  refine v_load (v := (0, 8)) (hi_X6_mayBegin_14 hT) rfl rfl ?_
  refine v_push (19) (hi_X6_mayBegin_15 hT) rfl ?_
  refine v_ic (hi_X6_mayBegin_17 hT) (fun hc5 => absurd (show (8 : Int) = 19 from hc5) (by decide)) (fun _ => ?_)
  refine v_push (0) (hi_X6_mayBegin_24 hT) rfl ?_
  refine v_store1 [some (2, 17), some (0, 8), some (0, 0)] (hi_X6_mayBegin_25 hT) ⟨rfl, Nat.ne_of_beq_eq_false rfl⟩ (Nat.le_of_ble_eq_true rfl) rfl ?_
  refine v_load (v := (0, 0)) (hi_X6_mayBegin_26 hT) rfl rfl ?_
  refine v_if (hi_X6_mayBegin_27 hT) (fun _ => ?_) (fun hc6 => absurd (show (0 : Int) = 0 from (by decide)) hc6)
  refine v_load (v := (0, 8)) (hi_X6_mayBegin_30 hT) rfl rfl ?_
  refine v_push (8) (hi_X6_mayBegin_31 hT) rfl ?_
  refine v_ic (hi_X6_mayBegin_33 hT) (fun hc7 => absurd (show (8 : Int) < 8 from hc7) (by decide)) (fun _ => ?_)
  refine v_load (v := (0, 8)) (hi_X6_mayBegin_36 hT) rfl rfl ?_
  refine v_push (14) (hi_X6_mayBegin_37 hT) rfl ?_
  refine v_ic (hi_X6_mayBegin_39 hT) (fun hc8 => absurd (show 14 < (8 : Int) from hc8) (by decide)) (fun _ => ?_)
  refine v_load (v := (2, 17)) (hi_X6_mayBegin_57 hT) rfl rfl ?_
  refine v_getR (c := 18) (r := 17) (hi_X6_mayBegin_58 hT) rfl rfl rfl ?_
  refine v_getf (v := (0, (s : Int))) (r := 18) (hi_X6_mayBegin_61 hT) rfl rfl (fun _ => hs) ?_
  refine v_push (30) (hi_X6_mayBegin_64 hT) rfl ?_
  refine v_ic (hi_X6_mayBegin_66 hT) (fun hc9 => ?_) (fun hc9 => ?_)
  · have hc9 : (s : Int) < 30 := hc9
    refine v_load (v := (0, 0)) (hi_X6_mayBegin_79 hT) rfl rfl ?_
    refine v_if (hi_X6_mayBegin_80 hT) (fun _ => ?_) (fun hc10 => absurd (show (0 : Int) = 0 from (by decide)) hc10)
    refine v_push (1) (hi_X6_mayBegin_101 hT) rfl ?_
    refine v_ret (hi_X6_mayBegin_102 hT) (Or.inl rfl) ?_
    show vP D T N 88 67 h [some (2, 17), some (2, 24), some (0, w), some (0, x), o] [(0, 1)] _
    refine v_if (hi_X6_readText_67 hT) (fun hc11 => absurd (show (1 : Int) = 0 from hc11) (by decide)) (fun _ => ?_)
    refine v_load (v := (2, 17)) (hi_X6_readText_70 hT) rfl rfl ?_
    refine v_load (v := (2, 17)) (hi_X6_readText_71 hT) rfl rfl ?_
    refine v_call (w := 3) [some (2, 17), none, none] hO (hi_X6_readText_72 hT) rfl rfl ?_
    refine v_load (v := (2, 17)) (hi_X6_beginStep_0 hT) rfl rfl ?_
    refine v_getR (c := 10) (r := 17) (hi_X6_beginStep_1 hT) rfl rfl rfl ?_
    refine v_call (w := 1) [some (2, 10)] hO (hi_X6_beginStep_4 hT) rfl rfl (cx_wordK hT hO 8 hX h1 h3 ?_)
    show vP D T N 80 7 h [some (2, 17), none, none] [(0, 8)] _
    refine v_store1 [some (2, 17), some (0, 8), none] (hi_X6_beginStep_7 hT) ⟨rfl, Nat.ne_of_beq_eq_false rfl⟩ (Nat.le_of_ble_eq_true rfl) rfl ?_
    refine v_load (v := (2, 17)) (hi_X6_beginStep_8 hT) rfl rfl ?_
    refine v_getR (c := 10) (r := 17) (hi_X6_beginStep_9 hT) rfl rfl rfl ?_
    refine v_call (w := 1) [some (2, 10)] hO (hi_X6_beginStep_12 hT) rfl rfl (cx_adv hT hO hX (ne_10 h1) (ne_14 h1) (fun g12 ft12 hX12 => ?_))
    · show vP D T N 80 15 g12 [some (2, 17), some (0, 8), none] [] _
      refine vP_hv (fun hv12 => ?_)
      refine v_load (v := (0, 8)) (hi_X6_beginStep_15 hT) rfl rfl ?_
      refine v_push (15) (hi_X6_beginStep_16 hT) rfl ?_
      refine v_ic (hi_X6_beginStep_18 hT) (fun hc13 => absurd (show (8 : Int) = 15 from hc13) (by decide)) (fun _ => ?_)
      refine v_load (v := (0, 8)) (hi_X6_beginStep_21 hT) rfl rfl ?_
      refine v_push (19) (hi_X6_beginStep_22 hT) rfl ?_
      refine v_ic (hi_X6_beginStep_24 hT) (fun hc14 => absurd (show (8 : Int) = 19 from hc14) (by decide)) (fun _ => ?_)
      refine v_load (v := (0, 8)) (hi_X6_beginStep_61 hT) rfl rfl ?_
      refine v_push (15) (hi_X6_beginStep_62 hT) rfl ?_
      refine v_ic (hi_X6_beginStep_64 hT) (fun hc15 => absurd (show (8 : Int) = 15 from hc15) (by decide)) (fun _ => ?_)
      refine v_load (v := (0, 8)) (hi_X6_beginStep_67 hT) rfl rfl ?_
      refine v_ret (hi_X6_beginStep_68 hT) (Or.inl rfl) ?_
      show vP D T N 88 75 g12 [some (2, 17), some (2, 24), some (0, w), some (0, x), o] [(0, 8), (2, 17)] _
      refine v_call (w := 2) [some (2, 17), some (0, 8)] hO (hi_X6_readText_75 hT) rfl rfl ?_
      refine v_load (v := (0, 8)) (hi_X6_readStep_0 hT) rfl rfl ?_
      refine v_sw (hi_X6_readStep_1 hT) ?_
      refine ⟨fun c => absurd c (by decide), fun _ => ?_⟩
      refine ⟨fun c => absurd c (by decide), fun _ => ?_⟩
      refine ⟨fun c => absurd c (by decide), fun _ => ?_⟩
      refine ⟨fun c => absurd c (by decide), fun _ => ?_⟩
      refine ⟨fun c => absurd c (by decide), fun _ => ?_⟩
      refine ⟨fun c => absurd c (by decide), fun _ => ?_⟩
      refine ⟨fun c => absurd c (by decide), fun _ => ?_⟩
      refine ⟨fun c => absurd c (by decide), fun _ => ?_⟩
      refine ⟨fun c => absurd c (by decide), fun _ => ?_⟩
      refine ⟨fun _ => ?_, fun c => absurd rfl c⟩
      refine v_load (v := (2, 17)) (hi_X6_readStep_102 hT) rfl rfl ?_
      refine v_load (v := (0, 8)) (hi_X6_readStep_103 hT) rfl rfl ?_
      refine v_call (w := 3) [some (2, 17), some (0, 8), none] hO (hi_X6_readStep_104 hT) rfl rfl ?_
      refine v_load (v := (2, 17)) (hi_X6_readCopyCell_0 hT) rfl rfl ?_
      refine v_getR (c := 10) (r := 17) (hi_X6_readCopyCell_1 hT) rfl rfl rfl ?_
      refine v_push (0) (hi_X6_readCopyCell_4 hT) rfl ?_
      refine v_load (v := (2, 17)) (hi_X6_readCopyCell_5 hT) rfl rfl ?_
      refine v_getf (v := (2, 24)) (r := 17) (hi_X6_readCopyCell_6 hT) rfl rfl (fun _ => (Eq.trans (ft12 17 2 (by first | decide | exact fun c => by omega)) hl)) ?_
      refine v_getf (v := (0, (P 0 2))) (r := 24) (hi_X6_readCopyCell_9 hT) rfl rfl (fun _ => (Eq.trans (ft12 24 2 (by first | decide | exact fun c => by omega)) hP.1.2.2.1)) ?_
      refine v_push (1) (hi_X6_readCopyCell_12 hT) rfl ?_
      refine v_bin (w := ((P 0 2) - 1)) (hi_X6_readCopyCell_13 hT) (hq_sub (by omega) (by omega)) ?_
      refine v_call (w := 4) [some (2, 10), some (0, 0), some (0, ((P 0 2) - 1)), none] hO (hi_X6_readCopyCell_14 hT) rfl rfl (cx_num hT hO 0 (((P 0 2) - 1)) hX12 (fun g17 x16 ft17 q17 bux16 bvx16 hX17 => ?_) (fun g18 e18 ft18 q18 c18 => ?_))
      · show vP D T N 83 17 g17 [some (2, 17), some (0, 8), none] [(0, x16)] _
        refine vP_hv (fun hv17 => ?_)
        refine v_store1 [some (2, 17), some (0, 8), some (0, x16)] (hi_X6_readCopyCell_17 hT) ⟨rfl, Nat.ne_of_beq_eq_false rfl⟩ (Nat.le_of_ble_eq_true rfl) rfl ?_
        refine v_load (v := (0, x16)) (hi_X6_readCopyCell_18 hT) rfl rfl ?_
        refine v_push (-1) (hi_X6_readCopyCell_19 hT) rfl ?_
        refine v_ic (hi_X6_readCopyCell_20 hT) (fun hc19 => absurd (show x16 = -1 from hc19) (by omega)) (fun _ => ?_)
        refine v_load (v := (2, 17)) (hi_X6_readCopyCell_23 hT) rfl rfl ?_
        refine v_getR (c := 10) (r := 17) (hi_X6_readCopyCell_24 hT) rfl rfl rfl ?_
        refine v_push (6) (hi_X6_readCopyCell_27 hT) rfl ?_
        refine v_call (w := 2) [some (2, 10), some (0, 6)] hO (hi_X6_readCopyCell_29 hT) rfl rfl (cx_word hT hO 6 hX17 (fun g20 ft20 q20 hX20 => ?_) (fun g21 e21 ft21 q21 c21 => ?_))
        · show vP D T N 83 32 g20 [some (2, 17), some (0, 8), some (0, x16)] [(0, 1)] _
          refine vP_hv (fun hv20 => ?_)
          refine v_if (hi_X6_readCopyCell_32 hT) (fun hc22 => absurd (show (1 : Int) = 0 from hc22) (by decide)) (fun _ => ?_)
          refine v_load (v := (2, 17)) (hi_X6_readCopyCell_37 hT) rfl rfl ?_
          refine v_load (v := (0, 8)) (hi_X6_readCopyCell_38 hT) rfl rfl ?_
          refine v_load (v := (0, x16)) (hi_X6_readCopyCell_39 hT) rfl rfl ?_
          refine v_load (v := (2, 17)) (hi_X6_readCopyCell_40 hT) rfl rfl ?_
          refine v_getR (c := 10) (r := 17) (hi_X6_readCopyCell_41 hT) rfl rfl rfl ?_
          refine v_load (v := (2, 17)) (hi_X6_readCopyCell_44 hT) rfl rfl ?_
          refine v_getf (v := (2, 24)) (r := 17) (hi_X6_readCopyCell_45 hT) rfl rfl (fun _ => (Eq.trans (ft20 17 2 (by first | decide | exact fun c => by omega)) (Eq.trans (ft17 17 2 (by first | decide | exact fun c => by omega)) (Eq.trans (ft12 17 2 (by first | decide | exact fun c => by omega)) hl)))) ?_
          refine v_call (w := 4) [some (2, 10), some (2, 24), none, none] hO (hi_X6_readCopyCell_48 hT) rfl rfl (cx_cell_24 hT hO ((P 0 0)) ((P 0 1)) hX20 (Eq.trans (ft20 24 0 (by first | decide | exact fun c => by omega)) (Eq.trans (ft17 24 0 (by first | decide | exact fun c => by omega)) (Eq.trans (ft12 24 0 (by first | decide | exact fun c => by omega)) hP.1.1))) (Eq.trans (ft20 24 1 (by first | decide | exact fun c => by omega)) (Eq.trans (ft17 24 1 (by first | decide | exact fun c => by omega)) (Eq.trans (ft12 24 1 (by first | decide | exact fun c => by omega)) hP.1.2.1))) (by omega) (by omega) (fun g24 x23 y23 ft24 q24 bax23 bbx23 bcx23 bdx23 hX24 => ?_) (fun g25 e25 ft25 q25 c25 => ?_))
          · show vP D T N 83 51 g24 [some (2, 17), some (0, 8), some (0, x16)] [(0, (y23 * 8 + x23)), (0, x16), (0, 8), (2, 17)] _
            refine vP_hv (fun hv24 => ?_)
            refine v_call (w := 4) [some (2, 17), some (0, 8), some (0, x16), some (0, (y23 * 8 + x23))] hO (hi_X6_readCopyCell_51 hT) rfl rfl ?_
            refine v_load (v := (0, x16)) (hi_X6_readTwo_0 hT) rfl rfl ?_
            refine v_push (-1) (hi_X6_readTwo_1 hT) rfl ?_
            refine v_ic (hi_X6_readTwo_2 hT) (fun hc26 => absurd (show x16 = -1 from hc26) (by omega)) (fun _ => ?_)
            refine v_load (v := (0, (y23 * 8 + x23))) (hi_X6_readTwo_5 hT) rfl rfl ?_
            refine v_push (-1) (hi_X6_readTwo_6 hT) rfl ?_
            refine v_ic (hi_X6_readTwo_7 hT) (fun hc27 => absurd (show (y23 * 8 + x23) = -1 from hc27) (by omega)) (fun _ => ?_)
            refine v_load (v := (2, 17)) (hi_X6_readTwo_10 hT) rfl rfl ?_
            refine v_getR (c := 18) (r := 17) (hi_X6_readTwo_11 hT) rfl rfl rfl ?_
            refine v_load (v := (0, 8)) (hi_X6_readTwo_14 hT) rfl rfl ?_
            refine v_load (v := (0, x16)) (hi_X6_readTwo_15 hT) rfl rfl ?_
            refine v_load (v := (0, (y23 * 8 + x23))) (hi_X6_readTwo_16 hT) rfl rfl ?_
            refine v_call (w := 4) [some (2, 18), some (0, 8), some (0, x16), some (0, (y23 * 8 + x23))] hO (hi_X6_readTwo_17 hT) rfl rfl ?_
            refine v_load (v := (2, 18)) (hi_X5_add_0 hT) rfl rfl ?_
            refine v_getf (v := (0, z)) (r := 18) (hi_X5_add_1 hT) rfl rfl (fun _ => (Eq.trans (ft24 18 0 (by first | decide | exact fun c => by omega)) (Eq.trans (ft20 18 0 (by first | decide | exact fun c => by omega)) (Eq.trans (ft17 18 0 (by first | decide | exact fun c => by omega)) (Eq.trans (ft12 18 0 (by first | decide | exact fun c => by omega)) hz))))) ?_
            refine v_if (hi_X5_add_4 hT) (fun hc28 => absurd (show z < 0 from hc28) (by omega)) (fun _ => ?_)
            refine v_load (v := (2, 18)) (hi_X5_add_7 hT) rfl rfl ?_
            refine v_getf (v := (0, z)) (r := 18) (hi_X5_add_8 hT) rfl rfl (fun _ => (Eq.trans (ft24 18 0 (by first | decide | exact fun c => by omega)) (Eq.trans (ft20 18 0 (by first | decide | exact fun c => by omega)) (Eq.trans (ft17 18 0 (by first | decide | exact fun c => by omega)) (Eq.trans (ft12 18 0 (by first | decide | exact fun c => by omega)) hz))))) ?_
            refine v_push (60) (hi_X5_add_11 hT) rfl ?_
            refine v_ic (hi_X5_add_13 hT) (fun _ => ?_) (fun hc29 => absurd (show z < 60 from (by omega)) hc29)
            refine v_load (v := (2, 18)) (hi_X5_add_18 hT) rfl rfl ?_
            refine v_getR (c := 19) (r := 18) (hi_X5_add_19 hT) rfl rfl rfl ?_
            refine v_load (v := (2, 18)) (hi_X5_add_22 hT) rfl rfl ?_
            refine v_getf (v := (0, z)) (r := 18) (hi_X5_add_23 hT) rfl rfl (fun _ => (Eq.trans (ft24 18 0 (by first | decide | exact fun c => by omega)) (Eq.trans (ft20 18 0 (by first | decide | exact fun c => by omega)) (Eq.trans (ft17 18 0 (by first | decide | exact fun c => by omega)) (Eq.trans (ft12 18 0 (by first | decide | exact fun c => by omega)) hz))))) ?_
            refine v_load (v := (0, 8)) (hi_X5_add_26 hT) rfl rfl ?_
            refine v_ast (r := 19) (hi_X5_add_27 hT) rfl rfl (fun ha30 hb31 hf32 => ?_)
            refine v_load (v := (2, 18)) (hi_X5_add_28 hT) rfl rfl ?_
            refine v_getR (c := 20) (r := 18) (hi_X5_add_29 hT) rfl rfl rfl ?_
            refine v_load (v := (2, 18)) (hi_X5_add_32 hT) rfl rfl ?_
            refine v_getf (v := (0, z)) (r := 18) (hi_X5_add_33 hT) rfl rfl (fun _ => Eq.trans (zset_ne (fun c => absurd c.1 (by decide))) ((Eq.trans (ft24 18 0 (by first | decide | exact fun c => by omega)) (Eq.trans (ft20 18 0 (by first | decide | exact fun c => by omega)) (Eq.trans (ft17 18 0 (by first | decide | exact fun c => by omega)) (Eq.trans (ft12 18 0 (by first | decide | exact fun c => by omega)) hz)))))) ?_
            refine v_load (v := (0, x16)) (hi_X5_add_36 hT) rfl rfl ?_
            refine v_ast (r := 20) (hi_X5_add_37 hT) rfl rfl (fun ha33 hb34 hf35 => ?_)
            refine v_load (v := (2, 18)) (hi_X5_add_38 hT) rfl rfl ?_
            refine v_getR (c := 21) (r := 18) (hi_X5_add_39 hT) rfl rfl rfl ?_
            refine v_load (v := (2, 18)) (hi_X5_add_42 hT) rfl rfl ?_
            refine v_getf (v := (0, z)) (r := 18) (hi_X5_add_43 hT) rfl rfl (fun _ => Eq.trans (Eq.trans (zset_ne (fun c => absurd c.1 (by decide))) (zset_ne (fun c => absurd c.1 (by decide)))) ((Eq.trans (ft24 18 0 (by first | decide | exact fun c => by omega)) (Eq.trans (ft20 18 0 (by first | decide | exact fun c => by omega)) (Eq.trans (ft17 18 0 (by first | decide | exact fun c => by omega)) (Eq.trans (ft12 18 0 (by first | decide | exact fun c => by omega)) hz)))))) ?_
            refine v_load (v := (0, (y23 * 8 + x23))) (hi_X5_add_46 hT) rfl rfl ?_
            refine v_ast (r := 21) (hi_X5_add_47 hT) rfl rfl (fun ha36 hb37 hf38 => ?_)
            refine v_load (v := (2, 18)) (hi_X5_add_48 hT) rfl rfl ?_
            refine v_getR (c := 22) (r := 18) (hi_X5_add_49 hT) rfl rfl rfl ?_
            refine v_load (v := (2, 18)) (hi_X5_add_52 hT) rfl rfl ?_
            refine v_getf (v := (0, z)) (r := 18) (hi_X5_add_53 hT) rfl rfl (fun _ => Eq.trans (Eq.trans (zset_ne (fun c => absurd c.1 (by decide))) (Eq.trans (zset_ne (fun c => absurd c.1 (by decide))) (zset_ne (fun c => absurd c.1 (by decide))))) ((Eq.trans (ft24 18 0 (by first | decide | exact fun c => by omega)) (Eq.trans (ft20 18 0 (by first | decide | exact fun c => by omega)) (Eq.trans (ft17 18 0 (by first | decide | exact fun c => by omega)) (Eq.trans (ft12 18 0 (by first | decide | exact fun c => by omega)) hz)))))) ?_
            refine v_push (-1) (hi_X5_add_56 hT) rfl ?_
            refine v_ast (r := 22) (hi_X5_add_57 hT) rfl rfl (fun ha39 hb40 hf41 => ?_)
            refine v_load (v := (2, 18)) (hi_X5_add_58 hT) rfl rfl ?_
            refine v_dup (hi_X5_add_59 hT) (Nat.ne_of_beq_eq_false rfl) ?_
            refine v_getf (v := (0, z)) (r := 18) (hi_X5_add_60 hT) rfl rfl (fun _ => Eq.trans (Eq.trans (zset_ne (fun c => absurd c.1 (by decide))) (Eq.trans (zset_ne (fun c => absurd c.1 (by decide))) (Eq.trans (zset_ne (fun c => absurd c.1 (by decide))) (zset_ne (fun c => absurd c.1 (by decide)))))) ((Eq.trans (ft24 18 0 (by first | decide | exact fun c => by omega)) (Eq.trans (ft20 18 0 (by first | decide | exact fun c => by omega)) (Eq.trans (ft17 18 0 (by first | decide | exact fun c => by omega)) (Eq.trans (ft12 18 0 (by first | decide | exact fun c => by omega)) hz)))))) ?_
            refine v_push (1) (hi_X5_add_63 hT) rfl ?_
            refine v_bin (w := (z + 1)) (hi_X5_add_64 hT) (hq_add (by omega) (by omega)) ?_
            refine v_putf (r := 18) hO (hi_X5_add_65 hT) rfl (fun hf42 => ?_)
            refine v_load (v := (2, 18)) (hi_X5_add_68 hT) rfl rfl ?_
            refine v_dup (hi_X5_add_69 hT) (Nat.ne_of_beq_eq_false rfl) ?_
            refine v_getf (v := (0, (s : Int))) (r := 18) (hi_X5_add_70 hT) rfl rfl (fun _ => Eq.trans (Eq.trans (zset_ne (fun c => absurd c.2 (by decide))) (Eq.trans (zset_ne (fun c => absurd c.1 (by decide))) (Eq.trans (zset_ne (fun c => absurd c.1 (by decide))) (Eq.trans (zset_ne (fun c => absurd c.1 (by decide))) (zset_ne (fun c => absurd c.1 (by decide))))))) ((Eq.trans (ft24 18 1 (by first | decide | exact fun c => by omega)) (Eq.trans (ft20 18 1 (by first | decide | exact fun c => by omega)) (Eq.trans (ft17 18 1 (by first | decide | exact fun c => by omega)) (Eq.trans (ft12 18 1 (by first | decide | exact fun c => by omega)) hs)))))) ?_
            refine v_push (1) (hi_X5_add_73 hT) rfl ?_
            refine v_bin (w := ((s : Int) + 1)) (hi_X5_add_74 hT) (hq_add (by omega) (by omega)) ?_
            refine v_putf (r := 18) hO (hi_X5_add_75 hT) rfl (fun hf43 => ?_)
            refine v_push (1) (hi_X5_add_78 hT) rfl ?_
            refine v_ret (hi_X5_add_79 hT) (Or.inl rfl) ?_
            show vP D T N 89 20 (zset (zset (zset (zset (zset (zset g24 19 z.toNat (0, 8)) 20 z.toNat (0, x16)) 21 z.toNat (0, (y23 * 8 + x23))) 22 z.toNat (0, -1)) 18 0 (0, (z + 1))) 18 1 (0, ((s : Int) + 1))) [some (2, 17), some (0, 8), some (0, x16), some (0, (y23 * 8 + x23))] [(0, 1)] _
            refine v_if (hi_X6_readTwo_20 hT) (fun hc44 => absurd (show (1 : Int) = 0 from hc44) (by decide)) (fun _ => ?_)
            refine v_push (1) (hi_X6_readTwo_23 hT) rfl ?_
            refine v_goto (hi_X6_readTwo_24 hT) ?_
            refine v_ret (hi_X6_readTwo_28 hT) (Or.inl rfl) ?_
            show vP D T N 83 54 (zset (zset (zset (zset (zset (zset g24 19 z.toNat (0, 8)) 20 z.toNat (0, x16)) 21 z.toNat (0, (y23 * 8 + x23))) 22 z.toNat (0, -1)) 18 0 (0, (z + 1))) 18 1 (0, ((s : Int) + 1))) [some (2, 17), some (0, 8), some (0, x16)] [(0, 1)] _
            refine v_ret (hi_X6_readCopyCell_54 hT) (Or.inl rfl) ?_
            show vP D T N 87 107 (zset (zset (zset (zset (zset (zset g24 19 z.toNat (0, 8)) 20 z.toNat (0, x16)) 21 z.toNat (0, (y23 * 8 + x23))) 22 z.toNat (0, -1)) 18 0 (0, (z + 1))) 18 1 (0, ((s : Int) + 1))) [some (2, 17), some (0, 8)] [(0, 1)] _
            refine v_ret (hi_X6_readStep_107 hT) (Or.inl rfl) ?_
            show vP D T N 88 78 (zset (zset (zset (zset (zset (zset g24 19 z.toNat (0, 8)) 20 z.toNat (0, x16)) 21 z.toNat (0, (y23 * 8 + x23))) 22 z.toNat (0, -1)) 18 0 (0, (z + 1))) 18 1 (0, ((s : Int) + 1))) [some (2, 17), some (2, 24), some (0, w), some (0, x), o] [(0, 1)] _
            refine v_if (hi_X6_readText_78 hT) (fun hc45 => absurd (show (1 : Int) = 0 from hc45) (by decide)) (fun _ => ?_)
            refine v_push (1) (hi_X6_readText_81 hT) rfl ?_
            refine v_goto (hi_X6_readText_82 hT) ?_
            refine v_store1 [some (2, 17), some (2, 24), some (0, w), some (0, x), some (0, 1)] (hi_X6_readText_86 hT) ⟨rfl, Nat.ne_of_beq_eq_false rfl⟩ (Nat.le_of_ble_eq_true rfl) rfl ?_
            refine v_load (v := (0, 1)) (hi_X6_readText_88 hT) rfl rfl ?_
            refine v_if (hi_X6_readText_90 hT) (fun hc46 => absurd (show (1 : Int) = 0 from hc46) (by decide)) (fun _ => ?_)
            refine v_load (v := (2, 17)) (hi_X6_readText_93 hT) rfl rfl ?_
            refine v_getR (c := 10) (r := 17) (hi_X6_readText_94 hT) rfl rfl rfl ?_
            refine v_call (w := 1) [some (2, 10)] hO (hi_X6_readText_97 hT) rfl rfl (cx_stop hT hO (cX.z (r := 18) (k := 1) (v := (0, ((s : Int) + 1))) (by decide) (cX.z (r := 18) (k := 0) (v := (0, (z + 1))) (by decide) (cX.z (r := 22) (k := z.toNat) (v := (0, -1)) (by decide) (cX.z (r := 21) (k := z.toNat) (v := (0, (y23 * 8 + x23))) (by decide) (cX.z (r := 20) (k := z.toNat) (v := (0, x16)) (by decide) (cX.z (r := 19) (k := z.toNat) (v := (0, 8)) (by decide) hX24)))))) (fun g47 ft47 q47 hX47 => ?_) (fun g48 e48 ft48 q48 c48 => ?_))
            · show vP D T N 88 100 g47 [some (2, 17), some (2, 24), some (0, w), some (0, x), some (0, 1)] [(0, 1)] _
              refine vP_hv (fun hv47 => ?_)
              refine v_if (hi_X6_readText_100 hT) (fun hc49 => absurd (show (1 : Int) = 0 from hc49) (by decide)) (fun _ => ?_)
              refine v_iinc (x := x) (u := 1) (w := (x + 1)) [some (2, 17), some (2, 24), some (0, w), some (0, (x + 1)), some (0, 1)] (hi_X6_readText_105 hT) rfl rfl (Nat.le_of_ble_eq_true rfl) (vz_inc (by omega) (by omega)) rfl ?_
              refine v_goto (hi_X6_readText_108 hT) ?_
              exact ih g47 (s + 1) (d) (i + 1 + 1 + 1 + 1 + 1 + 1) _ _ _ (some (0, 1)) 8 x16 ((y23 * 8 + x23)) (i + 1 + 1 + 1 + 1 + 1) (by simp only [pStep, hE, hsw, hop, h15, opW15, harg, pNm, Bool.false_eq_true, (show ¬ 30 ≤ s from by omega), q17, q20, q24, q47, ne_eq, not_true_eq_false, not_false_eq_true, if_true, if_false, eq_self, eb_l, eb_r, and_true, true_and, and_false, false_and]) hX47 ((cP.z (a := 18) (b := 1) (v := (0, ((s : Int) + 1))) (by decide) (cP.z (a := 18) (b := 0) (v := (0, (z + 1))) (by decide) (cP.z (a := 22) (b := z.toNat) (v := (0, -1)) (by decide) (cP.z (a := 21) (b := z.toNat) (v := (0, (y23 * 8 + x23))) (by decide) (cP.z (a := 20) (b := z.toNat) (v := (0, x16)) (by decide) (cP.z (a := 19) (b := z.toNat) (v := (0, 8)) (by decide) ((((hP.tf ft12).tf ft17).tf ft20).tf ft24))))))).tf ft47) (Eq.trans (ft47 17 2 (by first | decide | exact fun c => by omega)) (Eq.trans (Eq.trans (zset_ne (fun c => absurd c.1 (by decide))) (Eq.trans (zset_ne (fun c => absurd c.1 (by decide))) (Eq.trans (zset_ne (fun c => absurd c.1 (by decide))) (Eq.trans (zset_ne (fun c => absurd c.1 (by decide))) (Eq.trans (zset_ne (fun c => absurd c.1 (by decide))) (zset_ne (fun c => absurd c.1 (by decide)))))))) ((Eq.trans (ft24 17 2 (by first | decide | exact fun c => by omega)) (Eq.trans (ft20 17 2 (by first | decide | exact fun c => by omega)) (Eq.trans (ft17 17 2 (by first | decide | exact fun c => by omega)) (Eq.trans (ft12 17 2 (by first | decide | exact fun c => by omega)) hl))))))) (Eq.trans (ft47 18 1 (by first | decide | exact fun c => by omega)) (zset_same)) (by omega) (Eq.trans (ft47 17 4 (by first | decide | exact fun c => by omega)) (Eq.trans (Eq.trans (zset_ne (fun c => absurd c.1 (by decide))) (Eq.trans (zset_ne (fun c => absurd c.1 (by decide))) (Eq.trans (zset_ne (fun c => absurd c.1 (by decide))) (Eq.trans (zset_ne (fun c => absurd c.1 (by decide))) (Eq.trans (zset_ne (fun c => absurd c.1 (by decide))) (zset_ne (fun c => absurd c.1 (by decide)))))))) ((Eq.trans (ft24 17 4 (by first | decide | exact fun c => by omega)) (Eq.trans (ft20 17 4 (by first | decide | exact fun c => by omega)) (Eq.trans (ft17 17 4 (by first | decide | exact fun c => by omega)) (Eq.trans (ft12 17 4 (by first | decide | exact fun c => by omega)) hd))))))) (by omega) (Eq.trans (ft47 18 0 (by first | decide | exact fun c => by omega)) (Eq.trans (zset_ne (fun c => absurd c.2 (by decide))) zset_same)) (by omega) (ob_same (o23_t ft47 (o23_n (r := 18) (k := 1) (v := (0, ((s : Int) + 1))) (by decide) (o23_n (r := 18) (k := 0) (v := (0, (z + 1))) (by decide) (o23_n (r := 22) (k := z.toNat) (v := (0, -1)) (by decide) (o23_n (r := 21) (k := z.toNat) (v := (0, (y23 * 8 + x23))) (by decide) (o23_n (r := 20) (k := z.toNat) (v := (0, x16)) (by decide) (o23_n (r := 19) (k := z.toNat) (v := (0, 8)) (by decide) (o23_t ft24 (o23_t ft20 (o23_t ft17 (o23_t ft12 (fun _ => Eq.refl _)))))))))))) ho (by omega) (by omega)) (oFr.t (oFr.z (a := 18) (b := 1) (v := (0, ((s : Int) + 1))) (by omega) (oFr.z (a := 18) (b := 0) (v := (0, (z + 1))) (by omega) (oFr.z (a := 22) (b := z.toNat) (v := (0, -1)) (by omega) (oFr.z (a := 21) (b := z.toNat) (v := (0, (y23 * 8 + x23))) (by omega) (oFr.z (a := 20) (b := z.toNat) (v := (0, x16)) (by omega) (oFr.z (a := 19) (b := z.toNat) (v := (0, 8)) (by omega) (oFr.t (oFr.t (oFr.t (oFr.t oFr.rfl ft12) ft17) ft20) ft24))))))) ft47) rfl (pItV_a h3 (by decide) (by simp only [hargV, (show ¬ 30 ≤ s from by omega), q17, q20, q24, q47, ne_eq, not_true_eq_false, not_false_eq_true, if_true, if_false, eq_self, eb_l, eb_r, and_true, true_and, and_false, false_and])) ⟨(kr_f (fun e => ft47 19 e (fun c => by omega)) (kr_n (a := 18) (k := 1) (v := (0, ((s : Int) + 1))) (by decide) (kr_n (a := 18) (k := 0) (v := (0, (z + 1))) (by decide) (kr_n (a := 22) (k := z.toNat) (v := (0, -1)) (by decide) (kr_n (a := 21) (k := z.toNat) (v := (0, (y23 * 8 + x23))) (by decide) (kr_n (a := 20) (k := z.toNat) (v := (0, x16)) (by decide) (kr_z (k := z.toNat) (v := (0, 8)) (kr_f (fun e => ft24 19 e (fun c => by omega)) (kr_f (fun e => ft20 19 e (fun c => by omega)) (kr_f (fun e => ft17 19 e (fun c => by omega)) (kr_f (fun e => ft12 19 e (fun c => by omega)) (fun _ => Eq.refl _)))))))))))), (kr_f (fun e => ft47 20 e (fun c => by omega)) (kr_n (a := 18) (k := 1) (v := (0, ((s : Int) + 1))) (by decide) (kr_n (a := 18) (k := 0) (v := (0, (z + 1))) (by decide) (kr_n (a := 22) (k := z.toNat) (v := (0, -1)) (by decide) (kr_n (a := 21) (k := z.toNat) (v := (0, (y23 * 8 + x23))) (by decide) (kr_z (k := z.toNat) (v := (0, x16)) (kr_n (a := 19) (k := z.toNat) (v := (0, 8)) (by decide) (kr_f (fun e => ft24 20 e (fun c => by omega)) (kr_f (fun e => ft20 20 e (fun c => by omega)) (kr_f (fun e => ft17 20 e (fun c => by omega)) (kr_f (fun e => ft12 20 e (fun c => by omega)) (fun _ => Eq.refl _)))))))))))), (kr_f (fun e => ft47 21 e (fun c => by omega)) (kr_n (a := 18) (k := 1) (v := (0, ((s : Int) + 1))) (by decide) (kr_n (a := 18) (k := 0) (v := (0, (z + 1))) (by decide) (kr_n (a := 22) (k := z.toNat) (v := (0, -1)) (by decide) (kr_z (k := z.toNat) (v := (0, (y23 * 8 + x23))) (kr_n (a := 20) (k := z.toNat) (v := (0, x16)) (by decide) (kr_n (a := 19) (k := z.toNat) (v := (0, 8)) (by decide) (kr_f (fun e => ft24 21 e (fun c => by omega)) (kr_f (fun e => ft20 21 e (fun c => by omega)) (kr_f (fun e => ft17 21 e (fun c => by omega)) (kr_f (fun e => ft12 21 e (fun c => by omega)) (fun _ => Eq.refl _)))))))))))), (kr_f (fun e => ft47 22 e (fun c => by omega)) (kr_n (a := 18) (k := 1) (v := (0, ((s : Int) + 1))) (by decide) (kr_n (a := 18) (k := 0) (v := (0, (z + 1))) (by decide) (kr_z (k := z.toNat) (v := (0, -1)) (kr_n (a := 21) (k := z.toNat) (v := (0, (y23 * 8 + x23))) (by decide) (kr_n (a := 20) (k := z.toNat) (v := (0, x16)) (by decide) (kr_n (a := 19) (k := z.toNat) (v := (0, 8)) (by decide) (kr_f (fun e => ft24 22 e (fun c => by omega)) (kr_f (fun e => ft20 22 e (fun c => by omega)) (kr_f (fun e => ft17 22 e (fun c => by omega)) (kr_f (fun e => ft12 22 e (fun c => by omega)) (fun _ => Eq.refl _))))))))))))⟩ (kr_f (fun e => ft47 23 e (fun c => by omega)) (kr_n (a := 18) (k := 1) (v := (0, ((s : Int) + 1))) (by decide) (kr_n (a := 18) (k := 0) (v := (0, (z + 1))) (by decide) (kr_n (a := 22) (k := z.toNat) (v := (0, -1)) (by decide) (kr_n (a := 21) (k := z.toNat) (v := (0, (y23 * 8 + x23))) (by decide) (kr_n (a := 20) (k := z.toNat) (v := (0, x16)) (by decide) (kr_n (a := 19) (k := z.toNat) (v := (0, 8)) (by decide) (kr_f (fun e => ft24 23 e (fun c => by omega)) (kr_f (fun e => ft20 23 e (fun c => by omega)) (kr_f (fun e => ft17 23 e (fun c => by omega)) (kr_f (fun e => ft12 23 e (fun c => by omega)) (fun _ => Eq.refl _))))))))))))
            · show vP D T N 88 100 g48 [some (2, 17), some (2, 24), some (0, w), some (0, x), some (0, 1)] [(0, 0)] _
              refine vP_hv (fun hv48 => ?_)
              refine v_if (hi_X6_readText_100 hT) (fun _ => ?_) (fun hc50 => absurd (show (0 : Int) = 0 from (by decide)) hc50)
              refine v_push (0) (hi_X6_readText_103 hT) rfl ?_
              refine v_ret (hi_X6_readText_104 hT) (Or.inl rfl) ?_
              exact er _ _ (by simp only [pStep, hE, hsw, hop, h15, opW15, harg, pNm, Bool.false_eq_true, (show ¬ 30 ≤ s from by omega), q17, q20, q24, q48, ne_eq, not_true_eq_false, not_false_eq_true, if_true, if_false, eq_self, eb_l, eb_r, and_true, true_and, and_false, false_and]) c48 (oFr.t (oFr.z (a := 18) (b := 1) (v := (0, ((s : Int) + 1))) (by omega) (oFr.z (a := 18) (b := 0) (v := (0, (z + 1))) (by omega) (oFr.z (a := 22) (b := z.toNat) (v := (0, -1)) (by omega) (oFr.z (a := 21) (b := z.toNat) (v := (0, (y23 * 8 + x23))) (by omega) (oFr.z (a := 20) (b := z.toNat) (v := (0, x16)) (by omega) (oFr.z (a := 19) (b := z.toNat) (v := (0, 8)) (by omega) (oFr.t (oFr.t (oFr.t (oFr.t oFr.rfl ft12) ft17) ft20) ft24))))))) ft48)
          · show vP D T N 83 51 g25 [some (2, 17), some (0, 8), some (0, x16)] [(0, -1), (0, x16), (0, 8), (2, 17)] _
            refine vP_hv (fun hv25 => ?_)
            refine v_call (w := 4) [some (2, 17), some (0, 8), some (0, x16), some (0, -1)] hO (hi_X6_readCopyCell_51 hT) rfl rfl ?_
            refine v_load (v := (0, x16)) (hi_X6_readTwo_0 hT) rfl rfl ?_
            refine v_push (-1) (hi_X6_readTwo_1 hT) rfl ?_
            refine v_ic (hi_X6_readTwo_2 hT) (fun hc51 => absurd (show x16 = -1 from hc51) (by omega)) (fun _ => ?_)
            refine v_load (v := (0, -1)) (hi_X6_readTwo_5 hT) rfl rfl ?_
            refine v_push (-1) (hi_X6_readTwo_6 hT) rfl ?_
            refine v_ic (hi_X6_readTwo_7 hT) (fun _ => ?_) (fun hc52 => absurd (show (-1 : Int) = -1 from (by decide)) hc52)
            refine v_push (0) (hi_X6_readTwo_27 hT) rfl ?_
            refine v_ret (hi_X6_readTwo_28 hT) (Or.inl rfl) ?_
            show vP D T N 83 54 g25 [some (2, 17), some (0, 8), some (0, x16)] [(0, 0)] _
            refine v_ret (hi_X6_readCopyCell_54 hT) (Or.inl rfl) ?_
            show vP D T N 87 107 g25 [some (2, 17), some (0, 8)] [(0, 0)] _
            refine v_ret (hi_X6_readStep_107 hT) (Or.inl rfl) ?_
            show vP D T N 88 78 g25 [some (2, 17), some (2, 24), some (0, w), some (0, x), o] [(0, 0)] _
            refine v_if (hi_X6_readText_78 hT) (fun _ => ?_) (fun hc53 => absurd (show (0 : Int) = 0 from (by decide)) hc53)
            refine v_push (0) (hi_X6_readText_85 hT) rfl ?_
            refine v_store1 [some (2, 17), some (2, 24), some (0, w), some (0, x), some (0, 0)] (hi_X6_readText_86 hT) ⟨rfl, Nat.ne_of_beq_eq_false rfl⟩ (Nat.le_of_ble_eq_true rfl) rfl ?_
            refine v_load (v := (0, 0)) (hi_X6_readText_88 hT) rfl rfl ?_
            refine v_if (hi_X6_readText_90 hT) (fun _ => ?_) (fun hc54 => absurd (show (0 : Int) = 0 from (by decide)) hc54)
            refine v_push (0) (hi_X6_readText_103 hT) rfl ?_
            refine v_ret (hi_X6_readText_104 hT) (Or.inl rfl) ?_
            exact er _ _ (by simp only [pStep, hE, hsw, hop, h15, opW15, harg, pNm, Bool.false_eq_true, (show ¬ 30 ≤ s from by omega), q17, q20, q25, ne_eq, not_true_eq_false, not_false_eq_true, if_true, if_false, eq_self, eb_l, eb_r, and_true, true_and, and_false, false_and]) c25 (oFr.t (oFr.t (oFr.t (oFr.t oFr.rfl ft12) ft17) ft20) ft25)
        · show vP D T N 83 32 g21 [some (2, 17), some (0, 8), some (0, x16)] [(0, 0)] _
          refine vP_hv (fun hv21 => ?_)
          refine v_if (hi_X6_readCopyCell_32 hT) (fun _ => ?_) (fun hc55 => absurd (show (0 : Int) = 0 from (by decide)) hc55)
          refine v_push (0) (hi_X6_readCopyCell_35 hT) rfl ?_
          refine v_ret (hi_X6_readCopyCell_36 hT) (Or.inl rfl) ?_
          show vP D T N 87 107 g21 [some (2, 17), some (0, 8)] [(0, 0)] _
          refine v_ret (hi_X6_readStep_107 hT) (Or.inl rfl) ?_
          show vP D T N 88 78 g21 [some (2, 17), some (2, 24), some (0, w), some (0, x), o] [(0, 0)] _
          refine v_if (hi_X6_readText_78 hT) (fun _ => ?_) (fun hc56 => absurd (show (0 : Int) = 0 from (by decide)) hc56)
          refine v_push (0) (hi_X6_readText_85 hT) rfl ?_
          refine v_store1 [some (2, 17), some (2, 24), some (0, w), some (0, x), some (0, 0)] (hi_X6_readText_86 hT) ⟨rfl, Nat.ne_of_beq_eq_false rfl⟩ (Nat.le_of_ble_eq_true rfl) rfl ?_
          refine v_load (v := (0, 0)) (hi_X6_readText_88 hT) rfl rfl ?_
          refine v_if (hi_X6_readText_90 hT) (fun _ => ?_) (fun hc57 => absurd (show (0 : Int) = 0 from (by decide)) hc57)
          refine v_push (0) (hi_X6_readText_103 hT) rfl ?_
          refine v_ret (hi_X6_readText_104 hT) (Or.inl rfl) ?_
          exact er _ _ (by simp only [pStep, hE, hsw, hop, h15, opW15, harg, pNm, Bool.false_eq_true, (show ¬ 30 ≤ s from by omega), q17, q21, ne_eq, not_true_eq_false, not_false_eq_true, if_true, if_false, eq_self, eb_l, eb_r, and_true, true_and, and_false, false_and]) c21 (oFr.t (oFr.t (oFr.t oFr.rfl ft12) ft17) ft21)
      · show vP D T N 83 17 g18 [some (2, 17), some (0, 8), none] [(0, -1)] _
        refine vP_hv (fun hv18 => ?_)
        refine v_store1 [some (2, 17), some (0, 8), some (0, -1)] (hi_X6_readCopyCell_17 hT) ⟨rfl, Nat.ne_of_beq_eq_false rfl⟩ (Nat.le_of_ble_eq_true rfl) rfl ?_
        refine v_load (v := (0, -1)) (hi_X6_readCopyCell_18 hT) rfl rfl ?_
        refine v_push (-1) (hi_X6_readCopyCell_19 hT) rfl ?_
        refine v_ic (hi_X6_readCopyCell_20 hT) (fun _ => ?_) (fun hc58 => absurd (show (-1 : Int) = -1 from (by decide)) hc58)
        refine v_push (0) (hi_X6_readCopyCell_35 hT) rfl ?_
        refine v_ret (hi_X6_readCopyCell_36 hT) (Or.inl rfl) ?_
        show vP D T N 87 107 g18 [some (2, 17), some (0, 8)] [(0, 0)] _
        refine v_ret (hi_X6_readStep_107 hT) (Or.inl rfl) ?_
        show vP D T N 88 78 g18 [some (2, 17), some (2, 24), some (0, w), some (0, x), o] [(0, 0)] _
        refine v_if (hi_X6_readText_78 hT) (fun _ => ?_) (fun hc59 => absurd (show (0 : Int) = 0 from (by decide)) hc59)
        refine v_push (0) (hi_X6_readText_85 hT) rfl ?_
        refine v_store1 [some (2, 17), some (2, 24), some (0, w), some (0, x), some (0, 0)] (hi_X6_readText_86 hT) ⟨rfl, Nat.ne_of_beq_eq_false rfl⟩ (Nat.le_of_ble_eq_true rfl) rfl ?_
        refine v_load (v := (0, 0)) (hi_X6_readText_88 hT) rfl rfl ?_
        refine v_if (hi_X6_readText_90 hT) (fun _ => ?_) (fun hc60 => absurd (show (0 : Int) = 0 from (by decide)) hc60)
        refine v_push (0) (hi_X6_readText_103 hT) rfl ?_
        refine v_ret (hi_X6_readText_104 hT) (Or.inl rfl) ?_
        exact er _ _ (by simp only [pStep, hE, hsw, hop, h15, opW15, harg, pNm, Bool.false_eq_true, (show ¬ 30 ≤ s from by omega), q18, ne_eq, not_true_eq_false, not_false_eq_true, if_true, if_false, eq_self, eb_l, eb_r, and_true, true_and, and_false, false_and]) c18 (oFr.t (oFr.t oFr.rfl ft12) ft18)
  · have hc9 : 30 ≤ (s : Int) := Int.not_lt.mp hc9
    refine v_load (v := (2, 17)) (hi_X6_mayBegin_69 hT) rfl rfl ?_
    refine v_getR (c := 10) (r := 17) (hi_X6_mayBegin_70 hT) rfl rfl rfl ?_
    refine v_push (6) (hi_X6_mayBegin_73 hT) rfl ?_
    refine v_call (w := 2) [some (2, 10), some (0, 6)] hO (hi_X6_mayBegin_75 hT) rfl rfl (cx_blame hT hO 6 hX (fun g61 ft61 c61 => ?_))
    · show vP D T N 81 78 g61 [some (2, 17), some (0, 8), some (0, 0)] [(0, 0)] _
      refine vP_hv (fun hv61 => ?_)
      refine v_ret (hi_X6_mayBegin_78 hT) (Or.inl rfl) ?_
      show vP D T N 88 67 g61 [some (2, 17), some (2, 24), some (0, w), some (0, x), o] [(0, 0)] _
      refine v_if (hi_X6_readText_67 hT) (fun _ => ?_) (fun hc62 => absurd (show (0 : Int) = 0 from (by decide)) hc62)
      refine v_push (0) (hi_X6_readText_85 hT) rfl ?_
      refine v_store1 [some (2, 17), some (2, 24), some (0, w), some (0, x), some (0, 0)] (hi_X6_readText_86 hT) ⟨rfl, Nat.ne_of_beq_eq_false rfl⟩ (Nat.le_of_ble_eq_true rfl) rfl ?_
      refine v_load (v := (0, 0)) (hi_X6_readText_88 hT) rfl rfl ?_
      refine v_if (hi_X6_readText_90 hT) (fun _ => ?_) (fun hc63 => absurd (show (0 : Int) = 0 from (by decide)) hc63)
      refine v_push (0) (hi_X6_readText_103 hT) rfl ?_
      refine v_ret (hi_X6_readText_104 hT) (Or.inl rfl) ?_
      exact er _ _ (by simp only [pStep, hE, hsw, hop, h15, opW15, harg, pNm, Bool.false_eq_true, (show 30 ≤ s from by omega), ne_eq, not_true_eq_false, not_false_eq_true, if_true, if_false, eq_self, eb_l, eb_r, and_true, true_and, and_false, false_and]) c61 (oFr.t oFr.rfl ft61)
theorem co7_9_24 {D : zD} {T : zT} (hT : hTab T) (hO : vOK T) {N : Nat} {h : zH} {Q : zR → Prop} {B : Nat → Int} {n m i s d : Nat} {τ P : PT} (w x z : Int) (o : Option zV) (hv0 : zHv h) (hX : cX B n m τ i h) (hK : Tks B n m τ) (hP : cP 24 P h) (hb : (0 ≤ P 0 0 ∧ P 0 0 ≤ 8) ∧ (0 ≤ P 0 1 ∧ P 0 1 ≤ 6) ∧ (0 ≤ P 0 2 ∧ P 0 2 ≤ 3) ∧ (0 ≤ P 0 3 ∧ P 0 3 ≤ 6)) (hl : h 17 2 = (2, 24)) (hs : h 18 1 = (0, (s : Int))) (hd : h 17 4 = (0, (d : Int))) (hz : h 18 0 = (0, z)) (bs : s ≤ 30) (bd : d ≤ 3) (bz : 0 ≤ z) (bzd : z + d ≤ 2 * s) (ho : ∀ e : Nat, e < d → 0 ≤ (h 23 e).2 ∧ (h 23 e).2 < z) (hx : 0 ≤ x ∧ x < 900) (h0 : τ 0 i ≠ 0) (h1 : τ 0 i = 1) (h3 : τ 3 i = 9) (ih : ∀ g s' d' i' a b z' o' K u v j, pStep τ P s d i = .inr (s', d', i') → cX B n m τ i' g → cP 24 P g → g 17 2 = (2, 24) → g 18 1 = (0, a) → a = (s' : Int) → g 17 4 = (0, b) → b = (d' : Int) → g 18 0 = (0, z') → s' ≤ 30 ∧ d' ≤ 3 ∧ 0 ≤ z' ∧ z' + d' ≤ 2 * s' → (∀ e : Nat, e < d' → 0 ≤ (g 23 e).2 ∧ (g 23 e).2 < z') → oFr h g → z' = z + 1 → pItV τ P i = .inr (K, u, v, j) → oW4 h g z K u v → (∀ e, g 23 e = h 23 e) → vP D T N 88 27 g [some (2, 17), some (2, 24), some (0, w), some (0, (x + 1)), o'] [] Q) (er : ∀ g e, pStep τ P s d i = .inl e → cB e g → oFr h g → Q (g, some (0, 0))) :
    vP D T (N + 1) 88 27 h [some (2, 17), some (2, 24), some (0, w), some (0, x), o] [] Q := by
  have hEn : (bEn τ i) = 0 := bEn_n h0
  have hE : (bW τ 20 i) = 0 := bW_0.mpr (fun c => absurd (h3.symm.trans c.2) (by decide))
  have hsw : ¬ swd τ i < 0 := by rw [swd_v h1, h3]; decide
  have hop : opW (τ 3 i) = false := by rw [h3]; rfl
  have h15 : ¬ τ 3 i = 15 := by rw [h3]; decide
  have harg : ∀ j, oArg τ P (τ 3 i) j = (eb (pNum τ 0 (P 0 2 - 1) j) fun a => .inr a.2) := fun j => by rw [h3]; rfl
  have hargV : ∀ j, oArV τ P 9 j = (eb (pNum τ 0 (P 0 2 - 1) j) fun a => .inr (a.1, 0, a.2)) := fun _ => rfl
  refine v_loadS (v := (0, x)) (hi_X6_readText_27 hT) rfl rfl ?_
  refine v_push (900) (hi_X6_readText_28 hT) rfl ?_
  refine v_ic (hi_X6_readText_31 hT) (fun _ => ?_) (fun hc1 => absurd (show x < 900 from hx.2) hc1)
  refine v_load (v := (2, 17)) (hi_X6_readText_34 hT) rfl rfl ?_
  refine v_getR (c := 10) (r := 17) (hi_X6_readText_35 hT) rfl rfl rfl ?_
  refine v_call (w := 1) [some (2, 10)] hO (hi_X6_readText_38 hT) rfl rfl (cx_isEnd hT hO hX ?_)
  show vP D T N 88 41 h [some (2, 17), some (2, 24), some (0, w), some (0, x), o] [(0, (bEn τ i))] _
  refine v_if (hi_X6_readText_41 hT) (fun _ => ?_) (fun hc2 => absurd (show (bEn τ i) = 0 from hEn) hc2)
  refine v_load (v := (2, 17)) (hi_X6_readText_44 hT) rfl rfl ?_
  refine v_getR (c := 10) (r := 17) (hi_X6_readText_45 hT) rfl rfl rfl ?_
  refine v_push (20) (hi_X6_readText_48 hT) rfl ?_
  refine v_call (w := 2) [some (2, 10), some (0, 20)] hO (hi_X6_readText_50 hT) rfl rfl (cx_isWord hT hO 20 hX ?_)
  show vP D T N 88 53 h [some (2, 17), some (2, 24), some (0, w), some (0, x), o] [(0, (bW τ 20 i))] _
  refine v_if (hi_X6_readText_53 hT) (fun _ => ?_) (fun hc3 => absurd (show (bW τ 20 i) = 0 from hE) hc3)
  refine v_load (v := (2, 17)) (hi_X6_readText_63 hT) rfl rfl ?_
  refine v_call (w := 3) [some (2, 17), none, none] hO (hi_X6_readText_64 hT) rfl rfl ?_
  refine v_load (v := (2, 17)) (hi_X6_mayBegin_0 hT) rfl rfl ?_
  refine v_getR (c := 10) (r := 17) (hi_X6_mayBegin_1 hT) rfl rfl rfl ?_
  refine v_call (w := 1) [some (2, 10)] hO (hi_X6_mayBegin_4 hT) rfl rfl (cx_wordK hT hO 9 hX h1 h3 ?_)
  show vP D T N 81 7 h [some (2, 17), none, none] [(0, 9)] _
  refine v_store1 [some (2, 17), some (0, 9), none] (hi_X6_mayBegin_7 hT) ⟨rfl, Nat.ne_of_beq_eq_false rfl⟩ (Nat.le_of_ble_eq_true rfl) rfl ?_
  refine v_load (v := (0, 9)) (hi_X6_mayBegin_8 hT) rfl rfl ?_
  refine v_push (15) (hi_X6_mayBegin_9 hT) rfl ?_
  refine v_ic (hi_X6_mayBegin_11 hT) (fun hc4 => absurd (show (9 : Int) = 15 from hc4) (by decide)) (fun _ => ?_)
  refine v_load (v := (0, 9)) (hi_X6_mayBegin_14 hT) rfl rfl ?_
  refine v_push (19) (hi_X6_mayBegin_15 hT) rfl ?_
  refine v_ic (hi_X6_mayBegin_17 hT) (fun hc5 => absurd (show (9 : Int) = 19 from hc5) (by decide)) (fun _ => ?_)
  refine v_push (0) (hi_X6_mayBegin_24 hT) rfl ?_
  refine v_store1 [some (2, 17), some (0, 9), some (0, 0)] (hi_X6_mayBegin_25 hT) ⟨rfl, Nat.ne_of_beq_eq_false rfl⟩ (Nat.le_of_ble_eq_true rfl) rfl ?_
  refine v_load (v := (0, 0)) (hi_X6_mayBegin_26 hT) rfl rfl ?_
  refine v_if (hi_X6_mayBegin_27 hT) (fun _ => ?_) (fun hc6 => absurd (show (0 : Int) = 0 from (by decide)) hc6)
  refine v_load (v := (0, 9)) (hi_X6_mayBegin_30 hT) rfl rfl ?_
  refine v_push (8) (hi_X6_mayBegin_31 hT) rfl ?_
  refine v_ic (hi_X6_mayBegin_33 hT) (fun hc7 => absurd (show (9 : Int) < 8 from hc7) (by decide)) (fun _ => ?_)
  refine v_load (v := (0, 9)) (hi_X6_mayBegin_36 hT) rfl rfl ?_
  refine v_push (14) (hi_X6_mayBegin_37 hT) rfl ?_
  refine v_ic (hi_X6_mayBegin_39 hT) (fun hc8 => absurd (show 14 < (9 : Int) from hc8) (by decide)) (fun _ => ?_)
  refine v_load (v := (2, 17)) (hi_X6_mayBegin_57 hT) rfl rfl ?_
  refine v_getR (c := 18) (r := 17) (hi_X6_mayBegin_58 hT) rfl rfl rfl ?_
  refine v_getf (v := (0, (s : Int))) (r := 18) (hi_X6_mayBegin_61 hT) rfl rfl (fun _ => hs) ?_
  refine v_push (30) (hi_X6_mayBegin_64 hT) rfl ?_
  refine v_ic (hi_X6_mayBegin_66 hT) (fun hc9 => ?_) (fun hc9 => ?_)
  · have hc9 : (s : Int) < 30 := hc9
    refine v_load (v := (0, 0)) (hi_X6_mayBegin_79 hT) rfl rfl ?_
    refine v_if (hi_X6_mayBegin_80 hT) (fun _ => ?_) (fun hc10 => absurd (show (0 : Int) = 0 from (by decide)) hc10)
    refine v_push (1) (hi_X6_mayBegin_101 hT) rfl ?_
    refine v_ret (hi_X6_mayBegin_102 hT) (Or.inl rfl) ?_
    show vP D T N 88 67 h [some (2, 17), some (2, 24), some (0, w), some (0, x), o] [(0, 1)] _
    refine v_if (hi_X6_readText_67 hT) (fun hc11 => absurd (show (1 : Int) = 0 from hc11) (by decide)) (fun _ => ?_)
    refine v_load (v := (2, 17)) (hi_X6_readText_70 hT) rfl rfl ?_
    refine v_load (v := (2, 17)) (hi_X6_readText_71 hT) rfl rfl ?_
    refine v_call (w := 3) [some (2, 17), none, none] hO (hi_X6_readText_72 hT) rfl rfl ?_
    refine v_load (v := (2, 17)) (hi_X6_beginStep_0 hT) rfl rfl ?_
    refine v_getR (c := 10) (r := 17) (hi_X6_beginStep_1 hT) rfl rfl rfl ?_
    refine v_call (w := 1) [some (2, 10)] hO (hi_X6_beginStep_4 hT) rfl rfl (cx_wordK hT hO 9 hX h1 h3 ?_)
    show vP D T N 80 7 h [some (2, 17), none, none] [(0, 9)] _
    refine v_store1 [some (2, 17), some (0, 9), none] (hi_X6_beginStep_7 hT) ⟨rfl, Nat.ne_of_beq_eq_false rfl⟩ (Nat.le_of_ble_eq_true rfl) rfl ?_
    refine v_load (v := (2, 17)) (hi_X6_beginStep_8 hT) rfl rfl ?_
    refine v_getR (c := 10) (r := 17) (hi_X6_beginStep_9 hT) rfl rfl rfl ?_
    refine v_call (w := 1) [some (2, 10)] hO (hi_X6_beginStep_12 hT) rfl rfl (cx_adv hT hO hX (ne_10 h1) (ne_14 h1) (fun g12 ft12 hX12 => ?_))
    · show vP D T N 80 15 g12 [some (2, 17), some (0, 9), none] [] _
      refine vP_hv (fun hv12 => ?_)
      refine v_load (v := (0, 9)) (hi_X6_beginStep_15 hT) rfl rfl ?_
      refine v_push (15) (hi_X6_beginStep_16 hT) rfl ?_
      refine v_ic (hi_X6_beginStep_18 hT) (fun hc13 => absurd (show (9 : Int) = 15 from hc13) (by decide)) (fun _ => ?_)
      refine v_load (v := (0, 9)) (hi_X6_beginStep_21 hT) rfl rfl ?_
      refine v_push (19) (hi_X6_beginStep_22 hT) rfl ?_
      refine v_ic (hi_X6_beginStep_24 hT) (fun hc14 => absurd (show (9 : Int) = 19 from hc14) (by decide)) (fun _ => ?_)
      refine v_load (v := (0, 9)) (hi_X6_beginStep_61 hT) rfl rfl ?_
      refine v_push (15) (hi_X6_beginStep_62 hT) rfl ?_
      refine v_ic (hi_X6_beginStep_64 hT) (fun hc15 => absurd (show (9 : Int) = 15 from hc15) (by decide)) (fun _ => ?_)
      refine v_load (v := (0, 9)) (hi_X6_beginStep_67 hT) rfl rfl ?_
      refine v_ret (hi_X6_beginStep_68 hT) (Or.inl rfl) ?_
      show vP D T N 88 75 g12 [some (2, 17), some (2, 24), some (0, w), some (0, x), o] [(0, 9), (2, 17)] _
      refine v_call (w := 2) [some (2, 17), some (0, 9)] hO (hi_X6_readText_75 hT) rfl rfl ?_
      refine v_load (v := (0, 9)) (hi_X6_readStep_0 hT) rfl rfl ?_
      refine v_sw (hi_X6_readStep_1 hT) ?_
      refine ⟨fun c => absurd c (by decide), fun _ => ?_⟩
      refine ⟨fun c => absurd c (by decide), fun _ => ?_⟩
      refine ⟨fun c => absurd c (by decide), fun _ => ?_⟩
      refine ⟨fun c => absurd c (by decide), fun _ => ?_⟩
      refine ⟨fun c => absurd c (by decide), fun _ => ?_⟩
      refine ⟨fun c => absurd c (by decide), fun _ => ?_⟩
      refine ⟨fun c => absurd c (by decide), fun _ => ?_⟩
      refine ⟨fun c => absurd c (by decide), fun _ => ?_⟩
      refine ⟨fun c => absurd c (by decide), fun _ => ?_⟩
      refine ⟨fun c => absurd c (by decide), fun _ => ?_⟩
      refine ⟨fun _ => ?_, fun c => absurd rfl c⟩
      refine v_load (v := (2, 17)) (hz_X6_readStep hT _ _ rfl) rfl rfl ?_
      refine v_load (v := (0, 9)) (hz_X6_readStep hT _ _ rfl) rfl rfl ?_
      refine v_load (v := (2, 17)) (hz_X6_readStep hT _ _ rfl) rfl rfl ?_
      refine v_getR (c := 10) (r := 17) (hz_X6_readStep hT _ _ rfl) rfl rfl rfl ?_
      refine v_push (0) (hz_X6_readStep hT _ _ rfl) rfl ?_
      refine v_load (v := (2, 17)) (hz_X6_readStep hT _ _ rfl) rfl rfl ?_
      refine v_getf (v := (2, 24)) (r := 17) (hz_X6_readStep hT _ _ rfl) rfl rfl (fun _ => (Eq.trans (ft12 17 2 (by first | decide | exact fun c => by omega)) hl)) ?_
      refine v_getf (v := (0, (P 0 2))) (r := 24) (hz_X6_readStep hT _ _ rfl) rfl rfl (fun _ => (Eq.trans (ft12 24 2 (by first | decide | exact fun c => by omega)) hP.1.2.2.1)) ?_
      refine v_push (1) (hz_X6_readStep hT _ _ rfl) rfl ?_
      refine v_bin (w := ((P 0 2) - 1)) (hz_X6_readStep hT _ _ rfl) (hq_sub (by omega) (by omega)) ?_
      refine v_call (w := 4) [some (2, 10), some (0, 0), some (0, ((P 0 2) - 1)), none] hO (hz_X6_readStep hT _ _ rfl) rfl rfl (cx_num hT hO 0 (((P 0 2) - 1)) hX12 (fun g17 x16 ft17 q17 bux16 bvx16 hX17 => ?_) (fun g18 e18 ft18 q18 c18 => ?_))
      · show vP D T N 87 127 g17 [some (2, 17), some (0, 9)] [(0, x16), (0, 9), (2, 17)] _
        refine vP_hv (fun hv17 => ?_)
        refine v_push (0) (hi_X6_readStep_127 hT) rfl ?_
        refine v_call (w := 4) [some (2, 17), some (0, 9), some (0, x16), some (0, 0)] hO (hi_X6_readStep_128 hT) rfl rfl ?_
        refine v_load (v := (0, x16)) (hi_X6_readTwo_0 hT) rfl rfl ?_
        refine v_push (-1) (hi_X6_readTwo_1 hT) rfl ?_
        refine v_ic (hi_X6_readTwo_2 hT) (fun hc19 => absurd (show x16 = -1 from hc19) (by omega)) (fun _ => ?_)
        refine v_load (v := (0, 0)) (hi_X6_readTwo_5 hT) rfl rfl ?_
        refine v_push (-1) (hi_X6_readTwo_6 hT) rfl ?_
        refine v_ic (hi_X6_readTwo_7 hT) (fun hc20 => absurd (show (0 : Int) = -1 from hc20) (by decide)) (fun _ => ?_)
        refine v_load (v := (2, 17)) (hi_X6_readTwo_10 hT) rfl rfl ?_
        refine v_getR (c := 18) (r := 17) (hi_X6_readTwo_11 hT) rfl rfl rfl ?_
        refine v_load (v := (0, 9)) (hi_X6_readTwo_14 hT) rfl rfl ?_
        refine v_load (v := (0, x16)) (hi_X6_readTwo_15 hT) rfl rfl ?_
        refine v_load (v := (0, 0)) (hi_X6_readTwo_16 hT) rfl rfl ?_
        refine v_call (w := 4) [some (2, 18), some (0, 9), some (0, x16), some (0, 0)] hO (hi_X6_readTwo_17 hT) rfl rfl ?_
        refine v_load (v := (2, 18)) (hi_X5_add_0 hT) rfl rfl ?_
        refine v_getf (v := (0, z)) (r := 18) (hi_X5_add_1 hT) rfl rfl (fun _ => (Eq.trans (ft17 18 0 (by first | decide | exact fun c => by omega)) (Eq.trans (ft12 18 0 (by first | decide | exact fun c => by omega)) hz))) ?_
        refine v_if (hi_X5_add_4 hT) (fun hc21 => absurd (show z < 0 from hc21) (by omega)) (fun _ => ?_)
        refine v_load (v := (2, 18)) (hi_X5_add_7 hT) rfl rfl ?_
        refine v_getf (v := (0, z)) (r := 18) (hi_X5_add_8 hT) rfl rfl (fun _ => (Eq.trans (ft17 18 0 (by first | decide | exact fun c => by omega)) (Eq.trans (ft12 18 0 (by first | decide | exact fun c => by omega)) hz))) ?_
        refine v_push (60) (hi_X5_add_11 hT) rfl ?_
        refine v_ic (hi_X5_add_13 hT) (fun _ => ?_) (fun hc22 => absurd (show z < 60 from (by omega)) hc22)
        refine v_load (v := (2, 18)) (hi_X5_add_18 hT) rfl rfl ?_
        refine v_getR (c := 19) (r := 18) (hi_X5_add_19 hT) rfl rfl rfl ?_
        refine v_load (v := (2, 18)) (hi_X5_add_22 hT) rfl rfl ?_
        refine v_getf (v := (0, z)) (r := 18) (hi_X5_add_23 hT) rfl rfl (fun _ => (Eq.trans (ft17 18 0 (by first | decide | exact fun c => by omega)) (Eq.trans (ft12 18 0 (by first | decide | exact fun c => by omega)) hz))) ?_
        refine v_load (v := (0, 9)) (hi_X5_add_26 hT) rfl rfl ?_
        refine v_ast (r := 19) (hi_X5_add_27 hT) rfl rfl (fun ha23 hb24 hf25 => ?_)
        refine v_load (v := (2, 18)) (hi_X5_add_28 hT) rfl rfl ?_
        refine v_getR (c := 20) (r := 18) (hi_X5_add_29 hT) rfl rfl rfl ?_
        refine v_load (v := (2, 18)) (hi_X5_add_32 hT) rfl rfl ?_
        refine v_getf (v := (0, z)) (r := 18) (hi_X5_add_33 hT) rfl rfl (fun _ => Eq.trans (zset_ne (fun c => absurd c.1 (by decide))) ((Eq.trans (ft17 18 0 (by first | decide | exact fun c => by omega)) (Eq.trans (ft12 18 0 (by first | decide | exact fun c => by omega)) hz)))) ?_
        refine v_load (v := (0, x16)) (hi_X5_add_36 hT) rfl rfl ?_
        refine v_ast (r := 20) (hi_X5_add_37 hT) rfl rfl (fun ha26 hb27 hf28 => ?_)
        refine v_load (v := (2, 18)) (hi_X5_add_38 hT) rfl rfl ?_
        refine v_getR (c := 21) (r := 18) (hi_X5_add_39 hT) rfl rfl rfl ?_
        refine v_load (v := (2, 18)) (hi_X5_add_42 hT) rfl rfl ?_
        refine v_getf (v := (0, z)) (r := 18) (hi_X5_add_43 hT) rfl rfl (fun _ => Eq.trans (Eq.trans (zset_ne (fun c => absurd c.1 (by decide))) (zset_ne (fun c => absurd c.1 (by decide)))) ((Eq.trans (ft17 18 0 (by first | decide | exact fun c => by omega)) (Eq.trans (ft12 18 0 (by first | decide | exact fun c => by omega)) hz)))) ?_
        refine v_load (v := (0, 0)) (hi_X5_add_46 hT) rfl rfl ?_
        refine v_ast (r := 21) (hi_X5_add_47 hT) rfl rfl (fun ha29 hb30 hf31 => ?_)
        refine v_load (v := (2, 18)) (hi_X5_add_48 hT) rfl rfl ?_
        refine v_getR (c := 22) (r := 18) (hi_X5_add_49 hT) rfl rfl rfl ?_
        refine v_load (v := (2, 18)) (hi_X5_add_52 hT) rfl rfl ?_
        refine v_getf (v := (0, z)) (r := 18) (hi_X5_add_53 hT) rfl rfl (fun _ => Eq.trans (Eq.trans (zset_ne (fun c => absurd c.1 (by decide))) (Eq.trans (zset_ne (fun c => absurd c.1 (by decide))) (zset_ne (fun c => absurd c.1 (by decide))))) ((Eq.trans (ft17 18 0 (by first | decide | exact fun c => by omega)) (Eq.trans (ft12 18 0 (by first | decide | exact fun c => by omega)) hz)))) ?_
        refine v_push (-1) (hi_X5_add_56 hT) rfl ?_
        refine v_ast (r := 22) (hi_X5_add_57 hT) rfl rfl (fun ha32 hb33 hf34 => ?_)
        refine v_load (v := (2, 18)) (hi_X5_add_58 hT) rfl rfl ?_
        refine v_dup (hi_X5_add_59 hT) (Nat.ne_of_beq_eq_false rfl) ?_
        refine v_getf (v := (0, z)) (r := 18) (hi_X5_add_60 hT) rfl rfl (fun _ => Eq.trans (Eq.trans (zset_ne (fun c => absurd c.1 (by decide))) (Eq.trans (zset_ne (fun c => absurd c.1 (by decide))) (Eq.trans (zset_ne (fun c => absurd c.1 (by decide))) (zset_ne (fun c => absurd c.1 (by decide)))))) ((Eq.trans (ft17 18 0 (by first | decide | exact fun c => by omega)) (Eq.trans (ft12 18 0 (by first | decide | exact fun c => by omega)) hz)))) ?_
        refine v_push (1) (hi_X5_add_63 hT) rfl ?_
        refine v_bin (w := (z + 1)) (hi_X5_add_64 hT) (hq_add (by omega) (by omega)) ?_
        refine v_putf (r := 18) hO (hi_X5_add_65 hT) rfl (fun hf35 => ?_)
        refine v_load (v := (2, 18)) (hi_X5_add_68 hT) rfl rfl ?_
        refine v_dup (hi_X5_add_69 hT) (Nat.ne_of_beq_eq_false rfl) ?_
        refine v_getf (v := (0, (s : Int))) (r := 18) (hi_X5_add_70 hT) rfl rfl (fun _ => Eq.trans (Eq.trans (zset_ne (fun c => absurd c.2 (by decide))) (Eq.trans (zset_ne (fun c => absurd c.1 (by decide))) (Eq.trans (zset_ne (fun c => absurd c.1 (by decide))) (Eq.trans (zset_ne (fun c => absurd c.1 (by decide))) (zset_ne (fun c => absurd c.1 (by decide))))))) ((Eq.trans (ft17 18 1 (by first | decide | exact fun c => by omega)) (Eq.trans (ft12 18 1 (by first | decide | exact fun c => by omega)) hs)))) ?_
        refine v_push (1) (hi_X5_add_73 hT) rfl ?_
        refine v_bin (w := ((s : Int) + 1)) (hi_X5_add_74 hT) (hq_add (by omega) (by omega)) ?_
        refine v_putf (r := 18) hO (hi_X5_add_75 hT) rfl (fun hf36 => ?_)
        refine v_push (1) (hi_X5_add_78 hT) rfl ?_
        refine v_ret (hi_X5_add_79 hT) (Or.inl rfl) ?_
        show vP D T N 89 20 (zset (zset (zset (zset (zset (zset g17 19 z.toNat (0, 9)) 20 z.toNat (0, x16)) 21 z.toNat (0, 0)) 22 z.toNat (0, -1)) 18 0 (0, (z + 1))) 18 1 (0, ((s : Int) + 1))) [some (2, 17), some (0, 9), some (0, x16), some (0, 0)] [(0, 1)] _
        refine v_if (hi_X6_readTwo_20 hT) (fun hc37 => absurd (show (1 : Int) = 0 from hc37) (by decide)) (fun _ => ?_)
        refine v_push (1) (hi_X6_readTwo_23 hT) rfl ?_
        refine v_goto (hi_X6_readTwo_24 hT) ?_
        refine v_ret (hi_X6_readTwo_28 hT) (Or.inl rfl) ?_
        show vP D T N 87 131 (zset (zset (zset (zset (zset (zset g17 19 z.toNat (0, 9)) 20 z.toNat (0, x16)) 21 z.toNat (0, 0)) 22 z.toNat (0, -1)) 18 0 (0, (z + 1))) 18 1 (0, ((s : Int) + 1))) [some (2, 17), some (0, 9)] [(0, 1)] _
        refine v_ret (hi_X6_readStep_131 hT) (Or.inl rfl) ?_
        show vP D T N 88 78 (zset (zset (zset (zset (zset (zset g17 19 z.toNat (0, 9)) 20 z.toNat (0, x16)) 21 z.toNat (0, 0)) 22 z.toNat (0, -1)) 18 0 (0, (z + 1))) 18 1 (0, ((s : Int) + 1))) [some (2, 17), some (2, 24), some (0, w), some (0, x), o] [(0, 1)] _
        refine v_if (hi_X6_readText_78 hT) (fun hc38 => absurd (show (1 : Int) = 0 from hc38) (by decide)) (fun _ => ?_)
        refine v_push (1) (hi_X6_readText_81 hT) rfl ?_
        refine v_goto (hi_X6_readText_82 hT) ?_
        refine v_store1 [some (2, 17), some (2, 24), some (0, w), some (0, x), some (0, 1)] (hi_X6_readText_86 hT) ⟨rfl, Nat.ne_of_beq_eq_false rfl⟩ (Nat.le_of_ble_eq_true rfl) rfl ?_
        refine v_load (v := (0, 1)) (hi_X6_readText_88 hT) rfl rfl ?_
        refine v_if (hi_X6_readText_90 hT) (fun hc39 => absurd (show (1 : Int) = 0 from hc39) (by decide)) (fun _ => ?_)
        refine v_load (v := (2, 17)) (hi_X6_readText_93 hT) rfl rfl ?_
        refine v_getR (c := 10) (r := 17) (hi_X6_readText_94 hT) rfl rfl rfl ?_
        refine v_call (w := 1) [some (2, 10)] hO (hi_X6_readText_97 hT) rfl rfl (cx_stop hT hO (cX.z (r := 18) (k := 1) (v := (0, ((s : Int) + 1))) (by decide) (cX.z (r := 18) (k := 0) (v := (0, (z + 1))) (by decide) (cX.z (r := 22) (k := z.toNat) (v := (0, -1)) (by decide) (cX.z (r := 21) (k := z.toNat) (v := (0, 0)) (by decide) (cX.z (r := 20) (k := z.toNat) (v := (0, x16)) (by decide) (cX.z (r := 19) (k := z.toNat) (v := (0, 9)) (by decide) hX17)))))) (fun g40 ft40 q40 hX40 => ?_) (fun g41 e41 ft41 q41 c41 => ?_))
        · show vP D T N 88 100 g40 [some (2, 17), some (2, 24), some (0, w), some (0, x), some (0, 1)] [(0, 1)] _
          refine vP_hv (fun hv40 => ?_)
          refine v_if (hi_X6_readText_100 hT) (fun hc42 => absurd (show (1 : Int) = 0 from hc42) (by decide)) (fun _ => ?_)
          refine v_iinc (x := x) (u := 1) (w := (x + 1)) [some (2, 17), some (2, 24), some (0, w), some (0, (x + 1)), some (0, 1)] (hi_X6_readText_105 hT) rfl rfl (Nat.le_of_ble_eq_true rfl) (vz_inc (by omega) (by omega)) rfl ?_
          refine v_goto (hi_X6_readText_108 hT) ?_
          exact ih g40 (s + 1) (d) (i + 1 + 1 + 1) _ _ _ (some (0, 1)) 9 x16 0 (i + 1 + 1) (by simp only [pStep, hE, hsw, hop, h15, opW15, harg, pNm, Bool.false_eq_true, (show ¬ 30 ≤ s from by omega), q17, q40, ne_eq, not_true_eq_false, not_false_eq_true, if_true, if_false, eq_self, eb_l, eb_r, and_true, true_and, and_false, false_and]) hX40 ((cP.z (a := 18) (b := 1) (v := (0, ((s : Int) + 1))) (by decide) (cP.z (a := 18) (b := 0) (v := (0, (z + 1))) (by decide) (cP.z (a := 22) (b := z.toNat) (v := (0, -1)) (by decide) (cP.z (a := 21) (b := z.toNat) (v := (0, 0)) (by decide) (cP.z (a := 20) (b := z.toNat) (v := (0, x16)) (by decide) (cP.z (a := 19) (b := z.toNat) (v := (0, 9)) (by decide) ((hP.tf ft12).tf ft17))))))).tf ft40) (Eq.trans (ft40 17 2 (by first | decide | exact fun c => by omega)) (Eq.trans (Eq.trans (zset_ne (fun c => absurd c.1 (by decide))) (Eq.trans (zset_ne (fun c => absurd c.1 (by decide))) (Eq.trans (zset_ne (fun c => absurd c.1 (by decide))) (Eq.trans (zset_ne (fun c => absurd c.1 (by decide))) (Eq.trans (zset_ne (fun c => absurd c.1 (by decide))) (zset_ne (fun c => absurd c.1 (by decide)))))))) ((Eq.trans (ft17 17 2 (by first | decide | exact fun c => by omega)) (Eq.trans (ft12 17 2 (by first | decide | exact fun c => by omega)) hl))))) (Eq.trans (ft40 18 1 (by first | decide | exact fun c => by omega)) (zset_same)) (by omega) (Eq.trans (ft40 17 4 (by first | decide | exact fun c => by omega)) (Eq.trans (Eq.trans (zset_ne (fun c => absurd c.1 (by decide))) (Eq.trans (zset_ne (fun c => absurd c.1 (by decide))) (Eq.trans (zset_ne (fun c => absurd c.1 (by decide))) (Eq.trans (zset_ne (fun c => absurd c.1 (by decide))) (Eq.trans (zset_ne (fun c => absurd c.1 (by decide))) (zset_ne (fun c => absurd c.1 (by decide)))))))) ((Eq.trans (ft17 17 4 (by first | decide | exact fun c => by omega)) (Eq.trans (ft12 17 4 (by first | decide | exact fun c => by omega)) hd))))) (by omega) (Eq.trans (ft40 18 0 (by first | decide | exact fun c => by omega)) (Eq.trans (zset_ne (fun c => absurd c.2 (by decide))) zset_same)) (by omega) (ob_same (o23_t ft40 (o23_n (r := 18) (k := 1) (v := (0, ((s : Int) + 1))) (by decide) (o23_n (r := 18) (k := 0) (v := (0, (z + 1))) (by decide) (o23_n (r := 22) (k := z.toNat) (v := (0, -1)) (by decide) (o23_n (r := 21) (k := z.toNat) (v := (0, 0)) (by decide) (o23_n (r := 20) (k := z.toNat) (v := (0, x16)) (by decide) (o23_n (r := 19) (k := z.toNat) (v := (0, 9)) (by decide) (o23_t ft17 (o23_t ft12 (fun _ => Eq.refl _)))))))))) ho (by omega) (by omega)) (oFr.t (oFr.z (a := 18) (b := 1) (v := (0, ((s : Int) + 1))) (by omega) (oFr.z (a := 18) (b := 0) (v := (0, (z + 1))) (by omega) (oFr.z (a := 22) (b := z.toNat) (v := (0, -1)) (by omega) (oFr.z (a := 21) (b := z.toNat) (v := (0, 0)) (by omega) (oFr.z (a := 20) (b := z.toNat) (v := (0, x16)) (by omega) (oFr.z (a := 19) (b := z.toNat) (v := (0, 9)) (by omega) (oFr.t (oFr.t oFr.rfl ft12) ft17))))))) ft40) rfl (pItV_a h3 (by decide) (by simp only [hargV, (show ¬ 30 ≤ s from by omega), q17, q40, ne_eq, not_true_eq_false, not_false_eq_true, if_true, if_false, eq_self, eb_l, eb_r, and_true, true_and, and_false, false_and])) ⟨(kr_f (fun e => ft40 19 e (fun c => by omega)) (kr_n (a := 18) (k := 1) (v := (0, ((s : Int) + 1))) (by decide) (kr_n (a := 18) (k := 0) (v := (0, (z + 1))) (by decide) (kr_n (a := 22) (k := z.toNat) (v := (0, -1)) (by decide) (kr_n (a := 21) (k := z.toNat) (v := (0, 0)) (by decide) (kr_n (a := 20) (k := z.toNat) (v := (0, x16)) (by decide) (kr_z (k := z.toNat) (v := (0, 9)) (kr_f (fun e => ft17 19 e (fun c => by omega)) (kr_f (fun e => ft12 19 e (fun c => by omega)) (fun _ => Eq.refl _)))))))))), (kr_f (fun e => ft40 20 e (fun c => by omega)) (kr_n (a := 18) (k := 1) (v := (0, ((s : Int) + 1))) (by decide) (kr_n (a := 18) (k := 0) (v := (0, (z + 1))) (by decide) (kr_n (a := 22) (k := z.toNat) (v := (0, -1)) (by decide) (kr_n (a := 21) (k := z.toNat) (v := (0, 0)) (by decide) (kr_z (k := z.toNat) (v := (0, x16)) (kr_n (a := 19) (k := z.toNat) (v := (0, 9)) (by decide) (kr_f (fun e => ft17 20 e (fun c => by omega)) (kr_f (fun e => ft12 20 e (fun c => by omega)) (fun _ => Eq.refl _)))))))))), (kr_f (fun e => ft40 21 e (fun c => by omega)) (kr_n (a := 18) (k := 1) (v := (0, ((s : Int) + 1))) (by decide) (kr_n (a := 18) (k := 0) (v := (0, (z + 1))) (by decide) (kr_n (a := 22) (k := z.toNat) (v := (0, -1)) (by decide) (kr_z (k := z.toNat) (v := (0, 0)) (kr_n (a := 20) (k := z.toNat) (v := (0, x16)) (by decide) (kr_n (a := 19) (k := z.toNat) (v := (0, 9)) (by decide) (kr_f (fun e => ft17 21 e (fun c => by omega)) (kr_f (fun e => ft12 21 e (fun c => by omega)) (fun _ => Eq.refl _)))))))))), (kr_f (fun e => ft40 22 e (fun c => by omega)) (kr_n (a := 18) (k := 1) (v := (0, ((s : Int) + 1))) (by decide) (kr_n (a := 18) (k := 0) (v := (0, (z + 1))) (by decide) (kr_z (k := z.toNat) (v := (0, -1)) (kr_n (a := 21) (k := z.toNat) (v := (0, 0)) (by decide) (kr_n (a := 20) (k := z.toNat) (v := (0, x16)) (by decide) (kr_n (a := 19) (k := z.toNat) (v := (0, 9)) (by decide) (kr_f (fun e => ft17 22 e (fun c => by omega)) (kr_f (fun e => ft12 22 e (fun c => by omega)) (fun _ => Eq.refl _))))))))))⟩ (kr_f (fun e => ft40 23 e (fun c => by omega)) (kr_n (a := 18) (k := 1) (v := (0, ((s : Int) + 1))) (by decide) (kr_n (a := 18) (k := 0) (v := (0, (z + 1))) (by decide) (kr_n (a := 22) (k := z.toNat) (v := (0, -1)) (by decide) (kr_n (a := 21) (k := z.toNat) (v := (0, 0)) (by decide) (kr_n (a := 20) (k := z.toNat) (v := (0, x16)) (by decide) (kr_n (a := 19) (k := z.toNat) (v := (0, 9)) (by decide) (kr_f (fun e => ft17 23 e (fun c => by omega)) (kr_f (fun e => ft12 23 e (fun c => by omega)) (fun _ => Eq.refl _))))))))))
        · show vP D T N 88 100 g41 [some (2, 17), some (2, 24), some (0, w), some (0, x), some (0, 1)] [(0, 0)] _
          refine vP_hv (fun hv41 => ?_)
          refine v_if (hi_X6_readText_100 hT) (fun _ => ?_) (fun hc43 => absurd (show (0 : Int) = 0 from (by decide)) hc43)
          refine v_push (0) (hi_X6_readText_103 hT) rfl ?_
          refine v_ret (hi_X6_readText_104 hT) (Or.inl rfl) ?_
          exact er _ _ (by simp only [pStep, hE, hsw, hop, h15, opW15, harg, pNm, Bool.false_eq_true, (show ¬ 30 ≤ s from by omega), q17, q41, ne_eq, not_true_eq_false, not_false_eq_true, if_true, if_false, eq_self, eb_l, eb_r, and_true, true_and, and_false, false_and]) c41 (oFr.t (oFr.z (a := 18) (b := 1) (v := (0, ((s : Int) + 1))) (by omega) (oFr.z (a := 18) (b := 0) (v := (0, (z + 1))) (by omega) (oFr.z (a := 22) (b := z.toNat) (v := (0, -1)) (by omega) (oFr.z (a := 21) (b := z.toNat) (v := (0, 0)) (by omega) (oFr.z (a := 20) (b := z.toNat) (v := (0, x16)) (by omega) (oFr.z (a := 19) (b := z.toNat) (v := (0, 9)) (by omega) (oFr.t (oFr.t oFr.rfl ft12) ft17))))))) ft41)
      · show vP D T N 87 127 g18 [some (2, 17), some (0, 9)] [(0, -1), (0, 9), (2, 17)] _
        refine vP_hv (fun hv18 => ?_)
        refine v_push (0) (hi_X6_readStep_127 hT) rfl ?_
        refine v_call (w := 4) [some (2, 17), some (0, 9), some (0, -1), some (0, 0)] hO (hi_X6_readStep_128 hT) rfl rfl ?_
        refine v_load (v := (0, -1)) (hi_X6_readTwo_0 hT) rfl rfl ?_
        refine v_push (-1) (hi_X6_readTwo_1 hT) rfl ?_
        refine v_ic (hi_X6_readTwo_2 hT) (fun _ => ?_) (fun hc44 => absurd (show (-1 : Int) = -1 from (by decide)) hc44)
        refine v_push (0) (hi_X6_readTwo_27 hT) rfl ?_
        refine v_ret (hi_X6_readTwo_28 hT) (Or.inl rfl) ?_
        show vP D T N 87 131 g18 [some (2, 17), some (0, 9)] [(0, 0)] _
        refine v_ret (hi_X6_readStep_131 hT) (Or.inl rfl) ?_
        show vP D T N 88 78 g18 [some (2, 17), some (2, 24), some (0, w), some (0, x), o] [(0, 0)] _
        refine v_if (hi_X6_readText_78 hT) (fun _ => ?_) (fun hc45 => absurd (show (0 : Int) = 0 from (by decide)) hc45)
        refine v_push (0) (hi_X6_readText_85 hT) rfl ?_
        refine v_store1 [some (2, 17), some (2, 24), some (0, w), some (0, x), some (0, 0)] (hi_X6_readText_86 hT) ⟨rfl, Nat.ne_of_beq_eq_false rfl⟩ (Nat.le_of_ble_eq_true rfl) rfl ?_
        refine v_load (v := (0, 0)) (hi_X6_readText_88 hT) rfl rfl ?_
        refine v_if (hi_X6_readText_90 hT) (fun _ => ?_) (fun hc46 => absurd (show (0 : Int) = 0 from (by decide)) hc46)
        refine v_push (0) (hi_X6_readText_103 hT) rfl ?_
        refine v_ret (hi_X6_readText_104 hT) (Or.inl rfl) ?_
        exact er _ _ (by simp only [pStep, hE, hsw, hop, h15, opW15, harg, pNm, Bool.false_eq_true, (show ¬ 30 ≤ s from by omega), q18, ne_eq, not_true_eq_false, not_false_eq_true, if_true, if_false, eq_self, eb_l, eb_r, and_true, true_and, and_false, false_and]) c18 (oFr.t (oFr.t oFr.rfl ft12) ft18)
  · have hc9 : 30 ≤ (s : Int) := Int.not_lt.mp hc9
    refine v_load (v := (2, 17)) (hi_X6_mayBegin_69 hT) rfl rfl ?_
    refine v_getR (c := 10) (r := 17) (hi_X6_mayBegin_70 hT) rfl rfl rfl ?_
    refine v_push (6) (hi_X6_mayBegin_73 hT) rfl ?_
    refine v_call (w := 2) [some (2, 10), some (0, 6)] hO (hi_X6_mayBegin_75 hT) rfl rfl (cx_blame hT hO 6 hX (fun g47 ft47 c47 => ?_))
    · show vP D T N 81 78 g47 [some (2, 17), some (0, 9), some (0, 0)] [(0, 0)] _
      refine vP_hv (fun hv47 => ?_)
      refine v_ret (hi_X6_mayBegin_78 hT) (Or.inl rfl) ?_
      show vP D T N 88 67 g47 [some (2, 17), some (2, 24), some (0, w), some (0, x), o] [(0, 0)] _
      refine v_if (hi_X6_readText_67 hT) (fun _ => ?_) (fun hc48 => absurd (show (0 : Int) = 0 from (by decide)) hc48)
      refine v_push (0) (hi_X6_readText_85 hT) rfl ?_
      refine v_store1 [some (2, 17), some (2, 24), some (0, w), some (0, x), some (0, 0)] (hi_X6_readText_86 hT) ⟨rfl, Nat.ne_of_beq_eq_false rfl⟩ (Nat.le_of_ble_eq_true rfl) rfl ?_
      refine v_load (v := (0, 0)) (hi_X6_readText_88 hT) rfl rfl ?_
      refine v_if (hi_X6_readText_90 hT) (fun _ => ?_) (fun hc49 => absurd (show (0 : Int) = 0 from (by decide)) hc49)
      refine v_push (0) (hi_X6_readText_103 hT) rfl ?_
      refine v_ret (hi_X6_readText_104 hT) (Or.inl rfl) ?_
      exact er _ _ (by simp only [pStep, hE, hsw, hop, h15, opW15, harg, pNm, Bool.false_eq_true, (show 30 ≤ s from by omega), ne_eq, not_true_eq_false, not_false_eq_true, if_true, if_false, eq_self, eb_l, eb_r, and_true, true_and, and_false, false_and]) c47 (oFr.t oFr.rfl ft47)
theorem co7_10_24 {D : zD} {T : zT} (hT : hTab T) (hO : vOK T) {N : Nat} {h : zH} {Q : zR → Prop} {B : Nat → Int} {n m i s d : Nat} {τ P : PT} (w x z : Int) (o : Option zV) (hv0 : zHv h) (hX : cX B n m τ i h) (hK : Tks B n m τ) (hP : cP 24 P h) (hb : (0 ≤ P 0 0 ∧ P 0 0 ≤ 8) ∧ (0 ≤ P 0 1 ∧ P 0 1 ≤ 6) ∧ (0 ≤ P 0 2 ∧ P 0 2 ≤ 3) ∧ (0 ≤ P 0 3 ∧ P 0 3 ≤ 6)) (hl : h 17 2 = (2, 24)) (hs : h 18 1 = (0, (s : Int))) (hd : h 17 4 = (0, (d : Int))) (hz : h 18 0 = (0, z)) (bs : s ≤ 30) (bd : d ≤ 3) (bz : 0 ≤ z) (bzd : z + d ≤ 2 * s) (ho : ∀ e : Nat, e < d → 0 ≤ (h 23 e).2 ∧ (h 23 e).2 < z) (hx : 0 ≤ x ∧ x < 900) (h0 : τ 0 i ≠ 0) (h1 : τ 0 i = 1) (h3 : τ 3 i = 10) (ih : ∀ g s' d' i' a b z' o' K u v j, pStep τ P s d i = .inr (s', d', i') → cX B n m τ i' g → cP 24 P g → g 17 2 = (2, 24) → g 18 1 = (0, a) → a = (s' : Int) → g 17 4 = (0, b) → b = (d' : Int) → g 18 0 = (0, z') → s' ≤ 30 ∧ d' ≤ 3 ∧ 0 ≤ z' ∧ z' + d' ≤ 2 * s' → (∀ e : Nat, e < d' → 0 ≤ (g 23 e).2 ∧ (g 23 e).2 < z') → oFr h g → z' = z + 1 → pItV τ P i = .inr (K, u, v, j) → oW4 h g z K u v → (∀ e, g 23 e = h 23 e) → vP D T N 88 27 g [some (2, 17), some (2, 24), some (0, w), some (0, (x + 1)), o'] [] Q) (er : ∀ g e, pStep τ P s d i = .inl e → cB e g → oFr h g → Q (g, some (0, 0))) :
    vP D T (N + 1) 88 27 h [some (2, 17), some (2, 24), some (0, w), some (0, x), o] [] Q := by
  have hEn : (bEn τ i) = 0 := bEn_n h0
  have hE : (bW τ 20 i) = 0 := bW_0.mpr (fun c => absurd (h3.symm.trans c.2) (by decide))
  have hsw : ¬ swd τ i < 0 := by rw [swd_v h1, h3]; decide
  have hop : opW (τ 3 i) = false := by rw [h3]; rfl
  have h15 : ¬ τ 3 i = 15 := by rw [h3]; decide
  have harg : ∀ j, oArg τ P (τ 3 i) j = (eb (pNum τ 0 (P 0 2 - 1) j) fun a => eb (pWord τ 6 a.2) fun j => eb (pCell τ (P 0 0) (P 0 1) j) fun c => .inr c.2.2) := fun j => by rw [h3]; rfl
  have hargV : ∀ j, oArV τ P 10 j = (eb (pNum τ 0 (P 0 2 - 1) j) fun a => eb (pWord τ 6 a.2) fun j => eb (pCell τ (P 0 0) (P 0 1) j) fun c => .inr (a.1, c.2.1 * 8 + c.1, c.2.2)) := fun _ => rfl
  refine v_loadS (v := (0, x)) (hi_X6_readText_27 hT) rfl rfl ?_
  refine v_push (900) (hi_X6_readText_28 hT) rfl ?_
  refine v_ic (hi_X6_readText_31 hT) (fun _ => ?_) (fun hc1 => absurd (show x < 900 from hx.2) hc1)
  refine v_load (v := (2, 17)) (hi_X6_readText_34 hT) rfl rfl ?_
  refine v_getR (c := 10) (r := 17) (hi_X6_readText_35 hT) rfl rfl rfl ?_
  refine v_call (w := 1) [some (2, 10)] hO (hi_X6_readText_38 hT) rfl rfl (cx_isEnd hT hO hX ?_)
  show vP D T N 88 41 h [some (2, 17), some (2, 24), some (0, w), some (0, x), o] [(0, (bEn τ i))] _
  refine v_if (hi_X6_readText_41 hT) (fun _ => ?_) (fun hc2 => absurd (show (bEn τ i) = 0 from hEn) hc2)
  refine v_load (v := (2, 17)) (hi_X6_readText_44 hT) rfl rfl ?_
  refine v_getR (c := 10) (r := 17) (hi_X6_readText_45 hT) rfl rfl rfl ?_
  refine v_push (20) (hi_X6_readText_48 hT) rfl ?_
  refine v_call (w := 2) [some (2, 10), some (0, 20)] hO (hi_X6_readText_50 hT) rfl rfl (cx_isWord hT hO 20 hX ?_)
  show vP D T N 88 53 h [some (2, 17), some (2, 24), some (0, w), some (0, x), o] [(0, (bW τ 20 i))] _
  refine v_if (hi_X6_readText_53 hT) (fun _ => ?_) (fun hc3 => absurd (show (bW τ 20 i) = 0 from hE) hc3)
  refine v_load (v := (2, 17)) (hi_X6_readText_63 hT) rfl rfl ?_
  refine v_call (w := 3) [some (2, 17), none, none] hO (hi_X6_readText_64 hT) rfl rfl ?_
  refine v_load (v := (2, 17)) (hi_X6_mayBegin_0 hT) rfl rfl ?_
  refine v_getR (c := 10) (r := 17) (hi_X6_mayBegin_1 hT) rfl rfl rfl ?_
  refine v_call (w := 1) [some (2, 10)] hO (hi_X6_mayBegin_4 hT) rfl rfl (cx_wordK hT hO 10 hX h1 h3 ?_)
  show vP D T N 81 7 h [some (2, 17), none, none] [(0, 10)] _
  refine v_store1 [some (2, 17), some (0, 10), none] (hi_X6_mayBegin_7 hT) ⟨rfl, Nat.ne_of_beq_eq_false rfl⟩ (Nat.le_of_ble_eq_true rfl) rfl ?_
  refine v_load (v := (0, 10)) (hi_X6_mayBegin_8 hT) rfl rfl ?_
  refine v_push (15) (hi_X6_mayBegin_9 hT) rfl ?_
  refine v_ic (hi_X6_mayBegin_11 hT) (fun hc4 => absurd (show (10 : Int) = 15 from hc4) (by decide)) (fun _ => ?_)
  refine v_load (v := (0, 10)) (hi_X6_mayBegin_14 hT) rfl rfl ?_
  refine v_push (19) (hi_X6_mayBegin_15 hT) rfl ?_
  refine v_ic (hi_X6_mayBegin_17 hT) (fun hc5 => absurd (show (10 : Int) = 19 from hc5) (by decide)) (fun _ => ?_)
  refine v_push (0) (hi_X6_mayBegin_24 hT) rfl ?_
  refine v_store1 [some (2, 17), some (0, 10), some (0, 0)] (hi_X6_mayBegin_25 hT) ⟨rfl, Nat.ne_of_beq_eq_false rfl⟩ (Nat.le_of_ble_eq_true rfl) rfl ?_
  refine v_load (v := (0, 0)) (hi_X6_mayBegin_26 hT) rfl rfl ?_
  refine v_if (hi_X6_mayBegin_27 hT) (fun _ => ?_) (fun hc6 => absurd (show (0 : Int) = 0 from (by decide)) hc6)
  refine v_load (v := (0, 10)) (hi_X6_mayBegin_30 hT) rfl rfl ?_
  refine v_push (8) (hi_X6_mayBegin_31 hT) rfl ?_
  refine v_ic (hi_X6_mayBegin_33 hT) (fun hc7 => absurd (show (10 : Int) < 8 from hc7) (by decide)) (fun _ => ?_)
  refine v_load (v := (0, 10)) (hi_X6_mayBegin_36 hT) rfl rfl ?_
  refine v_push (14) (hi_X6_mayBegin_37 hT) rfl ?_
  refine v_ic (hi_X6_mayBegin_39 hT) (fun hc8 => absurd (show 14 < (10 : Int) from hc8) (by decide)) (fun _ => ?_)
  refine v_load (v := (2, 17)) (hi_X6_mayBegin_57 hT) rfl rfl ?_
  refine v_getR (c := 18) (r := 17) (hi_X6_mayBegin_58 hT) rfl rfl rfl ?_
  refine v_getf (v := (0, (s : Int))) (r := 18) (hi_X6_mayBegin_61 hT) rfl rfl (fun _ => hs) ?_
  refine v_push (30) (hi_X6_mayBegin_64 hT) rfl ?_
  refine v_ic (hi_X6_mayBegin_66 hT) (fun hc9 => ?_) (fun hc9 => ?_)
  · have hc9 : (s : Int) < 30 := hc9
    refine v_load (v := (0, 0)) (hi_X6_mayBegin_79 hT) rfl rfl ?_
    refine v_if (hi_X6_mayBegin_80 hT) (fun _ => ?_) (fun hc10 => absurd (show (0 : Int) = 0 from (by decide)) hc10)
    refine v_push (1) (hi_X6_mayBegin_101 hT) rfl ?_
    refine v_ret (hi_X6_mayBegin_102 hT) (Or.inl rfl) ?_
    show vP D T N 88 67 h [some (2, 17), some (2, 24), some (0, w), some (0, x), o] [(0, 1)] _
    refine v_if (hi_X6_readText_67 hT) (fun hc11 => absurd (show (1 : Int) = 0 from hc11) (by decide)) (fun _ => ?_)
    refine v_load (v := (2, 17)) (hi_X6_readText_70 hT) rfl rfl ?_
    refine v_load (v := (2, 17)) (hi_X6_readText_71 hT) rfl rfl ?_
    refine v_call (w := 3) [some (2, 17), none, none] hO (hi_X6_readText_72 hT) rfl rfl ?_
    refine v_load (v := (2, 17)) (hi_X6_beginStep_0 hT) rfl rfl ?_
    refine v_getR (c := 10) (r := 17) (hi_X6_beginStep_1 hT) rfl rfl rfl ?_
    refine v_call (w := 1) [some (2, 10)] hO (hi_X6_beginStep_4 hT) rfl rfl (cx_wordK hT hO 10 hX h1 h3 ?_)
    show vP D T N 80 7 h [some (2, 17), none, none] [(0, 10)] _
    refine v_store1 [some (2, 17), some (0, 10), none] (hi_X6_beginStep_7 hT) ⟨rfl, Nat.ne_of_beq_eq_false rfl⟩ (Nat.le_of_ble_eq_true rfl) rfl ?_
    refine v_load (v := (2, 17)) (hi_X6_beginStep_8 hT) rfl rfl ?_
    refine v_getR (c := 10) (r := 17) (hi_X6_beginStep_9 hT) rfl rfl rfl ?_
    refine v_call (w := 1) [some (2, 10)] hO (hi_X6_beginStep_12 hT) rfl rfl (cx_adv hT hO hX (ne_10 h1) (ne_14 h1) (fun g12 ft12 hX12 => ?_))
    · show vP D T N 80 15 g12 [some (2, 17), some (0, 10), none] [] _
      refine vP_hv (fun hv12 => ?_)
      refine v_load (v := (0, 10)) (hi_X6_beginStep_15 hT) rfl rfl ?_
      refine v_push (15) (hi_X6_beginStep_16 hT) rfl ?_
      refine v_ic (hi_X6_beginStep_18 hT) (fun hc13 => absurd (show (10 : Int) = 15 from hc13) (by decide)) (fun _ => ?_)
      refine v_load (v := (0, 10)) (hi_X6_beginStep_21 hT) rfl rfl ?_
      refine v_push (19) (hi_X6_beginStep_22 hT) rfl ?_
      refine v_ic (hi_X6_beginStep_24 hT) (fun hc14 => absurd (show (10 : Int) = 19 from hc14) (by decide)) (fun _ => ?_)
      refine v_load (v := (0, 10)) (hi_X6_beginStep_61 hT) rfl rfl ?_
      refine v_push (15) (hi_X6_beginStep_62 hT) rfl ?_
      refine v_ic (hi_X6_beginStep_64 hT) (fun hc15 => absurd (show (10 : Int) = 15 from hc15) (by decide)) (fun _ => ?_)
      refine v_load (v := (0, 10)) (hi_X6_beginStep_67 hT) rfl rfl ?_
      refine v_ret (hi_X6_beginStep_68 hT) (Or.inl rfl) ?_
      show vP D T N 88 75 g12 [some (2, 17), some (2, 24), some (0, w), some (0, x), o] [(0, 10), (2, 17)] _
      refine v_call (w := 2) [some (2, 17), some (0, 10)] hO (hi_X6_readText_75 hT) rfl rfl ?_
      refine v_load (v := (0, 10)) (hi_X6_readStep_0 hT) rfl rfl ?_
      refine v_sw (hi_X6_readStep_1 hT) ?_
      refine ⟨fun c => absurd c (by decide), fun _ => ?_⟩
      refine ⟨fun c => absurd c (by decide), fun _ => ?_⟩
      refine ⟨fun c => absurd c (by decide), fun _ => ?_⟩
      refine ⟨fun c => absurd c (by decide), fun _ => ?_⟩
      refine ⟨fun c => absurd c (by decide), fun _ => ?_⟩
      refine ⟨fun c => absurd c (by decide), fun _ => ?_⟩
      refine ⟨fun c => absurd c (by decide), fun _ => ?_⟩
      refine ⟨fun c => absurd c (by decide), fun _ => ?_⟩
      refine ⟨fun c => absurd c (by decide), fun _ => ?_⟩
      refine ⟨fun c => absurd c (by decide), fun _ => ?_⟩
      refine ⟨fun c => absurd c (by decide), fun _ => ?_⟩
      refine ⟨fun _ => ?_, fun c => absurd rfl c⟩
      refine v_load (v := (2, 17)) (hi_X6_readStep_102 hT) rfl rfl ?_
      refine v_load (v := (0, 10)) (hi_X6_readStep_103 hT) rfl rfl ?_
      refine v_call (w := 3) [some (2, 17), some (0, 10), none] hO (hi_X6_readStep_104 hT) rfl rfl ?_
      refine v_load (v := (2, 17)) (hi_X6_readCopyCell_0 hT) rfl rfl ?_
      refine v_getR (c := 10) (r := 17) (hi_X6_readCopyCell_1 hT) rfl rfl rfl ?_
      refine v_push (0) (hi_X6_readCopyCell_4 hT) rfl ?_
      refine v_load (v := (2, 17)) (hi_X6_readCopyCell_5 hT) rfl rfl ?_
      refine v_getf (v := (2, 24)) (r := 17) (hi_X6_readCopyCell_6 hT) rfl rfl (fun _ => (Eq.trans (ft12 17 2 (by first | decide | exact fun c => by omega)) hl)) ?_
      refine v_getf (v := (0, (P 0 2))) (r := 24) (hi_X6_readCopyCell_9 hT) rfl rfl (fun _ => (Eq.trans (ft12 24 2 (by first | decide | exact fun c => by omega)) hP.1.2.2.1)) ?_
      refine v_push (1) (hi_X6_readCopyCell_12 hT) rfl ?_
      refine v_bin (w := ((P 0 2) - 1)) (hi_X6_readCopyCell_13 hT) (hq_sub (by omega) (by omega)) ?_
      refine v_call (w := 4) [some (2, 10), some (0, 0), some (0, ((P 0 2) - 1)), none] hO (hi_X6_readCopyCell_14 hT) rfl rfl (cx_num hT hO 0 (((P 0 2) - 1)) hX12 (fun g17 x16 ft17 q17 bux16 bvx16 hX17 => ?_) (fun g18 e18 ft18 q18 c18 => ?_))
      · show vP D T N 83 17 g17 [some (2, 17), some (0, 10), none] [(0, x16)] _
        refine vP_hv (fun hv17 => ?_)
        refine v_store1 [some (2, 17), some (0, 10), some (0, x16)] (hi_X6_readCopyCell_17 hT) ⟨rfl, Nat.ne_of_beq_eq_false rfl⟩ (Nat.le_of_ble_eq_true rfl) rfl ?_
        refine v_load (v := (0, x16)) (hi_X6_readCopyCell_18 hT) rfl rfl ?_
        refine v_push (-1) (hi_X6_readCopyCell_19 hT) rfl ?_
        refine v_ic (hi_X6_readCopyCell_20 hT) (fun hc19 => absurd (show x16 = -1 from hc19) (by omega)) (fun _ => ?_)
        refine v_load (v := (2, 17)) (hi_X6_readCopyCell_23 hT) rfl rfl ?_
        refine v_getR (c := 10) (r := 17) (hi_X6_readCopyCell_24 hT) rfl rfl rfl ?_
        refine v_push (6) (hi_X6_readCopyCell_27 hT) rfl ?_
        refine v_call (w := 2) [some (2, 10), some (0, 6)] hO (hi_X6_readCopyCell_29 hT) rfl rfl (cx_word hT hO 6 hX17 (fun g20 ft20 q20 hX20 => ?_) (fun g21 e21 ft21 q21 c21 => ?_))
        · show vP D T N 83 32 g20 [some (2, 17), some (0, 10), some (0, x16)] [(0, 1)] _
          refine vP_hv (fun hv20 => ?_)
          refine v_if (hi_X6_readCopyCell_32 hT) (fun hc22 => absurd (show (1 : Int) = 0 from hc22) (by decide)) (fun _ => ?_)
          refine v_load (v := (2, 17)) (hi_X6_readCopyCell_37 hT) rfl rfl ?_
          refine v_load (v := (0, 10)) (hi_X6_readCopyCell_38 hT) rfl rfl ?_
          refine v_load (v := (0, x16)) (hi_X6_readCopyCell_39 hT) rfl rfl ?_
          refine v_load (v := (2, 17)) (hi_X6_readCopyCell_40 hT) rfl rfl ?_
          refine v_getR (c := 10) (r := 17) (hi_X6_readCopyCell_41 hT) rfl rfl rfl ?_
          refine v_load (v := (2, 17)) (hi_X6_readCopyCell_44 hT) rfl rfl ?_
          refine v_getf (v := (2, 24)) (r := 17) (hi_X6_readCopyCell_45 hT) rfl rfl (fun _ => (Eq.trans (ft20 17 2 (by first | decide | exact fun c => by omega)) (Eq.trans (ft17 17 2 (by first | decide | exact fun c => by omega)) (Eq.trans (ft12 17 2 (by first | decide | exact fun c => by omega)) hl)))) ?_
          refine v_call (w := 4) [some (2, 10), some (2, 24), none, none] hO (hi_X6_readCopyCell_48 hT) rfl rfl (cx_cell_24 hT hO ((P 0 0)) ((P 0 1)) hX20 (Eq.trans (ft20 24 0 (by first | decide | exact fun c => by omega)) (Eq.trans (ft17 24 0 (by first | decide | exact fun c => by omega)) (Eq.trans (ft12 24 0 (by first | decide | exact fun c => by omega)) hP.1.1))) (Eq.trans (ft20 24 1 (by first | decide | exact fun c => by omega)) (Eq.trans (ft17 24 1 (by first | decide | exact fun c => by omega)) (Eq.trans (ft12 24 1 (by first | decide | exact fun c => by omega)) hP.1.2.1))) (by omega) (by omega) (fun g24 x23 y23 ft24 q24 bax23 bbx23 bcx23 bdx23 hX24 => ?_) (fun g25 e25 ft25 q25 c25 => ?_))
          · show vP D T N 83 51 g24 [some (2, 17), some (0, 10), some (0, x16)] [(0, (y23 * 8 + x23)), (0, x16), (0, 10), (2, 17)] _
            refine vP_hv (fun hv24 => ?_)
            refine v_call (w := 4) [some (2, 17), some (0, 10), some (0, x16), some (0, (y23 * 8 + x23))] hO (hi_X6_readCopyCell_51 hT) rfl rfl ?_
            refine v_load (v := (0, x16)) (hi_X6_readTwo_0 hT) rfl rfl ?_
            refine v_push (-1) (hi_X6_readTwo_1 hT) rfl ?_
            refine v_ic (hi_X6_readTwo_2 hT) (fun hc26 => absurd (show x16 = -1 from hc26) (by omega)) (fun _ => ?_)
            refine v_load (v := (0, (y23 * 8 + x23))) (hi_X6_readTwo_5 hT) rfl rfl ?_
            refine v_push (-1) (hi_X6_readTwo_6 hT) rfl ?_
            refine v_ic (hi_X6_readTwo_7 hT) (fun hc27 => absurd (show (y23 * 8 + x23) = -1 from hc27) (by omega)) (fun _ => ?_)
            refine v_load (v := (2, 17)) (hi_X6_readTwo_10 hT) rfl rfl ?_
            refine v_getR (c := 18) (r := 17) (hi_X6_readTwo_11 hT) rfl rfl rfl ?_
            refine v_load (v := (0, 10)) (hi_X6_readTwo_14 hT) rfl rfl ?_
            refine v_load (v := (0, x16)) (hi_X6_readTwo_15 hT) rfl rfl ?_
            refine v_load (v := (0, (y23 * 8 + x23))) (hi_X6_readTwo_16 hT) rfl rfl ?_
            refine v_call (w := 4) [some (2, 18), some (0, 10), some (0, x16), some (0, (y23 * 8 + x23))] hO (hi_X6_readTwo_17 hT) rfl rfl ?_
            refine v_load (v := (2, 18)) (hi_X5_add_0 hT) rfl rfl ?_
            refine v_getf (v := (0, z)) (r := 18) (hi_X5_add_1 hT) rfl rfl (fun _ => (Eq.trans (ft24 18 0 (by first | decide | exact fun c => by omega)) (Eq.trans (ft20 18 0 (by first | decide | exact fun c => by omega)) (Eq.trans (ft17 18 0 (by first | decide | exact fun c => by omega)) (Eq.trans (ft12 18 0 (by first | decide | exact fun c => by omega)) hz))))) ?_
            refine v_if (hi_X5_add_4 hT) (fun hc28 => absurd (show z < 0 from hc28) (by omega)) (fun _ => ?_)
            refine v_load (v := (2, 18)) (hi_X5_add_7 hT) rfl rfl ?_
            refine v_getf (v := (0, z)) (r := 18) (hi_X5_add_8 hT) rfl rfl (fun _ => (Eq.trans (ft24 18 0 (by first | decide | exact fun c => by omega)) (Eq.trans (ft20 18 0 (by first | decide | exact fun c => by omega)) (Eq.trans (ft17 18 0 (by first | decide | exact fun c => by omega)) (Eq.trans (ft12 18 0 (by first | decide | exact fun c => by omega)) hz))))) ?_
            refine v_push (60) (hi_X5_add_11 hT) rfl ?_
            refine v_ic (hi_X5_add_13 hT) (fun _ => ?_) (fun hc29 => absurd (show z < 60 from (by omega)) hc29)
            refine v_load (v := (2, 18)) (hi_X5_add_18 hT) rfl rfl ?_
            refine v_getR (c := 19) (r := 18) (hi_X5_add_19 hT) rfl rfl rfl ?_
            refine v_load (v := (2, 18)) (hi_X5_add_22 hT) rfl rfl ?_
            refine v_getf (v := (0, z)) (r := 18) (hi_X5_add_23 hT) rfl rfl (fun _ => (Eq.trans (ft24 18 0 (by first | decide | exact fun c => by omega)) (Eq.trans (ft20 18 0 (by first | decide | exact fun c => by omega)) (Eq.trans (ft17 18 0 (by first | decide | exact fun c => by omega)) (Eq.trans (ft12 18 0 (by first | decide | exact fun c => by omega)) hz))))) ?_
            refine v_load (v := (0, 10)) (hi_X5_add_26 hT) rfl rfl ?_
            refine v_ast (r := 19) (hi_X5_add_27 hT) rfl rfl (fun ha30 hb31 hf32 => ?_)
            refine v_load (v := (2, 18)) (hi_X5_add_28 hT) rfl rfl ?_
            refine v_getR (c := 20) (r := 18) (hi_X5_add_29 hT) rfl rfl rfl ?_
            refine v_load (v := (2, 18)) (hi_X5_add_32 hT) rfl rfl ?_
            refine v_getf (v := (0, z)) (r := 18) (hi_X5_add_33 hT) rfl rfl (fun _ => Eq.trans (zset_ne (fun c => absurd c.1 (by decide))) ((Eq.trans (ft24 18 0 (by first | decide | exact fun c => by omega)) (Eq.trans (ft20 18 0 (by first | decide | exact fun c => by omega)) (Eq.trans (ft17 18 0 (by first | decide | exact fun c => by omega)) (Eq.trans (ft12 18 0 (by first | decide | exact fun c => by omega)) hz)))))) ?_
            refine v_load (v := (0, x16)) (hi_X5_add_36 hT) rfl rfl ?_
            refine v_ast (r := 20) (hi_X5_add_37 hT) rfl rfl (fun ha33 hb34 hf35 => ?_)
            refine v_load (v := (2, 18)) (hi_X5_add_38 hT) rfl rfl ?_
            refine v_getR (c := 21) (r := 18) (hi_X5_add_39 hT) rfl rfl rfl ?_
            refine v_load (v := (2, 18)) (hi_X5_add_42 hT) rfl rfl ?_
            refine v_getf (v := (0, z)) (r := 18) (hi_X5_add_43 hT) rfl rfl (fun _ => Eq.trans (Eq.trans (zset_ne (fun c => absurd c.1 (by decide))) (zset_ne (fun c => absurd c.1 (by decide)))) ((Eq.trans (ft24 18 0 (by first | decide | exact fun c => by omega)) (Eq.trans (ft20 18 0 (by first | decide | exact fun c => by omega)) (Eq.trans (ft17 18 0 (by first | decide | exact fun c => by omega)) (Eq.trans (ft12 18 0 (by first | decide | exact fun c => by omega)) hz)))))) ?_
            refine v_load (v := (0, (y23 * 8 + x23))) (hi_X5_add_46 hT) rfl rfl ?_
            refine v_ast (r := 21) (hi_X5_add_47 hT) rfl rfl (fun ha36 hb37 hf38 => ?_)
            refine v_load (v := (2, 18)) (hi_X5_add_48 hT) rfl rfl ?_
            refine v_getR (c := 22) (r := 18) (hi_X5_add_49 hT) rfl rfl rfl ?_
            refine v_load (v := (2, 18)) (hi_X5_add_52 hT) rfl rfl ?_
            refine v_getf (v := (0, z)) (r := 18) (hi_X5_add_53 hT) rfl rfl (fun _ => Eq.trans (Eq.trans (zset_ne (fun c => absurd c.1 (by decide))) (Eq.trans (zset_ne (fun c => absurd c.1 (by decide))) (zset_ne (fun c => absurd c.1 (by decide))))) ((Eq.trans (ft24 18 0 (by first | decide | exact fun c => by omega)) (Eq.trans (ft20 18 0 (by first | decide | exact fun c => by omega)) (Eq.trans (ft17 18 0 (by first | decide | exact fun c => by omega)) (Eq.trans (ft12 18 0 (by first | decide | exact fun c => by omega)) hz)))))) ?_
            refine v_push (-1) (hi_X5_add_56 hT) rfl ?_
            refine v_ast (r := 22) (hi_X5_add_57 hT) rfl rfl (fun ha39 hb40 hf41 => ?_)
            refine v_load (v := (2, 18)) (hi_X5_add_58 hT) rfl rfl ?_
            refine v_dup (hi_X5_add_59 hT) (Nat.ne_of_beq_eq_false rfl) ?_
            refine v_getf (v := (0, z)) (r := 18) (hi_X5_add_60 hT) rfl rfl (fun _ => Eq.trans (Eq.trans (zset_ne (fun c => absurd c.1 (by decide))) (Eq.trans (zset_ne (fun c => absurd c.1 (by decide))) (Eq.trans (zset_ne (fun c => absurd c.1 (by decide))) (zset_ne (fun c => absurd c.1 (by decide)))))) ((Eq.trans (ft24 18 0 (by first | decide | exact fun c => by omega)) (Eq.trans (ft20 18 0 (by first | decide | exact fun c => by omega)) (Eq.trans (ft17 18 0 (by first | decide | exact fun c => by omega)) (Eq.trans (ft12 18 0 (by first | decide | exact fun c => by omega)) hz)))))) ?_
            refine v_push (1) (hi_X5_add_63 hT) rfl ?_
            refine v_bin (w := (z + 1)) (hi_X5_add_64 hT) (hq_add (by omega) (by omega)) ?_
            refine v_putf (r := 18) hO (hi_X5_add_65 hT) rfl (fun hf42 => ?_)
            refine v_load (v := (2, 18)) (hi_X5_add_68 hT) rfl rfl ?_
            refine v_dup (hi_X5_add_69 hT) (Nat.ne_of_beq_eq_false rfl) ?_
            refine v_getf (v := (0, (s : Int))) (r := 18) (hi_X5_add_70 hT) rfl rfl (fun _ => Eq.trans (Eq.trans (zset_ne (fun c => absurd c.2 (by decide))) (Eq.trans (zset_ne (fun c => absurd c.1 (by decide))) (Eq.trans (zset_ne (fun c => absurd c.1 (by decide))) (Eq.trans (zset_ne (fun c => absurd c.1 (by decide))) (zset_ne (fun c => absurd c.1 (by decide))))))) ((Eq.trans (ft24 18 1 (by first | decide | exact fun c => by omega)) (Eq.trans (ft20 18 1 (by first | decide | exact fun c => by omega)) (Eq.trans (ft17 18 1 (by first | decide | exact fun c => by omega)) (Eq.trans (ft12 18 1 (by first | decide | exact fun c => by omega)) hs)))))) ?_
            refine v_push (1) (hi_X5_add_73 hT) rfl ?_
            refine v_bin (w := ((s : Int) + 1)) (hi_X5_add_74 hT) (hq_add (by omega) (by omega)) ?_
            refine v_putf (r := 18) hO (hi_X5_add_75 hT) rfl (fun hf43 => ?_)
            refine v_push (1) (hi_X5_add_78 hT) rfl ?_
            refine v_ret (hi_X5_add_79 hT) (Or.inl rfl) ?_
            show vP D T N 89 20 (zset (zset (zset (zset (zset (zset g24 19 z.toNat (0, 10)) 20 z.toNat (0, x16)) 21 z.toNat (0, (y23 * 8 + x23))) 22 z.toNat (0, -1)) 18 0 (0, (z + 1))) 18 1 (0, ((s : Int) + 1))) [some (2, 17), some (0, 10), some (0, x16), some (0, (y23 * 8 + x23))] [(0, 1)] _
            refine v_if (hi_X6_readTwo_20 hT) (fun hc44 => absurd (show (1 : Int) = 0 from hc44) (by decide)) (fun _ => ?_)
            refine v_push (1) (hi_X6_readTwo_23 hT) rfl ?_
            refine v_goto (hi_X6_readTwo_24 hT) ?_
            refine v_ret (hi_X6_readTwo_28 hT) (Or.inl rfl) ?_
            show vP D T N 83 54 (zset (zset (zset (zset (zset (zset g24 19 z.toNat (0, 10)) 20 z.toNat (0, x16)) 21 z.toNat (0, (y23 * 8 + x23))) 22 z.toNat (0, -1)) 18 0 (0, (z + 1))) 18 1 (0, ((s : Int) + 1))) [some (2, 17), some (0, 10), some (0, x16)] [(0, 1)] _
            refine v_ret (hi_X6_readCopyCell_54 hT) (Or.inl rfl) ?_
            show vP D T N 87 107 (zset (zset (zset (zset (zset (zset g24 19 z.toNat (0, 10)) 20 z.toNat (0, x16)) 21 z.toNat (0, (y23 * 8 + x23))) 22 z.toNat (0, -1)) 18 0 (0, (z + 1))) 18 1 (0, ((s : Int) + 1))) [some (2, 17), some (0, 10)] [(0, 1)] _
            refine v_ret (hi_X6_readStep_107 hT) (Or.inl rfl) ?_
            show vP D T N 88 78 (zset (zset (zset (zset (zset (zset g24 19 z.toNat (0, 10)) 20 z.toNat (0, x16)) 21 z.toNat (0, (y23 * 8 + x23))) 22 z.toNat (0, -1)) 18 0 (0, (z + 1))) 18 1 (0, ((s : Int) + 1))) [some (2, 17), some (2, 24), some (0, w), some (0, x), o] [(0, 1)] _
            refine v_if (hi_X6_readText_78 hT) (fun hc45 => absurd (show (1 : Int) = 0 from hc45) (by decide)) (fun _ => ?_)
            refine v_push (1) (hi_X6_readText_81 hT) rfl ?_
            refine v_goto (hi_X6_readText_82 hT) ?_
            refine v_store1 [some (2, 17), some (2, 24), some (0, w), some (0, x), some (0, 1)] (hi_X6_readText_86 hT) ⟨rfl, Nat.ne_of_beq_eq_false rfl⟩ (Nat.le_of_ble_eq_true rfl) rfl ?_
            refine v_load (v := (0, 1)) (hi_X6_readText_88 hT) rfl rfl ?_
            refine v_if (hi_X6_readText_90 hT) (fun hc46 => absurd (show (1 : Int) = 0 from hc46) (by decide)) (fun _ => ?_)
            refine v_load (v := (2, 17)) (hi_X6_readText_93 hT) rfl rfl ?_
            refine v_getR (c := 10) (r := 17) (hi_X6_readText_94 hT) rfl rfl rfl ?_
            refine v_call (w := 1) [some (2, 10)] hO (hi_X6_readText_97 hT) rfl rfl (cx_stop hT hO (cX.z (r := 18) (k := 1) (v := (0, ((s : Int) + 1))) (by decide) (cX.z (r := 18) (k := 0) (v := (0, (z + 1))) (by decide) (cX.z (r := 22) (k := z.toNat) (v := (0, -1)) (by decide) (cX.z (r := 21) (k := z.toNat) (v := (0, (y23 * 8 + x23))) (by decide) (cX.z (r := 20) (k := z.toNat) (v := (0, x16)) (by decide) (cX.z (r := 19) (k := z.toNat) (v := (0, 10)) (by decide) hX24)))))) (fun g47 ft47 q47 hX47 => ?_) (fun g48 e48 ft48 q48 c48 => ?_))
            · show vP D T N 88 100 g47 [some (2, 17), some (2, 24), some (0, w), some (0, x), some (0, 1)] [(0, 1)] _
              refine vP_hv (fun hv47 => ?_)
              refine v_if (hi_X6_readText_100 hT) (fun hc49 => absurd (show (1 : Int) = 0 from hc49) (by decide)) (fun _ => ?_)
              refine v_iinc (x := x) (u := 1) (w := (x + 1)) [some (2, 17), some (2, 24), some (0, w), some (0, (x + 1)), some (0, 1)] (hi_X6_readText_105 hT) rfl rfl (Nat.le_of_ble_eq_true rfl) (vz_inc (by omega) (by omega)) rfl ?_
              refine v_goto (hi_X6_readText_108 hT) ?_
              exact ih g47 (s + 1) (d) (i + 1 + 1 + 1 + 1 + 1 + 1) _ _ _ (some (0, 1)) 10 x16 ((y23 * 8 + x23)) (i + 1 + 1 + 1 + 1 + 1) (by simp only [pStep, hE, hsw, hop, h15, opW15, harg, pNm, Bool.false_eq_true, (show ¬ 30 ≤ s from by omega), q17, q20, q24, q47, ne_eq, not_true_eq_false, not_false_eq_true, if_true, if_false, eq_self, eb_l, eb_r, and_true, true_and, and_false, false_and]) hX47 ((cP.z (a := 18) (b := 1) (v := (0, ((s : Int) + 1))) (by decide) (cP.z (a := 18) (b := 0) (v := (0, (z + 1))) (by decide) (cP.z (a := 22) (b := z.toNat) (v := (0, -1)) (by decide) (cP.z (a := 21) (b := z.toNat) (v := (0, (y23 * 8 + x23))) (by decide) (cP.z (a := 20) (b := z.toNat) (v := (0, x16)) (by decide) (cP.z (a := 19) (b := z.toNat) (v := (0, 10)) (by decide) ((((hP.tf ft12).tf ft17).tf ft20).tf ft24))))))).tf ft47) (Eq.trans (ft47 17 2 (by first | decide | exact fun c => by omega)) (Eq.trans (Eq.trans (zset_ne (fun c => absurd c.1 (by decide))) (Eq.trans (zset_ne (fun c => absurd c.1 (by decide))) (Eq.trans (zset_ne (fun c => absurd c.1 (by decide))) (Eq.trans (zset_ne (fun c => absurd c.1 (by decide))) (Eq.trans (zset_ne (fun c => absurd c.1 (by decide))) (zset_ne (fun c => absurd c.1 (by decide)))))))) ((Eq.trans (ft24 17 2 (by first | decide | exact fun c => by omega)) (Eq.trans (ft20 17 2 (by first | decide | exact fun c => by omega)) (Eq.trans (ft17 17 2 (by first | decide | exact fun c => by omega)) (Eq.trans (ft12 17 2 (by first | decide | exact fun c => by omega)) hl))))))) (Eq.trans (ft47 18 1 (by first | decide | exact fun c => by omega)) (zset_same)) (by omega) (Eq.trans (ft47 17 4 (by first | decide | exact fun c => by omega)) (Eq.trans (Eq.trans (zset_ne (fun c => absurd c.1 (by decide))) (Eq.trans (zset_ne (fun c => absurd c.1 (by decide))) (Eq.trans (zset_ne (fun c => absurd c.1 (by decide))) (Eq.trans (zset_ne (fun c => absurd c.1 (by decide))) (Eq.trans (zset_ne (fun c => absurd c.1 (by decide))) (zset_ne (fun c => absurd c.1 (by decide)))))))) ((Eq.trans (ft24 17 4 (by first | decide | exact fun c => by omega)) (Eq.trans (ft20 17 4 (by first | decide | exact fun c => by omega)) (Eq.trans (ft17 17 4 (by first | decide | exact fun c => by omega)) (Eq.trans (ft12 17 4 (by first | decide | exact fun c => by omega)) hd))))))) (by omega) (Eq.trans (ft47 18 0 (by first | decide | exact fun c => by omega)) (Eq.trans (zset_ne (fun c => absurd c.2 (by decide))) zset_same)) (by omega) (ob_same (o23_t ft47 (o23_n (r := 18) (k := 1) (v := (0, ((s : Int) + 1))) (by decide) (o23_n (r := 18) (k := 0) (v := (0, (z + 1))) (by decide) (o23_n (r := 22) (k := z.toNat) (v := (0, -1)) (by decide) (o23_n (r := 21) (k := z.toNat) (v := (0, (y23 * 8 + x23))) (by decide) (o23_n (r := 20) (k := z.toNat) (v := (0, x16)) (by decide) (o23_n (r := 19) (k := z.toNat) (v := (0, 10)) (by decide) (o23_t ft24 (o23_t ft20 (o23_t ft17 (o23_t ft12 (fun _ => Eq.refl _)))))))))))) ho (by omega) (by omega)) (oFr.t (oFr.z (a := 18) (b := 1) (v := (0, ((s : Int) + 1))) (by omega) (oFr.z (a := 18) (b := 0) (v := (0, (z + 1))) (by omega) (oFr.z (a := 22) (b := z.toNat) (v := (0, -1)) (by omega) (oFr.z (a := 21) (b := z.toNat) (v := (0, (y23 * 8 + x23))) (by omega) (oFr.z (a := 20) (b := z.toNat) (v := (0, x16)) (by omega) (oFr.z (a := 19) (b := z.toNat) (v := (0, 10)) (by omega) (oFr.t (oFr.t (oFr.t (oFr.t oFr.rfl ft12) ft17) ft20) ft24))))))) ft47) rfl (pItV_a h3 (by decide) (by simp only [hargV, (show ¬ 30 ≤ s from by omega), q17, q20, q24, q47, ne_eq, not_true_eq_false, not_false_eq_true, if_true, if_false, eq_self, eb_l, eb_r, and_true, true_and, and_false, false_and])) ⟨(kr_f (fun e => ft47 19 e (fun c => by omega)) (kr_n (a := 18) (k := 1) (v := (0, ((s : Int) + 1))) (by decide) (kr_n (a := 18) (k := 0) (v := (0, (z + 1))) (by decide) (kr_n (a := 22) (k := z.toNat) (v := (0, -1)) (by decide) (kr_n (a := 21) (k := z.toNat) (v := (0, (y23 * 8 + x23))) (by decide) (kr_n (a := 20) (k := z.toNat) (v := (0, x16)) (by decide) (kr_z (k := z.toNat) (v := (0, 10)) (kr_f (fun e => ft24 19 e (fun c => by omega)) (kr_f (fun e => ft20 19 e (fun c => by omega)) (kr_f (fun e => ft17 19 e (fun c => by omega)) (kr_f (fun e => ft12 19 e (fun c => by omega)) (fun _ => Eq.refl _)))))))))))), (kr_f (fun e => ft47 20 e (fun c => by omega)) (kr_n (a := 18) (k := 1) (v := (0, ((s : Int) + 1))) (by decide) (kr_n (a := 18) (k := 0) (v := (0, (z + 1))) (by decide) (kr_n (a := 22) (k := z.toNat) (v := (0, -1)) (by decide) (kr_n (a := 21) (k := z.toNat) (v := (0, (y23 * 8 + x23))) (by decide) (kr_z (k := z.toNat) (v := (0, x16)) (kr_n (a := 19) (k := z.toNat) (v := (0, 10)) (by decide) (kr_f (fun e => ft24 20 e (fun c => by omega)) (kr_f (fun e => ft20 20 e (fun c => by omega)) (kr_f (fun e => ft17 20 e (fun c => by omega)) (kr_f (fun e => ft12 20 e (fun c => by omega)) (fun _ => Eq.refl _)))))))))))), (kr_f (fun e => ft47 21 e (fun c => by omega)) (kr_n (a := 18) (k := 1) (v := (0, ((s : Int) + 1))) (by decide) (kr_n (a := 18) (k := 0) (v := (0, (z + 1))) (by decide) (kr_n (a := 22) (k := z.toNat) (v := (0, -1)) (by decide) (kr_z (k := z.toNat) (v := (0, (y23 * 8 + x23))) (kr_n (a := 20) (k := z.toNat) (v := (0, x16)) (by decide) (kr_n (a := 19) (k := z.toNat) (v := (0, 10)) (by decide) (kr_f (fun e => ft24 21 e (fun c => by omega)) (kr_f (fun e => ft20 21 e (fun c => by omega)) (kr_f (fun e => ft17 21 e (fun c => by omega)) (kr_f (fun e => ft12 21 e (fun c => by omega)) (fun _ => Eq.refl _)))))))))))), (kr_f (fun e => ft47 22 e (fun c => by omega)) (kr_n (a := 18) (k := 1) (v := (0, ((s : Int) + 1))) (by decide) (kr_n (a := 18) (k := 0) (v := (0, (z + 1))) (by decide) (kr_z (k := z.toNat) (v := (0, -1)) (kr_n (a := 21) (k := z.toNat) (v := (0, (y23 * 8 + x23))) (by decide) (kr_n (a := 20) (k := z.toNat) (v := (0, x16)) (by decide) (kr_n (a := 19) (k := z.toNat) (v := (0, 10)) (by decide) (kr_f (fun e => ft24 22 e (fun c => by omega)) (kr_f (fun e => ft20 22 e (fun c => by omega)) (kr_f (fun e => ft17 22 e (fun c => by omega)) (kr_f (fun e => ft12 22 e (fun c => by omega)) (fun _ => Eq.refl _))))))))))))⟩ (kr_f (fun e => ft47 23 e (fun c => by omega)) (kr_n (a := 18) (k := 1) (v := (0, ((s : Int) + 1))) (by decide) (kr_n (a := 18) (k := 0) (v := (0, (z + 1))) (by decide) (kr_n (a := 22) (k := z.toNat) (v := (0, -1)) (by decide) (kr_n (a := 21) (k := z.toNat) (v := (0, (y23 * 8 + x23))) (by decide) (kr_n (a := 20) (k := z.toNat) (v := (0, x16)) (by decide) (kr_n (a := 19) (k := z.toNat) (v := (0, 10)) (by decide) (kr_f (fun e => ft24 23 e (fun c => by omega)) (kr_f (fun e => ft20 23 e (fun c => by omega)) (kr_f (fun e => ft17 23 e (fun c => by omega)) (kr_f (fun e => ft12 23 e (fun c => by omega)) (fun _ => Eq.refl _))))))))))))
            · show vP D T N 88 100 g48 [some (2, 17), some (2, 24), some (0, w), some (0, x), some (0, 1)] [(0, 0)] _
              refine vP_hv (fun hv48 => ?_)
              refine v_if (hi_X6_readText_100 hT) (fun _ => ?_) (fun hc50 => absurd (show (0 : Int) = 0 from (by decide)) hc50)
              refine v_push (0) (hi_X6_readText_103 hT) rfl ?_
              refine v_ret (hi_X6_readText_104 hT) (Or.inl rfl) ?_
              exact er _ _ (by simp only [pStep, hE, hsw, hop, h15, opW15, harg, pNm, Bool.false_eq_true, (show ¬ 30 ≤ s from by omega), q17, q20, q24, q48, ne_eq, not_true_eq_false, not_false_eq_true, if_true, if_false, eq_self, eb_l, eb_r, and_true, true_and, and_false, false_and]) c48 (oFr.t (oFr.z (a := 18) (b := 1) (v := (0, ((s : Int) + 1))) (by omega) (oFr.z (a := 18) (b := 0) (v := (0, (z + 1))) (by omega) (oFr.z (a := 22) (b := z.toNat) (v := (0, -1)) (by omega) (oFr.z (a := 21) (b := z.toNat) (v := (0, (y23 * 8 + x23))) (by omega) (oFr.z (a := 20) (b := z.toNat) (v := (0, x16)) (by omega) (oFr.z (a := 19) (b := z.toNat) (v := (0, 10)) (by omega) (oFr.t (oFr.t (oFr.t (oFr.t oFr.rfl ft12) ft17) ft20) ft24))))))) ft48)
          · show vP D T N 83 51 g25 [some (2, 17), some (0, 10), some (0, x16)] [(0, -1), (0, x16), (0, 10), (2, 17)] _
            refine vP_hv (fun hv25 => ?_)
            refine v_call (w := 4) [some (2, 17), some (0, 10), some (0, x16), some (0, -1)] hO (hi_X6_readCopyCell_51 hT) rfl rfl ?_
            refine v_load (v := (0, x16)) (hi_X6_readTwo_0 hT) rfl rfl ?_
            refine v_push (-1) (hi_X6_readTwo_1 hT) rfl ?_
            refine v_ic (hi_X6_readTwo_2 hT) (fun hc51 => absurd (show x16 = -1 from hc51) (by omega)) (fun _ => ?_)
            refine v_load (v := (0, -1)) (hi_X6_readTwo_5 hT) rfl rfl ?_
            refine v_push (-1) (hi_X6_readTwo_6 hT) rfl ?_
            refine v_ic (hi_X6_readTwo_7 hT) (fun _ => ?_) (fun hc52 => absurd (show (-1 : Int) = -1 from (by decide)) hc52)
            refine v_push (0) (hi_X6_readTwo_27 hT) rfl ?_
            refine v_ret (hi_X6_readTwo_28 hT) (Or.inl rfl) ?_
            show vP D T N 83 54 g25 [some (2, 17), some (0, 10), some (0, x16)] [(0, 0)] _
            refine v_ret (hi_X6_readCopyCell_54 hT) (Or.inl rfl) ?_
            show vP D T N 87 107 g25 [some (2, 17), some (0, 10)] [(0, 0)] _
            refine v_ret (hi_X6_readStep_107 hT) (Or.inl rfl) ?_
            show vP D T N 88 78 g25 [some (2, 17), some (2, 24), some (0, w), some (0, x), o] [(0, 0)] _
            refine v_if (hi_X6_readText_78 hT) (fun _ => ?_) (fun hc53 => absurd (show (0 : Int) = 0 from (by decide)) hc53)
            refine v_push (0) (hi_X6_readText_85 hT) rfl ?_
            refine v_store1 [some (2, 17), some (2, 24), some (0, w), some (0, x), some (0, 0)] (hi_X6_readText_86 hT) ⟨rfl, Nat.ne_of_beq_eq_false rfl⟩ (Nat.le_of_ble_eq_true rfl) rfl ?_
            refine v_load (v := (0, 0)) (hi_X6_readText_88 hT) rfl rfl ?_
            refine v_if (hi_X6_readText_90 hT) (fun _ => ?_) (fun hc54 => absurd (show (0 : Int) = 0 from (by decide)) hc54)
            refine v_push (0) (hi_X6_readText_103 hT) rfl ?_
            refine v_ret (hi_X6_readText_104 hT) (Or.inl rfl) ?_
            exact er _ _ (by simp only [pStep, hE, hsw, hop, h15, opW15, harg, pNm, Bool.false_eq_true, (show ¬ 30 ≤ s from by omega), q17, q20, q25, ne_eq, not_true_eq_false, not_false_eq_true, if_true, if_false, eq_self, eb_l, eb_r, and_true, true_and, and_false, false_and]) c25 (oFr.t (oFr.t (oFr.t (oFr.t oFr.rfl ft12) ft17) ft20) ft25)
        · show vP D T N 83 32 g21 [some (2, 17), some (0, 10), some (0, x16)] [(0, 0)] _
          refine vP_hv (fun hv21 => ?_)
          refine v_if (hi_X6_readCopyCell_32 hT) (fun _ => ?_) (fun hc55 => absurd (show (0 : Int) = 0 from (by decide)) hc55)
          refine v_push (0) (hi_X6_readCopyCell_35 hT) rfl ?_
          refine v_ret (hi_X6_readCopyCell_36 hT) (Or.inl rfl) ?_
          show vP D T N 87 107 g21 [some (2, 17), some (0, 10)] [(0, 0)] _
          refine v_ret (hi_X6_readStep_107 hT) (Or.inl rfl) ?_
          show vP D T N 88 78 g21 [some (2, 17), some (2, 24), some (0, w), some (0, x), o] [(0, 0)] _
          refine v_if (hi_X6_readText_78 hT) (fun _ => ?_) (fun hc56 => absurd (show (0 : Int) = 0 from (by decide)) hc56)
          refine v_push (0) (hi_X6_readText_85 hT) rfl ?_
          refine v_store1 [some (2, 17), some (2, 24), some (0, w), some (0, x), some (0, 0)] (hi_X6_readText_86 hT) ⟨rfl, Nat.ne_of_beq_eq_false rfl⟩ (Nat.le_of_ble_eq_true rfl) rfl ?_
          refine v_load (v := (0, 0)) (hi_X6_readText_88 hT) rfl rfl ?_
          refine v_if (hi_X6_readText_90 hT) (fun _ => ?_) (fun hc57 => absurd (show (0 : Int) = 0 from (by decide)) hc57)
          refine v_push (0) (hi_X6_readText_103 hT) rfl ?_
          refine v_ret (hi_X6_readText_104 hT) (Or.inl rfl) ?_
          exact er _ _ (by simp only [pStep, hE, hsw, hop, h15, opW15, harg, pNm, Bool.false_eq_true, (show ¬ 30 ≤ s from by omega), q17, q21, ne_eq, not_true_eq_false, not_false_eq_true, if_true, if_false, eq_self, eb_l, eb_r, and_true, true_and, and_false, false_and]) c21 (oFr.t (oFr.t (oFr.t oFr.rfl ft12) ft17) ft21)
      · show vP D T N 83 17 g18 [some (2, 17), some (0, 10), none] [(0, -1)] _
        refine vP_hv (fun hv18 => ?_)
        refine v_store1 [some (2, 17), some (0, 10), some (0, -1)] (hi_X6_readCopyCell_17 hT) ⟨rfl, Nat.ne_of_beq_eq_false rfl⟩ (Nat.le_of_ble_eq_true rfl) rfl ?_
        refine v_load (v := (0, -1)) (hi_X6_readCopyCell_18 hT) rfl rfl ?_
        refine v_push (-1) (hi_X6_readCopyCell_19 hT) rfl ?_
        refine v_ic (hi_X6_readCopyCell_20 hT) (fun _ => ?_) (fun hc58 => absurd (show (-1 : Int) = -1 from (by decide)) hc58)
        refine v_push (0) (hi_X6_readCopyCell_35 hT) rfl ?_
        refine v_ret (hi_X6_readCopyCell_36 hT) (Or.inl rfl) ?_
        show vP D T N 87 107 g18 [some (2, 17), some (0, 10)] [(0, 0)] _
        refine v_ret (hi_X6_readStep_107 hT) (Or.inl rfl) ?_
        show vP D T N 88 78 g18 [some (2, 17), some (2, 24), some (0, w), some (0, x), o] [(0, 0)] _
        refine v_if (hi_X6_readText_78 hT) (fun _ => ?_) (fun hc59 => absurd (show (0 : Int) = 0 from (by decide)) hc59)
        refine v_push (0) (hi_X6_readText_85 hT) rfl ?_
        refine v_store1 [some (2, 17), some (2, 24), some (0, w), some (0, x), some (0, 0)] (hi_X6_readText_86 hT) ⟨rfl, Nat.ne_of_beq_eq_false rfl⟩ (Nat.le_of_ble_eq_true rfl) rfl ?_
        refine v_load (v := (0, 0)) (hi_X6_readText_88 hT) rfl rfl ?_
        refine v_if (hi_X6_readText_90 hT) (fun _ => ?_) (fun hc60 => absurd (show (0 : Int) = 0 from (by decide)) hc60)
        refine v_push (0) (hi_X6_readText_103 hT) rfl ?_
        refine v_ret (hi_X6_readText_104 hT) (Or.inl rfl) ?_
        exact er _ _ (by simp only [pStep, hE, hsw, hop, h15, opW15, harg, pNm, Bool.false_eq_true, (show ¬ 30 ≤ s from by omega), q18, ne_eq, not_true_eq_false, not_false_eq_true, if_true, if_false, eq_self, eb_l, eb_r, and_true, true_and, and_false, false_and]) c18 (oFr.t (oFr.t oFr.rfl ft12) ft18)
  · have hc9 : 30 ≤ (s : Int) := Int.not_lt.mp hc9
    refine v_load (v := (2, 17)) (hi_X6_mayBegin_69 hT) rfl rfl ?_
    refine v_getR (c := 10) (r := 17) (hi_X6_mayBegin_70 hT) rfl rfl rfl ?_
    refine v_push (6) (hi_X6_mayBegin_73 hT) rfl ?_
    refine v_call (w := 2) [some (2, 10), some (0, 6)] hO (hi_X6_mayBegin_75 hT) rfl rfl (cx_blame hT hO 6 hX (fun g61 ft61 c61 => ?_))
    · show vP D T N 81 78 g61 [some (2, 17), some (0, 10), some (0, 0)] [(0, 0)] _
      refine vP_hv (fun hv61 => ?_)
      refine v_ret (hi_X6_mayBegin_78 hT) (Or.inl rfl) ?_
      show vP D T N 88 67 g61 [some (2, 17), some (2, 24), some (0, w), some (0, x), o] [(0, 0)] _
      refine v_if (hi_X6_readText_67 hT) (fun _ => ?_) (fun hc62 => absurd (show (0 : Int) = 0 from (by decide)) hc62)
      refine v_push (0) (hi_X6_readText_85 hT) rfl ?_
      refine v_store1 [some (2, 17), some (2, 24), some (0, w), some (0, x), some (0, 0)] (hi_X6_readText_86 hT) ⟨rfl, Nat.ne_of_beq_eq_false rfl⟩ (Nat.le_of_ble_eq_true rfl) rfl ?_
      refine v_load (v := (0, 0)) (hi_X6_readText_88 hT) rfl rfl ?_
      refine v_if (hi_X6_readText_90 hT) (fun _ => ?_) (fun hc63 => absurd (show (0 : Int) = 0 from (by decide)) hc63)
      refine v_push (0) (hi_X6_readText_103 hT) rfl ?_
      refine v_ret (hi_X6_readText_104 hT) (Or.inl rfl) ?_
      exact er _ _ (by simp only [pStep, hE, hsw, hop, h15, opW15, harg, pNm, Bool.false_eq_true, (show 30 ≤ s from by omega), ne_eq, not_true_eq_false, not_false_eq_true, if_true, if_false, eq_self, eb_l, eb_r, and_true, true_and, and_false, false_and]) c61 (oFr.t oFr.rfl ft61)
theorem co7_11_24 {D : zD} {T : zT} (hT : hTab T) (hO : vOK T) {N : Nat} {h : zH} {Q : zR → Prop} {B : Nat → Int} {n m i s d : Nat} {τ P : PT} (w x z : Int) (o : Option zV) (hv0 : zHv h) (hX : cX B n m τ i h) (hK : Tks B n m τ) (hP : cP 24 P h) (hb : (0 ≤ P 0 0 ∧ P 0 0 ≤ 8) ∧ (0 ≤ P 0 1 ∧ P 0 1 ≤ 6) ∧ (0 ≤ P 0 2 ∧ P 0 2 ≤ 3) ∧ (0 ≤ P 0 3 ∧ P 0 3 ≤ 6)) (hl : h 17 2 = (2, 24)) (hs : h 18 1 = (0, (s : Int))) (hd : h 17 4 = (0, (d : Int))) (hz : h 18 0 = (0, z)) (bs : s ≤ 30) (bd : d ≤ 3) (bz : 0 ≤ z) (bzd : z + d ≤ 2 * s) (ho : ∀ e : Nat, e < d → 0 ≤ (h 23 e).2 ∧ (h 23 e).2 < z) (hx : 0 ≤ x ∧ x < 900) (h0 : τ 0 i ≠ 0) (h1 : τ 0 i = 1) (h3 : τ 3 i = 11) (ih : ∀ g s' d' i' a b z' o' K u v j, pStep τ P s d i = .inr (s', d', i') → cX B n m τ i' g → cP 24 P g → g 17 2 = (2, 24) → g 18 1 = (0, a) → a = (s' : Int) → g 17 4 = (0, b) → b = (d' : Int) → g 18 0 = (0, z') → s' ≤ 30 ∧ d' ≤ 3 ∧ 0 ≤ z' ∧ z' + d' ≤ 2 * s' → (∀ e : Nat, e < d' → 0 ≤ (g 23 e).2 ∧ (g 23 e).2 < z') → oFr h g → z' = z + 1 → pItV τ P i = .inr (K, u, v, j) → oW4 h g z K u v → (∀ e, g 23 e = h 23 e) → vP D T N 88 27 g [some (2, 17), some (2, 24), some (0, w), some (0, (x + 1)), o'] [] Q) (er : ∀ g e, pStep τ P s d i = .inl e → cB e g → oFr h g → Q (g, some (0, 0))) :
    vP D T (N + 1) 88 27 h [some (2, 17), some (2, 24), some (0, w), some (0, x), o] [] Q := by
  have hEn : (bEn τ i) = 0 := bEn_n h0
  have hE : (bW τ 20 i) = 0 := bW_0.mpr (fun c => absurd (h3.symm.trans c.2) (by decide))
  have hsw : ¬ swd τ i < 0 := by rw [swd_v h1, h3]; decide
  have hop : opW (τ 3 i) = false := by rw [h3]; rfl
  have h15 : ¬ τ 3 i = 15 := by rw [h3]; decide
  have harg : ∀ j, oArg τ P (τ 3 i) j = (eb (pNum τ 0 (P 0 2 - 1) j) fun a => eb (pWord τ 7 a.2) fun j => eb (pNum τ 0 (P 0 2 - 1) j) fun b => .inr b.2) := fun j => by rw [h3]; rfl
  have hargV : ∀ j, oArV τ P 11 j = (eb (pNum τ 0 (P 0 2 - 1) j) fun a => eb (pWord τ 7 a.2) fun j => eb (pNum τ 0 (P 0 2 - 1) j) fun b => .inr (a.1, b.1, b.2)) := fun _ => rfl
  refine v_loadS (v := (0, x)) (hi_X6_readText_27 hT) rfl rfl ?_
  refine v_push (900) (hi_X6_readText_28 hT) rfl ?_
  refine v_ic (hi_X6_readText_31 hT) (fun _ => ?_) (fun hc1 => absurd (show x < 900 from hx.2) hc1)
  refine v_load (v := (2, 17)) (hi_X6_readText_34 hT) rfl rfl ?_
  refine v_getR (c := 10) (r := 17) (hi_X6_readText_35 hT) rfl rfl rfl ?_
  refine v_call (w := 1) [some (2, 10)] hO (hi_X6_readText_38 hT) rfl rfl (cx_isEnd hT hO hX ?_)
  show vP D T N 88 41 h [some (2, 17), some (2, 24), some (0, w), some (0, x), o] [(0, (bEn τ i))] _
  refine v_if (hi_X6_readText_41 hT) (fun _ => ?_) (fun hc2 => absurd (show (bEn τ i) = 0 from hEn) hc2)
  refine v_load (v := (2, 17)) (hi_X6_readText_44 hT) rfl rfl ?_
  refine v_getR (c := 10) (r := 17) (hi_X6_readText_45 hT) rfl rfl rfl ?_
  refine v_push (20) (hi_X6_readText_48 hT) rfl ?_
  refine v_call (w := 2) [some (2, 10), some (0, 20)] hO (hi_X6_readText_50 hT) rfl rfl (cx_isWord hT hO 20 hX ?_)
  show vP D T N 88 53 h [some (2, 17), some (2, 24), some (0, w), some (0, x), o] [(0, (bW τ 20 i))] _
  refine v_if (hi_X6_readText_53 hT) (fun _ => ?_) (fun hc3 => absurd (show (bW τ 20 i) = 0 from hE) hc3)
  refine v_load (v := (2, 17)) (hi_X6_readText_63 hT) rfl rfl ?_
  refine v_call (w := 3) [some (2, 17), none, none] hO (hi_X6_readText_64 hT) rfl rfl ?_
  refine v_load (v := (2, 17)) (hi_X6_mayBegin_0 hT) rfl rfl ?_
  refine v_getR (c := 10) (r := 17) (hi_X6_mayBegin_1 hT) rfl rfl rfl ?_
  refine v_call (w := 1) [some (2, 10)] hO (hi_X6_mayBegin_4 hT) rfl rfl (cx_wordK hT hO 11 hX h1 h3 ?_)
  show vP D T N 81 7 h [some (2, 17), none, none] [(0, 11)] _
  refine v_store1 [some (2, 17), some (0, 11), none] (hi_X6_mayBegin_7 hT) ⟨rfl, Nat.ne_of_beq_eq_false rfl⟩ (Nat.le_of_ble_eq_true rfl) rfl ?_
  refine v_load (v := (0, 11)) (hi_X6_mayBegin_8 hT) rfl rfl ?_
  refine v_push (15) (hi_X6_mayBegin_9 hT) rfl ?_
  refine v_ic (hi_X6_mayBegin_11 hT) (fun hc4 => absurd (show (11 : Int) = 15 from hc4) (by decide)) (fun _ => ?_)
  refine v_load (v := (0, 11)) (hi_X6_mayBegin_14 hT) rfl rfl ?_
  refine v_push (19) (hi_X6_mayBegin_15 hT) rfl ?_
  refine v_ic (hi_X6_mayBegin_17 hT) (fun hc5 => absurd (show (11 : Int) = 19 from hc5) (by decide)) (fun _ => ?_)
  refine v_push (0) (hi_X6_mayBegin_24 hT) rfl ?_
  refine v_store1 [some (2, 17), some (0, 11), some (0, 0)] (hi_X6_mayBegin_25 hT) ⟨rfl, Nat.ne_of_beq_eq_false rfl⟩ (Nat.le_of_ble_eq_true rfl) rfl ?_
  refine v_load (v := (0, 0)) (hi_X6_mayBegin_26 hT) rfl rfl ?_
  refine v_if (hi_X6_mayBegin_27 hT) (fun _ => ?_) (fun hc6 => absurd (show (0 : Int) = 0 from (by decide)) hc6)
  refine v_load (v := (0, 11)) (hi_X6_mayBegin_30 hT) rfl rfl ?_
  refine v_push (8) (hi_X6_mayBegin_31 hT) rfl ?_
  refine v_ic (hi_X6_mayBegin_33 hT) (fun hc7 => absurd (show (11 : Int) < 8 from hc7) (by decide)) (fun _ => ?_)
  refine v_load (v := (0, 11)) (hi_X6_mayBegin_36 hT) rfl rfl ?_
  refine v_push (14) (hi_X6_mayBegin_37 hT) rfl ?_
  refine v_ic (hi_X6_mayBegin_39 hT) (fun hc8 => absurd (show 14 < (11 : Int) from hc8) (by decide)) (fun _ => ?_)
  refine v_load (v := (2, 17)) (hi_X6_mayBegin_57 hT) rfl rfl ?_
  refine v_getR (c := 18) (r := 17) (hi_X6_mayBegin_58 hT) rfl rfl rfl ?_
  refine v_getf (v := (0, (s : Int))) (r := 18) (hi_X6_mayBegin_61 hT) rfl rfl (fun _ => hs) ?_
  refine v_push (30) (hi_X6_mayBegin_64 hT) rfl ?_
  refine v_ic (hi_X6_mayBegin_66 hT) (fun hc9 => ?_) (fun hc9 => ?_)
  · have hc9 : (s : Int) < 30 := hc9
    refine v_load (v := (0, 0)) (hi_X6_mayBegin_79 hT) rfl rfl ?_
    refine v_if (hi_X6_mayBegin_80 hT) (fun _ => ?_) (fun hc10 => absurd (show (0 : Int) = 0 from (by decide)) hc10)
    refine v_push (1) (hi_X6_mayBegin_101 hT) rfl ?_
    refine v_ret (hi_X6_mayBegin_102 hT) (Or.inl rfl) ?_
    show vP D T N 88 67 h [some (2, 17), some (2, 24), some (0, w), some (0, x), o] [(0, 1)] _
    refine v_if (hi_X6_readText_67 hT) (fun hc11 => absurd (show (1 : Int) = 0 from hc11) (by decide)) (fun _ => ?_)
    refine v_load (v := (2, 17)) (hi_X6_readText_70 hT) rfl rfl ?_
    refine v_load (v := (2, 17)) (hi_X6_readText_71 hT) rfl rfl ?_
    refine v_call (w := 3) [some (2, 17), none, none] hO (hi_X6_readText_72 hT) rfl rfl ?_
    refine v_load (v := (2, 17)) (hi_X6_beginStep_0 hT) rfl rfl ?_
    refine v_getR (c := 10) (r := 17) (hi_X6_beginStep_1 hT) rfl rfl rfl ?_
    refine v_call (w := 1) [some (2, 10)] hO (hi_X6_beginStep_4 hT) rfl rfl (cx_wordK hT hO 11 hX h1 h3 ?_)
    show vP D T N 80 7 h [some (2, 17), none, none] [(0, 11)] _
    refine v_store1 [some (2, 17), some (0, 11), none] (hi_X6_beginStep_7 hT) ⟨rfl, Nat.ne_of_beq_eq_false rfl⟩ (Nat.le_of_ble_eq_true rfl) rfl ?_
    refine v_load (v := (2, 17)) (hi_X6_beginStep_8 hT) rfl rfl ?_
    refine v_getR (c := 10) (r := 17) (hi_X6_beginStep_9 hT) rfl rfl rfl ?_
    refine v_call (w := 1) [some (2, 10)] hO (hi_X6_beginStep_12 hT) rfl rfl (cx_adv hT hO hX (ne_10 h1) (ne_14 h1) (fun g12 ft12 hX12 => ?_))
    · show vP D T N 80 15 g12 [some (2, 17), some (0, 11), none] [] _
      refine vP_hv (fun hv12 => ?_)
      refine v_load (v := (0, 11)) (hi_X6_beginStep_15 hT) rfl rfl ?_
      refine v_push (15) (hi_X6_beginStep_16 hT) rfl ?_
      refine v_ic (hi_X6_beginStep_18 hT) (fun hc13 => absurd (show (11 : Int) = 15 from hc13) (by decide)) (fun _ => ?_)
      refine v_load (v := (0, 11)) (hi_X6_beginStep_21 hT) rfl rfl ?_
      refine v_push (19) (hi_X6_beginStep_22 hT) rfl ?_
      refine v_ic (hi_X6_beginStep_24 hT) (fun hc14 => absurd (show (11 : Int) = 19 from hc14) (by decide)) (fun _ => ?_)
      refine v_load (v := (0, 11)) (hi_X6_beginStep_61 hT) rfl rfl ?_
      refine v_push (15) (hi_X6_beginStep_62 hT) rfl ?_
      refine v_ic (hi_X6_beginStep_64 hT) (fun hc15 => absurd (show (11 : Int) = 15 from hc15) (by decide)) (fun _ => ?_)
      refine v_load (v := (0, 11)) (hi_X6_beginStep_67 hT) rfl rfl ?_
      refine v_ret (hi_X6_beginStep_68 hT) (Or.inl rfl) ?_
      show vP D T N 88 75 g12 [some (2, 17), some (2, 24), some (0, w), some (0, x), o] [(0, 11), (2, 17)] _
      refine v_call (w := 2) [some (2, 17), some (0, 11)] hO (hi_X6_readText_75 hT) rfl rfl ?_
      refine v_load (v := (0, 11)) (hi_X6_readStep_0 hT) rfl rfl ?_
      refine v_sw (hi_X6_readStep_1 hT) ?_
      refine ⟨fun c => absurd c (by decide), fun _ => ?_⟩
      refine ⟨fun c => absurd c (by decide), fun _ => ?_⟩
      refine ⟨fun c => absurd c (by decide), fun _ => ?_⟩
      refine ⟨fun c => absurd c (by decide), fun _ => ?_⟩
      refine ⟨fun c => absurd c (by decide), fun _ => ?_⟩
      refine ⟨fun c => absurd c (by decide), fun _ => ?_⟩
      refine ⟨fun c => absurd c (by decide), fun _ => ?_⟩
      refine ⟨fun c => absurd c (by decide), fun _ => ?_⟩
      refine ⟨fun c => absurd c (by decide), fun _ => ?_⟩
      refine ⟨fun c => absurd c (by decide), fun _ => ?_⟩
      refine ⟨fun c => absurd c (by decide), fun _ => ?_⟩
      refine ⟨fun c => absurd c (by decide), fun _ => ?_⟩
      refine ⟨fun _ => ?_, fun c => absurd rfl c⟩
      refine v_load (v := (2, 17)) (hz_X6_readStep hT _ _ rfl) rfl rfl ?_
      refine v_load (v := (0, 11)) (hz_X6_readStep hT _ _ rfl) rfl rfl ?_
      refine v_push (7) (hz_X6_readStep hT _ _ rfl) rfl ?_
      refine v_load (v := (2, 17)) (hz_X6_readStep hT _ _ rfl) rfl rfl ?_
      refine v_getf (v := (2, 24)) (r := 17) (hz_X6_readStep hT _ _ rfl) rfl rfl (fun _ => (Eq.trans (ft12 17 2 (by first | decide | exact fun c => by omega)) hl)) ?_
      refine v_getf (v := (0, (P 0 2))) (r := 24) (hz_X6_readStep hT _ _ rfl) rfl rfl (fun _ => (Eq.trans (ft12 24 2 (by first | decide | exact fun c => by omega)) hP.1.2.2.1)) ?_
      refine v_push (1) (hz_X6_readStep hT _ _ rfl) rfl ?_
      refine v_bin (w := ((P 0 2) - 1)) (hz_X6_readStep hT _ _ rfl) (hq_sub (by omega) (by omega)) ?_
      refine v_call (w := 5) [some (2, 17), some (0, 11), some (0, 7), some (0, ((P 0 2) - 1)), none] hO (hz_X6_readStep hT _ _ rfl) rfl rfl ?_
      refine v_load (v := (2, 17)) (hi_X6_readCopyAnd_0 hT) rfl rfl ?_
      refine v_getR (c := 10) (r := 17) (hi_X6_readCopyAnd_1 hT) rfl rfl rfl ?_
      refine v_push (0) (hi_X6_readCopyAnd_4 hT) rfl ?_
      refine v_load (v := (2, 17)) (hi_X6_readCopyAnd_5 hT) rfl rfl ?_
      refine v_getf (v := (2, 24)) (r := 17) (hi_X6_readCopyAnd_6 hT) rfl rfl (fun _ => (Eq.trans (ft12 17 2 (by first | decide | exact fun c => by omega)) hl)) ?_
      refine v_getf (v := (0, (P 0 2))) (r := 24) (hi_X6_readCopyAnd_9 hT) rfl rfl (fun _ => (Eq.trans (ft12 24 2 (by first | decide | exact fun c => by omega)) hP.1.2.2.1)) ?_
      refine v_push (1) (hi_X6_readCopyAnd_12 hT) rfl ?_
      refine v_bin (w := ((P 0 2) - 1)) (hi_X6_readCopyAnd_13 hT) (hq_sub (by omega) (by omega)) ?_
      refine v_call (w := 4) [some (2, 10), some (0, 0), some (0, ((P 0 2) - 1)), none] hO (hi_X6_readCopyAnd_14 hT) rfl rfl (cx_num hT hO 0 (((P 0 2) - 1)) hX12 (fun g17 x16 ft17 q17 bux16 bvx16 hX17 => ?_) (fun g18 e18 ft18 q18 c18 => ?_))
      · show vP D T N 82 17 g17 [some (2, 17), some (0, 11), some (0, 7), some (0, ((P 0 2) - 1)), none] [(0, x16)] _
        refine vP_hv (fun hv17 => ?_)
        refine v_store1 [some (2, 17), some (0, 11), some (0, 7), some (0, ((P 0 2) - 1)), some (0, x16)] (hi_X6_readCopyAnd_17 hT) ⟨rfl, Nat.ne_of_beq_eq_false rfl⟩ (Nat.le_of_ble_eq_true rfl) rfl ?_
        refine v_load (v := (0, x16)) (hi_X6_readCopyAnd_19 hT) rfl rfl ?_
        refine v_push (-1) (hi_X6_readCopyAnd_21 hT) rfl ?_
        refine v_ic (hi_X6_readCopyAnd_22 hT) (fun hc19 => absurd (show x16 = -1 from hc19) (by omega)) (fun _ => ?_)
        refine v_load (v := (2, 17)) (hi_X6_readCopyAnd_25 hT) rfl rfl ?_
        refine v_getR (c := 10) (r := 17) (hi_X6_readCopyAnd_26 hT) rfl rfl rfl ?_
        refine v_load (v := (0, 7)) (hi_X6_readCopyAnd_29 hT) rfl rfl ?_
        refine v_call (w := 2) [some (2, 10), some (0, 7)] hO (hi_X6_readCopyAnd_30 hT) rfl rfl (cx_word hT hO 7 hX17 (fun g20 ft20 q20 hX20 => ?_) (fun g21 e21 ft21 q21 c21 => ?_))
        · show vP D T N 82 33 g20 [some (2, 17), some (0, 11), some (0, 7), some (0, ((P 0 2) - 1)), some (0, x16)] [(0, 1)] _
          refine vP_hv (fun hv20 => ?_)
          refine v_if (hi_X6_readCopyAnd_33 hT) (fun hc22 => absurd (show (1 : Int) = 0 from hc22) (by decide)) (fun _ => ?_)
          refine v_load (v := (2, 17)) (hi_X6_readCopyAnd_38 hT) rfl rfl ?_
          refine v_load (v := (0, 11)) (hi_X6_readCopyAnd_39 hT) rfl rfl ?_
          refine v_load (v := (0, x16)) (hi_X6_readCopyAnd_40 hT) rfl rfl ?_
          refine v_load (v := (2, 17)) (hi_X6_readCopyAnd_42 hT) rfl rfl ?_
          refine v_getR (c := 10) (r := 17) (hi_X6_readCopyAnd_43 hT) rfl rfl rfl ?_
          refine v_push (0) (hi_X6_readCopyAnd_46 hT) rfl ?_
          refine v_load (v := (0, ((P 0 2) - 1))) (hi_X6_readCopyAnd_47 hT) rfl rfl ?_
          refine v_call (w := 4) [some (2, 10), some (0, 0), some (0, ((P 0 2) - 1)), none] hO (hi_X6_readCopyAnd_48 hT) rfl rfl (cx_num hT hO 0 (((P 0 2) - 1)) hX20 (fun g24 x23 ft24 q24 bux23 bvx23 hX24 => ?_) (fun g25 e25 ft25 q25 c25 => ?_))
          · show vP D T N 82 51 g24 [some (2, 17), some (0, 11), some (0, 7), some (0, ((P 0 2) - 1)), some (0, x16)] [(0, x23), (0, x16), (0, 11), (2, 17)] _
            refine vP_hv (fun hv24 => ?_)
            refine v_call (w := 4) [some (2, 17), some (0, 11), some (0, x16), some (0, x23)] hO (hi_X6_readCopyAnd_51 hT) rfl rfl ?_
            refine v_load (v := (0, x16)) (hi_X6_readTwo_0 hT) rfl rfl ?_
            refine v_push (-1) (hi_X6_readTwo_1 hT) rfl ?_
            refine v_ic (hi_X6_readTwo_2 hT) (fun hc26 => absurd (show x16 = -1 from hc26) (by omega)) (fun _ => ?_)
            refine v_load (v := (0, x23)) (hi_X6_readTwo_5 hT) rfl rfl ?_
            refine v_push (-1) (hi_X6_readTwo_6 hT) rfl ?_
            refine v_ic (hi_X6_readTwo_7 hT) (fun hc27 => absurd (show x23 = -1 from hc27) (by omega)) (fun _ => ?_)
            refine v_load (v := (2, 17)) (hi_X6_readTwo_10 hT) rfl rfl ?_
            refine v_getR (c := 18) (r := 17) (hi_X6_readTwo_11 hT) rfl rfl rfl ?_
            refine v_load (v := (0, 11)) (hi_X6_readTwo_14 hT) rfl rfl ?_
            refine v_load (v := (0, x16)) (hi_X6_readTwo_15 hT) rfl rfl ?_
            refine v_load (v := (0, x23)) (hi_X6_readTwo_16 hT) rfl rfl ?_
            refine v_call (w := 4) [some (2, 18), some (0, 11), some (0, x16), some (0, x23)] hO (hi_X6_readTwo_17 hT) rfl rfl ?_
            refine v_load (v := (2, 18)) (hi_X5_add_0 hT) rfl rfl ?_
            refine v_getf (v := (0, z)) (r := 18) (hi_X5_add_1 hT) rfl rfl (fun _ => (Eq.trans (ft24 18 0 (by first | decide | exact fun c => by omega)) (Eq.trans (ft20 18 0 (by first | decide | exact fun c => by omega)) (Eq.trans (ft17 18 0 (by first | decide | exact fun c => by omega)) (Eq.trans (ft12 18 0 (by first | decide | exact fun c => by omega)) hz))))) ?_
            refine v_if (hi_X5_add_4 hT) (fun hc28 => absurd (show z < 0 from hc28) (by omega)) (fun _ => ?_)
            refine v_load (v := (2, 18)) (hi_X5_add_7 hT) rfl rfl ?_
            refine v_getf (v := (0, z)) (r := 18) (hi_X5_add_8 hT) rfl rfl (fun _ => (Eq.trans (ft24 18 0 (by first | decide | exact fun c => by omega)) (Eq.trans (ft20 18 0 (by first | decide | exact fun c => by omega)) (Eq.trans (ft17 18 0 (by first | decide | exact fun c => by omega)) (Eq.trans (ft12 18 0 (by first | decide | exact fun c => by omega)) hz))))) ?_
            refine v_push (60) (hi_X5_add_11 hT) rfl ?_
            refine v_ic (hi_X5_add_13 hT) (fun _ => ?_) (fun hc29 => absurd (show z < 60 from (by omega)) hc29)
            refine v_load (v := (2, 18)) (hi_X5_add_18 hT) rfl rfl ?_
            refine v_getR (c := 19) (r := 18) (hi_X5_add_19 hT) rfl rfl rfl ?_
            refine v_load (v := (2, 18)) (hi_X5_add_22 hT) rfl rfl ?_
            refine v_getf (v := (0, z)) (r := 18) (hi_X5_add_23 hT) rfl rfl (fun _ => (Eq.trans (ft24 18 0 (by first | decide | exact fun c => by omega)) (Eq.trans (ft20 18 0 (by first | decide | exact fun c => by omega)) (Eq.trans (ft17 18 0 (by first | decide | exact fun c => by omega)) (Eq.trans (ft12 18 0 (by first | decide | exact fun c => by omega)) hz))))) ?_
            refine v_load (v := (0, 11)) (hi_X5_add_26 hT) rfl rfl ?_
            refine v_ast (r := 19) (hi_X5_add_27 hT) rfl rfl (fun ha30 hb31 hf32 => ?_)
            refine v_load (v := (2, 18)) (hi_X5_add_28 hT) rfl rfl ?_
            refine v_getR (c := 20) (r := 18) (hi_X5_add_29 hT) rfl rfl rfl ?_
            refine v_load (v := (2, 18)) (hi_X5_add_32 hT) rfl rfl ?_
            refine v_getf (v := (0, z)) (r := 18) (hi_X5_add_33 hT) rfl rfl (fun _ => Eq.trans (zset_ne (fun c => absurd c.1 (by decide))) ((Eq.trans (ft24 18 0 (by first | decide | exact fun c => by omega)) (Eq.trans (ft20 18 0 (by first | decide | exact fun c => by omega)) (Eq.trans (ft17 18 0 (by first | decide | exact fun c => by omega)) (Eq.trans (ft12 18 0 (by first | decide | exact fun c => by omega)) hz)))))) ?_
            refine v_load (v := (0, x16)) (hi_X5_add_36 hT) rfl rfl ?_
            refine v_ast (r := 20) (hi_X5_add_37 hT) rfl rfl (fun ha33 hb34 hf35 => ?_)
            refine v_load (v := (2, 18)) (hi_X5_add_38 hT) rfl rfl ?_
            refine v_getR (c := 21) (r := 18) (hi_X5_add_39 hT) rfl rfl rfl ?_
            refine v_load (v := (2, 18)) (hi_X5_add_42 hT) rfl rfl ?_
            refine v_getf (v := (0, z)) (r := 18) (hi_X5_add_43 hT) rfl rfl (fun _ => Eq.trans (Eq.trans (zset_ne (fun c => absurd c.1 (by decide))) (zset_ne (fun c => absurd c.1 (by decide)))) ((Eq.trans (ft24 18 0 (by first | decide | exact fun c => by omega)) (Eq.trans (ft20 18 0 (by first | decide | exact fun c => by omega)) (Eq.trans (ft17 18 0 (by first | decide | exact fun c => by omega)) (Eq.trans (ft12 18 0 (by first | decide | exact fun c => by omega)) hz)))))) ?_
            refine v_load (v := (0, x23)) (hi_X5_add_46 hT) rfl rfl ?_
            refine v_ast (r := 21) (hi_X5_add_47 hT) rfl rfl (fun ha36 hb37 hf38 => ?_)
            refine v_load (v := (2, 18)) (hi_X5_add_48 hT) rfl rfl ?_
            refine v_getR (c := 22) (r := 18) (hi_X5_add_49 hT) rfl rfl rfl ?_
            refine v_load (v := (2, 18)) (hi_X5_add_52 hT) rfl rfl ?_
            refine v_getf (v := (0, z)) (r := 18) (hi_X5_add_53 hT) rfl rfl (fun _ => Eq.trans (Eq.trans (zset_ne (fun c => absurd c.1 (by decide))) (Eq.trans (zset_ne (fun c => absurd c.1 (by decide))) (zset_ne (fun c => absurd c.1 (by decide))))) ((Eq.trans (ft24 18 0 (by first | decide | exact fun c => by omega)) (Eq.trans (ft20 18 0 (by first | decide | exact fun c => by omega)) (Eq.trans (ft17 18 0 (by first | decide | exact fun c => by omega)) (Eq.trans (ft12 18 0 (by first | decide | exact fun c => by omega)) hz)))))) ?_
            refine v_push (-1) (hi_X5_add_56 hT) rfl ?_
            refine v_ast (r := 22) (hi_X5_add_57 hT) rfl rfl (fun ha39 hb40 hf41 => ?_)
            refine v_load (v := (2, 18)) (hi_X5_add_58 hT) rfl rfl ?_
            refine v_dup (hi_X5_add_59 hT) (Nat.ne_of_beq_eq_false rfl) ?_
            refine v_getf (v := (0, z)) (r := 18) (hi_X5_add_60 hT) rfl rfl (fun _ => Eq.trans (Eq.trans (zset_ne (fun c => absurd c.1 (by decide))) (Eq.trans (zset_ne (fun c => absurd c.1 (by decide))) (Eq.trans (zset_ne (fun c => absurd c.1 (by decide))) (zset_ne (fun c => absurd c.1 (by decide)))))) ((Eq.trans (ft24 18 0 (by first | decide | exact fun c => by omega)) (Eq.trans (ft20 18 0 (by first | decide | exact fun c => by omega)) (Eq.trans (ft17 18 0 (by first | decide | exact fun c => by omega)) (Eq.trans (ft12 18 0 (by first | decide | exact fun c => by omega)) hz)))))) ?_
            refine v_push (1) (hi_X5_add_63 hT) rfl ?_
            refine v_bin (w := (z + 1)) (hi_X5_add_64 hT) (hq_add (by omega) (by omega)) ?_
            refine v_putf (r := 18) hO (hi_X5_add_65 hT) rfl (fun hf42 => ?_)
            refine v_load (v := (2, 18)) (hi_X5_add_68 hT) rfl rfl ?_
            refine v_dup (hi_X5_add_69 hT) (Nat.ne_of_beq_eq_false rfl) ?_
            refine v_getf (v := (0, (s : Int))) (r := 18) (hi_X5_add_70 hT) rfl rfl (fun _ => Eq.trans (Eq.trans (zset_ne (fun c => absurd c.2 (by decide))) (Eq.trans (zset_ne (fun c => absurd c.1 (by decide))) (Eq.trans (zset_ne (fun c => absurd c.1 (by decide))) (Eq.trans (zset_ne (fun c => absurd c.1 (by decide))) (zset_ne (fun c => absurd c.1 (by decide))))))) ((Eq.trans (ft24 18 1 (by first | decide | exact fun c => by omega)) (Eq.trans (ft20 18 1 (by first | decide | exact fun c => by omega)) (Eq.trans (ft17 18 1 (by first | decide | exact fun c => by omega)) (Eq.trans (ft12 18 1 (by first | decide | exact fun c => by omega)) hs)))))) ?_
            refine v_push (1) (hi_X5_add_73 hT) rfl ?_
            refine v_bin (w := ((s : Int) + 1)) (hi_X5_add_74 hT) (hq_add (by omega) (by omega)) ?_
            refine v_putf (r := 18) hO (hi_X5_add_75 hT) rfl (fun hf43 => ?_)
            refine v_push (1) (hi_X5_add_78 hT) rfl ?_
            refine v_ret (hi_X5_add_79 hT) (Or.inl rfl) ?_
            show vP D T N 89 20 (zset (zset (zset (zset (zset (zset g24 19 z.toNat (0, 11)) 20 z.toNat (0, x16)) 21 z.toNat (0, x23)) 22 z.toNat (0, -1)) 18 0 (0, (z + 1))) 18 1 (0, ((s : Int) + 1))) [some (2, 17), some (0, 11), some (0, x16), some (0, x23)] [(0, 1)] _
            refine v_if (hi_X6_readTwo_20 hT) (fun hc44 => absurd (show (1 : Int) = 0 from hc44) (by decide)) (fun _ => ?_)
            refine v_push (1) (hi_X6_readTwo_23 hT) rfl ?_
            refine v_goto (hi_X6_readTwo_24 hT) ?_
            refine v_ret (hi_X6_readTwo_28 hT) (Or.inl rfl) ?_
            show vP D T N 82 54 (zset (zset (zset (zset (zset (zset g24 19 z.toNat (0, 11)) 20 z.toNat (0, x16)) 21 z.toNat (0, x23)) 22 z.toNat (0, -1)) 18 0 (0, (z + 1))) 18 1 (0, ((s : Int) + 1))) [some (2, 17), some (0, 11), some (0, 7), some (0, ((P 0 2) - 1)), some (0, x16)] [(0, 1)] _
            refine v_ret (hi_X6_readCopyAnd_54 hT) (Or.inl rfl) ?_
            show vP D T N 87 148 (zset (zset (zset (zset (zset (zset g24 19 z.toNat (0, 11)) 20 z.toNat (0, x16)) 21 z.toNat (0, x23)) 22 z.toNat (0, -1)) 18 0 (0, (z + 1))) 18 1 (0, ((s : Int) + 1))) [some (2, 17), some (0, 11)] [(0, 1)] _
            refine v_ret (hi_X6_readStep_148 hT) (Or.inl rfl) ?_
            show vP D T N 88 78 (zset (zset (zset (zset (zset (zset g24 19 z.toNat (0, 11)) 20 z.toNat (0, x16)) 21 z.toNat (0, x23)) 22 z.toNat (0, -1)) 18 0 (0, (z + 1))) 18 1 (0, ((s : Int) + 1))) [some (2, 17), some (2, 24), some (0, w), some (0, x), o] [(0, 1)] _
            refine v_if (hi_X6_readText_78 hT) (fun hc45 => absurd (show (1 : Int) = 0 from hc45) (by decide)) (fun _ => ?_)
            refine v_push (1) (hi_X6_readText_81 hT) rfl ?_
            refine v_goto (hi_X6_readText_82 hT) ?_
            refine v_store1 [some (2, 17), some (2, 24), some (0, w), some (0, x), some (0, 1)] (hi_X6_readText_86 hT) ⟨rfl, Nat.ne_of_beq_eq_false rfl⟩ (Nat.le_of_ble_eq_true rfl) rfl ?_
            refine v_load (v := (0, 1)) (hi_X6_readText_88 hT) rfl rfl ?_
            refine v_if (hi_X6_readText_90 hT) (fun hc46 => absurd (show (1 : Int) = 0 from hc46) (by decide)) (fun _ => ?_)
            refine v_load (v := (2, 17)) (hi_X6_readText_93 hT) rfl rfl ?_
            refine v_getR (c := 10) (r := 17) (hi_X6_readText_94 hT) rfl rfl rfl ?_
            refine v_call (w := 1) [some (2, 10)] hO (hi_X6_readText_97 hT) rfl rfl (cx_stop hT hO (cX.z (r := 18) (k := 1) (v := (0, ((s : Int) + 1))) (by decide) (cX.z (r := 18) (k := 0) (v := (0, (z + 1))) (by decide) (cX.z (r := 22) (k := z.toNat) (v := (0, -1)) (by decide) (cX.z (r := 21) (k := z.toNat) (v := (0, x23)) (by decide) (cX.z (r := 20) (k := z.toNat) (v := (0, x16)) (by decide) (cX.z (r := 19) (k := z.toNat) (v := (0, 11)) (by decide) hX24)))))) (fun g47 ft47 q47 hX47 => ?_) (fun g48 e48 ft48 q48 c48 => ?_))
            · show vP D T N 88 100 g47 [some (2, 17), some (2, 24), some (0, w), some (0, x), some (0, 1)] [(0, 1)] _
              refine vP_hv (fun hv47 => ?_)
              refine v_if (hi_X6_readText_100 hT) (fun hc49 => absurd (show (1 : Int) = 0 from hc49) (by decide)) (fun _ => ?_)
              refine v_iinc (x := x) (u := 1) (w := (x + 1)) [some (2, 17), some (2, 24), some (0, w), some (0, (x + 1)), some (0, 1)] (hi_X6_readText_105 hT) rfl rfl (Nat.le_of_ble_eq_true rfl) (vz_inc (by omega) (by omega)) rfl ?_
              refine v_goto (hi_X6_readText_108 hT) ?_
              exact ih g47 (s + 1) (d) (i + 1 + 1 + 1 + 1 + 1) _ _ _ (some (0, 1)) 11 x16 x23 (i + 1 + 1 + 1 + 1) (by simp only [pStep, hE, hsw, hop, h15, opW15, harg, pNm, Bool.false_eq_true, (show ¬ 30 ≤ s from by omega), q17, q20, q24, q47, ne_eq, not_true_eq_false, not_false_eq_true, if_true, if_false, eq_self, eb_l, eb_r, and_true, true_and, and_false, false_and]) hX47 ((cP.z (a := 18) (b := 1) (v := (0, ((s : Int) + 1))) (by decide) (cP.z (a := 18) (b := 0) (v := (0, (z + 1))) (by decide) (cP.z (a := 22) (b := z.toNat) (v := (0, -1)) (by decide) (cP.z (a := 21) (b := z.toNat) (v := (0, x23)) (by decide) (cP.z (a := 20) (b := z.toNat) (v := (0, x16)) (by decide) (cP.z (a := 19) (b := z.toNat) (v := (0, 11)) (by decide) ((((hP.tf ft12).tf ft17).tf ft20).tf ft24))))))).tf ft47) (Eq.trans (ft47 17 2 (by first | decide | exact fun c => by omega)) (Eq.trans (Eq.trans (zset_ne (fun c => absurd c.1 (by decide))) (Eq.trans (zset_ne (fun c => absurd c.1 (by decide))) (Eq.trans (zset_ne (fun c => absurd c.1 (by decide))) (Eq.trans (zset_ne (fun c => absurd c.1 (by decide))) (Eq.trans (zset_ne (fun c => absurd c.1 (by decide))) (zset_ne (fun c => absurd c.1 (by decide)))))))) ((Eq.trans (ft24 17 2 (by first | decide | exact fun c => by omega)) (Eq.trans (ft20 17 2 (by first | decide | exact fun c => by omega)) (Eq.trans (ft17 17 2 (by first | decide | exact fun c => by omega)) (Eq.trans (ft12 17 2 (by first | decide | exact fun c => by omega)) hl))))))) (Eq.trans (ft47 18 1 (by first | decide | exact fun c => by omega)) (zset_same)) (by omega) (Eq.trans (ft47 17 4 (by first | decide | exact fun c => by omega)) (Eq.trans (Eq.trans (zset_ne (fun c => absurd c.1 (by decide))) (Eq.trans (zset_ne (fun c => absurd c.1 (by decide))) (Eq.trans (zset_ne (fun c => absurd c.1 (by decide))) (Eq.trans (zset_ne (fun c => absurd c.1 (by decide))) (Eq.trans (zset_ne (fun c => absurd c.1 (by decide))) (zset_ne (fun c => absurd c.1 (by decide)))))))) ((Eq.trans (ft24 17 4 (by first | decide | exact fun c => by omega)) (Eq.trans (ft20 17 4 (by first | decide | exact fun c => by omega)) (Eq.trans (ft17 17 4 (by first | decide | exact fun c => by omega)) (Eq.trans (ft12 17 4 (by first | decide | exact fun c => by omega)) hd))))))) (by omega) (Eq.trans (ft47 18 0 (by first | decide | exact fun c => by omega)) (Eq.trans (zset_ne (fun c => absurd c.2 (by decide))) zset_same)) (by omega) (ob_same (o23_t ft47 (o23_n (r := 18) (k := 1) (v := (0, ((s : Int) + 1))) (by decide) (o23_n (r := 18) (k := 0) (v := (0, (z + 1))) (by decide) (o23_n (r := 22) (k := z.toNat) (v := (0, -1)) (by decide) (o23_n (r := 21) (k := z.toNat) (v := (0, x23)) (by decide) (o23_n (r := 20) (k := z.toNat) (v := (0, x16)) (by decide) (o23_n (r := 19) (k := z.toNat) (v := (0, 11)) (by decide) (o23_t ft24 (o23_t ft20 (o23_t ft17 (o23_t ft12 (fun _ => Eq.refl _)))))))))))) ho (by omega) (by omega)) (oFr.t (oFr.z (a := 18) (b := 1) (v := (0, ((s : Int) + 1))) (by omega) (oFr.z (a := 18) (b := 0) (v := (0, (z + 1))) (by omega) (oFr.z (a := 22) (b := z.toNat) (v := (0, -1)) (by omega) (oFr.z (a := 21) (b := z.toNat) (v := (0, x23)) (by omega) (oFr.z (a := 20) (b := z.toNat) (v := (0, x16)) (by omega) (oFr.z (a := 19) (b := z.toNat) (v := (0, 11)) (by omega) (oFr.t (oFr.t (oFr.t (oFr.t oFr.rfl ft12) ft17) ft20) ft24))))))) ft47) rfl (pItV_a h3 (by decide) (by simp only [hargV, (show ¬ 30 ≤ s from by omega), q17, q20, q24, q47, ne_eq, not_true_eq_false, not_false_eq_true, if_true, if_false, eq_self, eb_l, eb_r, and_true, true_and, and_false, false_and])) ⟨(kr_f (fun e => ft47 19 e (fun c => by omega)) (kr_n (a := 18) (k := 1) (v := (0, ((s : Int) + 1))) (by decide) (kr_n (a := 18) (k := 0) (v := (0, (z + 1))) (by decide) (kr_n (a := 22) (k := z.toNat) (v := (0, -1)) (by decide) (kr_n (a := 21) (k := z.toNat) (v := (0, x23)) (by decide) (kr_n (a := 20) (k := z.toNat) (v := (0, x16)) (by decide) (kr_z (k := z.toNat) (v := (0, 11)) (kr_f (fun e => ft24 19 e (fun c => by omega)) (kr_f (fun e => ft20 19 e (fun c => by omega)) (kr_f (fun e => ft17 19 e (fun c => by omega)) (kr_f (fun e => ft12 19 e (fun c => by omega)) (fun _ => Eq.refl _)))))))))))), (kr_f (fun e => ft47 20 e (fun c => by omega)) (kr_n (a := 18) (k := 1) (v := (0, ((s : Int) + 1))) (by decide) (kr_n (a := 18) (k := 0) (v := (0, (z + 1))) (by decide) (kr_n (a := 22) (k := z.toNat) (v := (0, -1)) (by decide) (kr_n (a := 21) (k := z.toNat) (v := (0, x23)) (by decide) (kr_z (k := z.toNat) (v := (0, x16)) (kr_n (a := 19) (k := z.toNat) (v := (0, 11)) (by decide) (kr_f (fun e => ft24 20 e (fun c => by omega)) (kr_f (fun e => ft20 20 e (fun c => by omega)) (kr_f (fun e => ft17 20 e (fun c => by omega)) (kr_f (fun e => ft12 20 e (fun c => by omega)) (fun _ => Eq.refl _)))))))))))), (kr_f (fun e => ft47 21 e (fun c => by omega)) (kr_n (a := 18) (k := 1) (v := (0, ((s : Int) + 1))) (by decide) (kr_n (a := 18) (k := 0) (v := (0, (z + 1))) (by decide) (kr_n (a := 22) (k := z.toNat) (v := (0, -1)) (by decide) (kr_z (k := z.toNat) (v := (0, x23)) (kr_n (a := 20) (k := z.toNat) (v := (0, x16)) (by decide) (kr_n (a := 19) (k := z.toNat) (v := (0, 11)) (by decide) (kr_f (fun e => ft24 21 e (fun c => by omega)) (kr_f (fun e => ft20 21 e (fun c => by omega)) (kr_f (fun e => ft17 21 e (fun c => by omega)) (kr_f (fun e => ft12 21 e (fun c => by omega)) (fun _ => Eq.refl _)))))))))))), (kr_f (fun e => ft47 22 e (fun c => by omega)) (kr_n (a := 18) (k := 1) (v := (0, ((s : Int) + 1))) (by decide) (kr_n (a := 18) (k := 0) (v := (0, (z + 1))) (by decide) (kr_z (k := z.toNat) (v := (0, -1)) (kr_n (a := 21) (k := z.toNat) (v := (0, x23)) (by decide) (kr_n (a := 20) (k := z.toNat) (v := (0, x16)) (by decide) (kr_n (a := 19) (k := z.toNat) (v := (0, 11)) (by decide) (kr_f (fun e => ft24 22 e (fun c => by omega)) (kr_f (fun e => ft20 22 e (fun c => by omega)) (kr_f (fun e => ft17 22 e (fun c => by omega)) (kr_f (fun e => ft12 22 e (fun c => by omega)) (fun _ => Eq.refl _))))))))))))⟩ (kr_f (fun e => ft47 23 e (fun c => by omega)) (kr_n (a := 18) (k := 1) (v := (0, ((s : Int) + 1))) (by decide) (kr_n (a := 18) (k := 0) (v := (0, (z + 1))) (by decide) (kr_n (a := 22) (k := z.toNat) (v := (0, -1)) (by decide) (kr_n (a := 21) (k := z.toNat) (v := (0, x23)) (by decide) (kr_n (a := 20) (k := z.toNat) (v := (0, x16)) (by decide) (kr_n (a := 19) (k := z.toNat) (v := (0, 11)) (by decide) (kr_f (fun e => ft24 23 e (fun c => by omega)) (kr_f (fun e => ft20 23 e (fun c => by omega)) (kr_f (fun e => ft17 23 e (fun c => by omega)) (kr_f (fun e => ft12 23 e (fun c => by omega)) (fun _ => Eq.refl _))))))))))))
            · show vP D T N 88 100 g48 [some (2, 17), some (2, 24), some (0, w), some (0, x), some (0, 1)] [(0, 0)] _
              refine vP_hv (fun hv48 => ?_)
              refine v_if (hi_X6_readText_100 hT) (fun _ => ?_) (fun hc50 => absurd (show (0 : Int) = 0 from (by decide)) hc50)
              refine v_push (0) (hi_X6_readText_103 hT) rfl ?_
              refine v_ret (hi_X6_readText_104 hT) (Or.inl rfl) ?_
              exact er _ _ (by simp only [pStep, hE, hsw, hop, h15, opW15, harg, pNm, Bool.false_eq_true, (show ¬ 30 ≤ s from by omega), q17, q20, q24, q48, ne_eq, not_true_eq_false, not_false_eq_true, if_true, if_false, eq_self, eb_l, eb_r, and_true, true_and, and_false, false_and]) c48 (oFr.t (oFr.z (a := 18) (b := 1) (v := (0, ((s : Int) + 1))) (by omega) (oFr.z (a := 18) (b := 0) (v := (0, (z + 1))) (by omega) (oFr.z (a := 22) (b := z.toNat) (v := (0, -1)) (by omega) (oFr.z (a := 21) (b := z.toNat) (v := (0, x23)) (by omega) (oFr.z (a := 20) (b := z.toNat) (v := (0, x16)) (by omega) (oFr.z (a := 19) (b := z.toNat) (v := (0, 11)) (by omega) (oFr.t (oFr.t (oFr.t (oFr.t oFr.rfl ft12) ft17) ft20) ft24))))))) ft48)
          · show vP D T N 82 51 g25 [some (2, 17), some (0, 11), some (0, 7), some (0, ((P 0 2) - 1)), some (0, x16)] [(0, -1), (0, x16), (0, 11), (2, 17)] _
            refine vP_hv (fun hv25 => ?_)
            refine v_call (w := 4) [some (2, 17), some (0, 11), some (0, x16), some (0, -1)] hO (hi_X6_readCopyAnd_51 hT) rfl rfl ?_
            refine v_load (v := (0, x16)) (hi_X6_readTwo_0 hT) rfl rfl ?_
            refine v_push (-1) (hi_X6_readTwo_1 hT) rfl ?_
            refine v_ic (hi_X6_readTwo_2 hT) (fun hc51 => absurd (show x16 = -1 from hc51) (by omega)) (fun _ => ?_)
            refine v_load (v := (0, -1)) (hi_X6_readTwo_5 hT) rfl rfl ?_
            refine v_push (-1) (hi_X6_readTwo_6 hT) rfl ?_
            refine v_ic (hi_X6_readTwo_7 hT) (fun _ => ?_) (fun hc52 => absurd (show (-1 : Int) = -1 from (by decide)) hc52)
            refine v_push (0) (hi_X6_readTwo_27 hT) rfl ?_
            refine v_ret (hi_X6_readTwo_28 hT) (Or.inl rfl) ?_
            show vP D T N 82 54 g25 [some (2, 17), some (0, 11), some (0, 7), some (0, ((P 0 2) - 1)), some (0, x16)] [(0, 0)] _
            refine v_ret (hi_X6_readCopyAnd_54 hT) (Or.inl rfl) ?_
            show vP D T N 87 148 g25 [some (2, 17), some (0, 11)] [(0, 0)] _
            refine v_ret (hi_X6_readStep_148 hT) (Or.inl rfl) ?_
            show vP D T N 88 78 g25 [some (2, 17), some (2, 24), some (0, w), some (0, x), o] [(0, 0)] _
            refine v_if (hi_X6_readText_78 hT) (fun _ => ?_) (fun hc53 => absurd (show (0 : Int) = 0 from (by decide)) hc53)
            refine v_push (0) (hi_X6_readText_85 hT) rfl ?_
            refine v_store1 [some (2, 17), some (2, 24), some (0, w), some (0, x), some (0, 0)] (hi_X6_readText_86 hT) ⟨rfl, Nat.ne_of_beq_eq_false rfl⟩ (Nat.le_of_ble_eq_true rfl) rfl ?_
            refine v_load (v := (0, 0)) (hi_X6_readText_88 hT) rfl rfl ?_
            refine v_if (hi_X6_readText_90 hT) (fun _ => ?_) (fun hc54 => absurd (show (0 : Int) = 0 from (by decide)) hc54)
            refine v_push (0) (hi_X6_readText_103 hT) rfl ?_
            refine v_ret (hi_X6_readText_104 hT) (Or.inl rfl) ?_
            exact er _ _ (by simp only [pStep, hE, hsw, hop, h15, opW15, harg, pNm, Bool.false_eq_true, (show ¬ 30 ≤ s from by omega), q17, q20, q25, ne_eq, not_true_eq_false, not_false_eq_true, if_true, if_false, eq_self, eb_l, eb_r, and_true, true_and, and_false, false_and]) c25 (oFr.t (oFr.t (oFr.t (oFr.t oFr.rfl ft12) ft17) ft20) ft25)
        · show vP D T N 82 33 g21 [some (2, 17), some (0, 11), some (0, 7), some (0, ((P 0 2) - 1)), some (0, x16)] [(0, 0)] _
          refine vP_hv (fun hv21 => ?_)
          refine v_if (hi_X6_readCopyAnd_33 hT) (fun _ => ?_) (fun hc55 => absurd (show (0 : Int) = 0 from (by decide)) hc55)
          refine v_push (0) (hi_X6_readCopyAnd_36 hT) rfl ?_
          refine v_ret (hi_X6_readCopyAnd_37 hT) (Or.inl rfl) ?_
          show vP D T N 87 148 g21 [some (2, 17), some (0, 11)] [(0, 0)] _
          refine v_ret (hi_X6_readStep_148 hT) (Or.inl rfl) ?_
          show vP D T N 88 78 g21 [some (2, 17), some (2, 24), some (0, w), some (0, x), o] [(0, 0)] _
          refine v_if (hi_X6_readText_78 hT) (fun _ => ?_) (fun hc56 => absurd (show (0 : Int) = 0 from (by decide)) hc56)
          refine v_push (0) (hi_X6_readText_85 hT) rfl ?_
          refine v_store1 [some (2, 17), some (2, 24), some (0, w), some (0, x), some (0, 0)] (hi_X6_readText_86 hT) ⟨rfl, Nat.ne_of_beq_eq_false rfl⟩ (Nat.le_of_ble_eq_true rfl) rfl ?_
          refine v_load (v := (0, 0)) (hi_X6_readText_88 hT) rfl rfl ?_
          refine v_if (hi_X6_readText_90 hT) (fun _ => ?_) (fun hc57 => absurd (show (0 : Int) = 0 from (by decide)) hc57)
          refine v_push (0) (hi_X6_readText_103 hT) rfl ?_
          refine v_ret (hi_X6_readText_104 hT) (Or.inl rfl) ?_
          exact er _ _ (by simp only [pStep, hE, hsw, hop, h15, opW15, harg, pNm, Bool.false_eq_true, (show ¬ 30 ≤ s from by omega), q17, q21, ne_eq, not_true_eq_false, not_false_eq_true, if_true, if_false, eq_self, eb_l, eb_r, and_true, true_and, and_false, false_and]) c21 (oFr.t (oFr.t (oFr.t oFr.rfl ft12) ft17) ft21)
      · show vP D T N 82 17 g18 [some (2, 17), some (0, 11), some (0, 7), some (0, ((P 0 2) - 1)), none] [(0, -1)] _
        refine vP_hv (fun hv18 => ?_)
        refine v_store1 [some (2, 17), some (0, 11), some (0, 7), some (0, ((P 0 2) - 1)), some (0, -1)] (hi_X6_readCopyAnd_17 hT) ⟨rfl, Nat.ne_of_beq_eq_false rfl⟩ (Nat.le_of_ble_eq_true rfl) rfl ?_
        refine v_load (v := (0, -1)) (hi_X6_readCopyAnd_19 hT) rfl rfl ?_
        refine v_push (-1) (hi_X6_readCopyAnd_21 hT) rfl ?_
        refine v_ic (hi_X6_readCopyAnd_22 hT) (fun _ => ?_) (fun hc58 => absurd (show (-1 : Int) = -1 from (by decide)) hc58)
        refine v_push (0) (hi_X6_readCopyAnd_36 hT) rfl ?_
        refine v_ret (hi_X6_readCopyAnd_37 hT) (Or.inl rfl) ?_
        show vP D T N 87 148 g18 [some (2, 17), some (0, 11)] [(0, 0)] _
        refine v_ret (hi_X6_readStep_148 hT) (Or.inl rfl) ?_
        show vP D T N 88 78 g18 [some (2, 17), some (2, 24), some (0, w), some (0, x), o] [(0, 0)] _
        refine v_if (hi_X6_readText_78 hT) (fun _ => ?_) (fun hc59 => absurd (show (0 : Int) = 0 from (by decide)) hc59)
        refine v_push (0) (hi_X6_readText_85 hT) rfl ?_
        refine v_store1 [some (2, 17), some (2, 24), some (0, w), some (0, x), some (0, 0)] (hi_X6_readText_86 hT) ⟨rfl, Nat.ne_of_beq_eq_false rfl⟩ (Nat.le_of_ble_eq_true rfl) rfl ?_
        refine v_load (v := (0, 0)) (hi_X6_readText_88 hT) rfl rfl ?_
        refine v_if (hi_X6_readText_90 hT) (fun _ => ?_) (fun hc60 => absurd (show (0 : Int) = 0 from (by decide)) hc60)
        refine v_push (0) (hi_X6_readText_103 hT) rfl ?_
        refine v_ret (hi_X6_readText_104 hT) (Or.inl rfl) ?_
        exact er _ _ (by simp only [pStep, hE, hsw, hop, h15, opW15, harg, pNm, Bool.false_eq_true, (show ¬ 30 ≤ s from by omega), q18, ne_eq, not_true_eq_false, not_false_eq_true, if_true, if_false, eq_self, eb_l, eb_r, and_true, true_and, and_false, false_and]) c18 (oFr.t (oFr.t oFr.rfl ft12) ft18)
  · have hc9 : 30 ≤ (s : Int) := Int.not_lt.mp hc9
    refine v_load (v := (2, 17)) (hi_X6_mayBegin_69 hT) rfl rfl ?_
    refine v_getR (c := 10) (r := 17) (hi_X6_mayBegin_70 hT) rfl rfl rfl ?_
    refine v_push (6) (hi_X6_mayBegin_73 hT) rfl ?_
    refine v_call (w := 2) [some (2, 10), some (0, 6)] hO (hi_X6_mayBegin_75 hT) rfl rfl (cx_blame hT hO 6 hX (fun g61 ft61 c61 => ?_))
    · show vP D T N 81 78 g61 [some (2, 17), some (0, 11), some (0, 0)] [(0, 0)] _
      refine vP_hv (fun hv61 => ?_)
      refine v_ret (hi_X6_mayBegin_78 hT) (Or.inl rfl) ?_
      show vP D T N 88 67 g61 [some (2, 17), some (2, 24), some (0, w), some (0, x), o] [(0, 0)] _
      refine v_if (hi_X6_readText_67 hT) (fun _ => ?_) (fun hc62 => absurd (show (0 : Int) = 0 from (by decide)) hc62)
      refine v_push (0) (hi_X6_readText_85 hT) rfl ?_
      refine v_store1 [some (2, 17), some (2, 24), some (0, w), some (0, x), some (0, 0)] (hi_X6_readText_86 hT) ⟨rfl, Nat.ne_of_beq_eq_false rfl⟩ (Nat.le_of_ble_eq_true rfl) rfl ?_
      refine v_load (v := (0, 0)) (hi_X6_readText_88 hT) rfl rfl ?_
      refine v_if (hi_X6_readText_90 hT) (fun _ => ?_) (fun hc63 => absurd (show (0 : Int) = 0 from (by decide)) hc63)
      refine v_push (0) (hi_X6_readText_103 hT) rfl ?_
      refine v_ret (hi_X6_readText_104 hT) (Or.inl rfl) ?_
      exact er _ _ (by simp only [pStep, hE, hsw, hop, h15, opW15, harg, pNm, Bool.false_eq_true, (show 30 ≤ s from by omega), ne_eq, not_true_eq_false, not_false_eq_true, if_true, if_false, eq_self, eb_l, eb_r, and_true, true_and, and_false, false_and]) c61 (oFr.t oFr.rfl ft61)
theorem co7_12_24 {D : zD} {T : zT} (hT : hTab T) (hO : vOK T) {N : Nat} {h : zH} {Q : zR → Prop} {B : Nat → Int} {n m i s d : Nat} {τ P : PT} (w x z : Int) (o : Option zV) (hv0 : zHv h) (hX : cX B n m τ i h) (hK : Tks B n m τ) (hP : cP 24 P h) (hb : (0 ≤ P 0 0 ∧ P 0 0 ≤ 8) ∧ (0 ≤ P 0 1 ∧ P 0 1 ≤ 6) ∧ (0 ≤ P 0 2 ∧ P 0 2 ≤ 3) ∧ (0 ≤ P 0 3 ∧ P 0 3 ≤ 6)) (hl : h 17 2 = (2, 24)) (hs : h 18 1 = (0, (s : Int))) (hd : h 17 4 = (0, (d : Int))) (hz : h 18 0 = (0, z)) (bs : s ≤ 30) (bd : d ≤ 3) (bz : 0 ≤ z) (bzd : z + d ≤ 2 * s) (ho : ∀ e : Nat, e < d → 0 ≤ (h 23 e).2 ∧ (h 23 e).2 < z) (hx : 0 ≤ x ∧ x < 900) (h0 : τ 0 i ≠ 0) (h1 : τ 0 i = 1) (h3 : τ 3 i = 12) (ih : ∀ g s' d' i' a b z' o' K u v j, pStep τ P s d i = .inr (s', d', i') → cX B n m τ i' g → cP 24 P g → g 17 2 = (2, 24) → g 18 1 = (0, a) → a = (s' : Int) → g 17 4 = (0, b) → b = (d' : Int) → g 18 0 = (0, z') → s' ≤ 30 ∧ d' ≤ 3 ∧ 0 ≤ z' ∧ z' + d' ≤ 2 * s' → (∀ e : Nat, e < d' → 0 ≤ (g 23 e).2 ∧ (g 23 e).2 < z') → oFr h g → z' = z + 1 → pItV τ P i = .inr (K, u, v, j) → oW4 h g z K u v → (∀ e, g 23 e = h 23 e) → vP D T N 88 27 g [some (2, 17), some (2, 24), some (0, w), some (0, (x + 1)), o'] [] Q) (er : ∀ g e, pStep τ P s d i = .inl e → cB e g → oFr h g → Q (g, some (0, 0))) :
    vP D T (N + 1) 88 27 h [some (2, 17), some (2, 24), some (0, w), some (0, x), o] [] Q := by
  have hEn : (bEn τ i) = 0 := bEn_n h0
  have hE : (bW τ 20 i) = 0 := bW_0.mpr (fun c => absurd (h3.symm.trans c.2) (by decide))
  have hsw : ¬ swd τ i < 0 := by rw [swd_v h1, h3]; decide
  have hop : opW (τ 3 i) = false := by rw [h3]; rfl
  have h15 : ¬ τ 3 i = 15 := by rw [h3]; decide
  have harg : ∀ j, oArg τ P (τ 3 i) j = (eb (pNum τ 0 (P 0 2 - 1) j) fun a => eb (pWord τ 3 a.2) fun j => eb (pNum τ 0 12 j) fun b => .inr b.2) := fun j => by rw [h3]; rfl
  have hargV : ∀ j, oArV τ P 12 j = (eb (pNum τ 0 (P 0 2 - 1) j) fun a => eb (pWord τ 3 a.2) fun j => eb (pNum τ 0 12 j) fun b => .inr (a.1, b.1, b.2)) := fun _ => rfl
  refine v_loadS (v := (0, x)) (hi_X6_readText_27 hT) rfl rfl ?_
  refine v_push (900) (hi_X6_readText_28 hT) rfl ?_
  refine v_ic (hi_X6_readText_31 hT) (fun _ => ?_) (fun hc1 => absurd (show x < 900 from hx.2) hc1)
  refine v_load (v := (2, 17)) (hi_X6_readText_34 hT) rfl rfl ?_
  refine v_getR (c := 10) (r := 17) (hi_X6_readText_35 hT) rfl rfl rfl ?_
  refine v_call (w := 1) [some (2, 10)] hO (hi_X6_readText_38 hT) rfl rfl (cx_isEnd hT hO hX ?_)
  show vP D T N 88 41 h [some (2, 17), some (2, 24), some (0, w), some (0, x), o] [(0, (bEn τ i))] _
  refine v_if (hi_X6_readText_41 hT) (fun _ => ?_) (fun hc2 => absurd (show (bEn τ i) = 0 from hEn) hc2)
  refine v_load (v := (2, 17)) (hi_X6_readText_44 hT) rfl rfl ?_
  refine v_getR (c := 10) (r := 17) (hi_X6_readText_45 hT) rfl rfl rfl ?_
  refine v_push (20) (hi_X6_readText_48 hT) rfl ?_
  refine v_call (w := 2) [some (2, 10), some (0, 20)] hO (hi_X6_readText_50 hT) rfl rfl (cx_isWord hT hO 20 hX ?_)
  show vP D T N 88 53 h [some (2, 17), some (2, 24), some (0, w), some (0, x), o] [(0, (bW τ 20 i))] _
  refine v_if (hi_X6_readText_53 hT) (fun _ => ?_) (fun hc3 => absurd (show (bW τ 20 i) = 0 from hE) hc3)
  refine v_load (v := (2, 17)) (hi_X6_readText_63 hT) rfl rfl ?_
  refine v_call (w := 3) [some (2, 17), none, none] hO (hi_X6_readText_64 hT) rfl rfl ?_
  refine v_load (v := (2, 17)) (hi_X6_mayBegin_0 hT) rfl rfl ?_
  refine v_getR (c := 10) (r := 17) (hi_X6_mayBegin_1 hT) rfl rfl rfl ?_
  refine v_call (w := 1) [some (2, 10)] hO (hi_X6_mayBegin_4 hT) rfl rfl (cx_wordK hT hO 12 hX h1 h3 ?_)
  show vP D T N 81 7 h [some (2, 17), none, none] [(0, 12)] _
  refine v_store1 [some (2, 17), some (0, 12), none] (hi_X6_mayBegin_7 hT) ⟨rfl, Nat.ne_of_beq_eq_false rfl⟩ (Nat.le_of_ble_eq_true rfl) rfl ?_
  refine v_load (v := (0, 12)) (hi_X6_mayBegin_8 hT) rfl rfl ?_
  refine v_push (15) (hi_X6_mayBegin_9 hT) rfl ?_
  refine v_ic (hi_X6_mayBegin_11 hT) (fun hc4 => absurd (show (12 : Int) = 15 from hc4) (by decide)) (fun _ => ?_)
  refine v_load (v := (0, 12)) (hi_X6_mayBegin_14 hT) rfl rfl ?_
  refine v_push (19) (hi_X6_mayBegin_15 hT) rfl ?_
  refine v_ic (hi_X6_mayBegin_17 hT) (fun hc5 => absurd (show (12 : Int) = 19 from hc5) (by decide)) (fun _ => ?_)
  refine v_push (0) (hi_X6_mayBegin_24 hT) rfl ?_
  refine v_store1 [some (2, 17), some (0, 12), some (0, 0)] (hi_X6_mayBegin_25 hT) ⟨rfl, Nat.ne_of_beq_eq_false rfl⟩ (Nat.le_of_ble_eq_true rfl) rfl ?_
  refine v_load (v := (0, 0)) (hi_X6_mayBegin_26 hT) rfl rfl ?_
  refine v_if (hi_X6_mayBegin_27 hT) (fun _ => ?_) (fun hc6 => absurd (show (0 : Int) = 0 from (by decide)) hc6)
  refine v_load (v := (0, 12)) (hi_X6_mayBegin_30 hT) rfl rfl ?_
  refine v_push (8) (hi_X6_mayBegin_31 hT) rfl ?_
  refine v_ic (hi_X6_mayBegin_33 hT) (fun hc7 => absurd (show (12 : Int) < 8 from hc7) (by decide)) (fun _ => ?_)
  refine v_load (v := (0, 12)) (hi_X6_mayBegin_36 hT) rfl rfl ?_
  refine v_push (14) (hi_X6_mayBegin_37 hT) rfl ?_
  refine v_ic (hi_X6_mayBegin_39 hT) (fun hc8 => absurd (show 14 < (12 : Int) from hc8) (by decide)) (fun _ => ?_)
  refine v_load (v := (2, 17)) (hi_X6_mayBegin_57 hT) rfl rfl ?_
  refine v_getR (c := 18) (r := 17) (hi_X6_mayBegin_58 hT) rfl rfl rfl ?_
  refine v_getf (v := (0, (s : Int))) (r := 18) (hi_X6_mayBegin_61 hT) rfl rfl (fun _ => hs) ?_
  refine v_push (30) (hi_X6_mayBegin_64 hT) rfl ?_
  refine v_ic (hi_X6_mayBegin_66 hT) (fun hc9 => ?_) (fun hc9 => ?_)
  · have hc9 : (s : Int) < 30 := hc9
    refine v_load (v := (0, 0)) (hi_X6_mayBegin_79 hT) rfl rfl ?_
    refine v_if (hi_X6_mayBegin_80 hT) (fun _ => ?_) (fun hc10 => absurd (show (0 : Int) = 0 from (by decide)) hc10)
    refine v_push (1) (hi_X6_mayBegin_101 hT) rfl ?_
    refine v_ret (hi_X6_mayBegin_102 hT) (Or.inl rfl) ?_
    show vP D T N 88 67 h [some (2, 17), some (2, 24), some (0, w), some (0, x), o] [(0, 1)] _
    refine v_if (hi_X6_readText_67 hT) (fun hc11 => absurd (show (1 : Int) = 0 from hc11) (by decide)) (fun _ => ?_)
    refine v_load (v := (2, 17)) (hi_X6_readText_70 hT) rfl rfl ?_
    refine v_load (v := (2, 17)) (hi_X6_readText_71 hT) rfl rfl ?_
    refine v_call (w := 3) [some (2, 17), none, none] hO (hi_X6_readText_72 hT) rfl rfl ?_
    refine v_load (v := (2, 17)) (hi_X6_beginStep_0 hT) rfl rfl ?_
    refine v_getR (c := 10) (r := 17) (hi_X6_beginStep_1 hT) rfl rfl rfl ?_
    refine v_call (w := 1) [some (2, 10)] hO (hi_X6_beginStep_4 hT) rfl rfl (cx_wordK hT hO 12 hX h1 h3 ?_)
    show vP D T N 80 7 h [some (2, 17), none, none] [(0, 12)] _
    refine v_store1 [some (2, 17), some (0, 12), none] (hi_X6_beginStep_7 hT) ⟨rfl, Nat.ne_of_beq_eq_false rfl⟩ (Nat.le_of_ble_eq_true rfl) rfl ?_
    refine v_load (v := (2, 17)) (hi_X6_beginStep_8 hT) rfl rfl ?_
    refine v_getR (c := 10) (r := 17) (hi_X6_beginStep_9 hT) rfl rfl rfl ?_
    refine v_call (w := 1) [some (2, 10)] hO (hi_X6_beginStep_12 hT) rfl rfl (cx_adv hT hO hX (ne_10 h1) (ne_14 h1) (fun g12 ft12 hX12 => ?_))
    · show vP D T N 80 15 g12 [some (2, 17), some (0, 12), none] [] _
      refine vP_hv (fun hv12 => ?_)
      refine v_load (v := (0, 12)) (hi_X6_beginStep_15 hT) rfl rfl ?_
      refine v_push (15) (hi_X6_beginStep_16 hT) rfl ?_
      refine v_ic (hi_X6_beginStep_18 hT) (fun hc13 => absurd (show (12 : Int) = 15 from hc13) (by decide)) (fun _ => ?_)
      refine v_load (v := (0, 12)) (hi_X6_beginStep_21 hT) rfl rfl ?_
      refine v_push (19) (hi_X6_beginStep_22 hT) rfl ?_
      refine v_ic (hi_X6_beginStep_24 hT) (fun hc14 => absurd (show (12 : Int) = 19 from hc14) (by decide)) (fun _ => ?_)
      refine v_load (v := (0, 12)) (hi_X6_beginStep_61 hT) rfl rfl ?_
      refine v_push (15) (hi_X6_beginStep_62 hT) rfl ?_
      refine v_ic (hi_X6_beginStep_64 hT) (fun hc15 => absurd (show (12 : Int) = 15 from hc15) (by decide)) (fun _ => ?_)
      refine v_load (v := (0, 12)) (hi_X6_beginStep_67 hT) rfl rfl ?_
      refine v_ret (hi_X6_beginStep_68 hT) (Or.inl rfl) ?_
      show vP D T N 88 75 g12 [some (2, 17), some (2, 24), some (0, w), some (0, x), o] [(0, 12), (2, 17)] _
      refine v_call (w := 2) [some (2, 17), some (0, 12)] hO (hi_X6_readText_75 hT) rfl rfl ?_
      refine v_load (v := (0, 12)) (hi_X6_readStep_0 hT) rfl rfl ?_
      refine v_sw (hi_X6_readStep_1 hT) ?_
      refine ⟨fun c => absurd c (by decide), fun _ => ?_⟩
      refine ⟨fun c => absurd c (by decide), fun _ => ?_⟩
      refine ⟨fun c => absurd c (by decide), fun _ => ?_⟩
      refine ⟨fun c => absurd c (by decide), fun _ => ?_⟩
      refine ⟨fun c => absurd c (by decide), fun _ => ?_⟩
      refine ⟨fun c => absurd c (by decide), fun _ => ?_⟩
      refine ⟨fun c => absurd c (by decide), fun _ => ?_⟩
      refine ⟨fun c => absurd c (by decide), fun _ => ?_⟩
      refine ⟨fun c => absurd c (by decide), fun _ => ?_⟩
      refine ⟨fun c => absurd c (by decide), fun _ => ?_⟩
      refine ⟨fun c => absurd c (by decide), fun _ => ?_⟩
      refine ⟨fun c => absurd c (by decide), fun _ => ?_⟩
      refine ⟨fun c => absurd c (by decide), fun _ => ?_⟩
      refine ⟨fun _ => ?_, fun c => absurd rfl c⟩
      refine v_load (v := (2, 17)) (hz_X6_readStep hT _ _ rfl) rfl rfl ?_
      refine v_load (v := (0, 12)) (hz_X6_readStep hT _ _ rfl) rfl rfl ?_
      refine v_push (3) (hz_X6_readStep hT _ _ rfl) rfl ?_
      refine v_push (12) (hz_X6_readStep hT _ _ rfl) rfl ?_
      refine v_call (w := 5) [some (2, 17), some (0, 12), some (0, 3), some (0, 12), none] hO (hz_X6_readStep hT _ _ rfl) rfl rfl ?_
      refine v_load (v := (2, 17)) (hi_X6_readCopyAnd_0 hT) rfl rfl ?_
      refine v_getR (c := 10) (r := 17) (hi_X6_readCopyAnd_1 hT) rfl rfl rfl ?_
      refine v_push (0) (hi_X6_readCopyAnd_4 hT) rfl ?_
      refine v_load (v := (2, 17)) (hi_X6_readCopyAnd_5 hT) rfl rfl ?_
      refine v_getf (v := (2, 24)) (r := 17) (hi_X6_readCopyAnd_6 hT) rfl rfl (fun _ => (Eq.trans (ft12 17 2 (by first | decide | exact fun c => by omega)) hl)) ?_
      refine v_getf (v := (0, (P 0 2))) (r := 24) (hi_X6_readCopyAnd_9 hT) rfl rfl (fun _ => (Eq.trans (ft12 24 2 (by first | decide | exact fun c => by omega)) hP.1.2.2.1)) ?_
      refine v_push (1) (hi_X6_readCopyAnd_12 hT) rfl ?_
      refine v_bin (w := ((P 0 2) - 1)) (hi_X6_readCopyAnd_13 hT) (hq_sub (by omega) (by omega)) ?_
      refine v_call (w := 4) [some (2, 10), some (0, 0), some (0, ((P 0 2) - 1)), none] hO (hi_X6_readCopyAnd_14 hT) rfl rfl (cx_num hT hO 0 (((P 0 2) - 1)) hX12 (fun g17 x16 ft17 q17 bux16 bvx16 hX17 => ?_) (fun g18 e18 ft18 q18 c18 => ?_))
      · show vP D T N 82 17 g17 [some (2, 17), some (0, 12), some (0, 3), some (0, 12), none] [(0, x16)] _
        refine vP_hv (fun hv17 => ?_)
        refine v_store1 [some (2, 17), some (0, 12), some (0, 3), some (0, 12), some (0, x16)] (hi_X6_readCopyAnd_17 hT) ⟨rfl, Nat.ne_of_beq_eq_false rfl⟩ (Nat.le_of_ble_eq_true rfl) rfl ?_
        refine v_load (v := (0, x16)) (hi_X6_readCopyAnd_19 hT) rfl rfl ?_
        refine v_push (-1) (hi_X6_readCopyAnd_21 hT) rfl ?_
        refine v_ic (hi_X6_readCopyAnd_22 hT) (fun hc19 => absurd (show x16 = -1 from hc19) (by omega)) (fun _ => ?_)
        refine v_load (v := (2, 17)) (hi_X6_readCopyAnd_25 hT) rfl rfl ?_
        refine v_getR (c := 10) (r := 17) (hi_X6_readCopyAnd_26 hT) rfl rfl rfl ?_
        refine v_load (v := (0, 3)) (hi_X6_readCopyAnd_29 hT) rfl rfl ?_
        refine v_call (w := 2) [some (2, 10), some (0, 3)] hO (hi_X6_readCopyAnd_30 hT) rfl rfl (cx_word hT hO 3 hX17 (fun g20 ft20 q20 hX20 => ?_) (fun g21 e21 ft21 q21 c21 => ?_))
        · show vP D T N 82 33 g20 [some (2, 17), some (0, 12), some (0, 3), some (0, 12), some (0, x16)] [(0, 1)] _
          refine vP_hv (fun hv20 => ?_)
          refine v_if (hi_X6_readCopyAnd_33 hT) (fun hc22 => absurd (show (1 : Int) = 0 from hc22) (by decide)) (fun _ => ?_)
          refine v_load (v := (2, 17)) (hi_X6_readCopyAnd_38 hT) rfl rfl ?_
          refine v_load (v := (0, 12)) (hi_X6_readCopyAnd_39 hT) rfl rfl ?_
          refine v_load (v := (0, x16)) (hi_X6_readCopyAnd_40 hT) rfl rfl ?_
          refine v_load (v := (2, 17)) (hi_X6_readCopyAnd_42 hT) rfl rfl ?_
          refine v_getR (c := 10) (r := 17) (hi_X6_readCopyAnd_43 hT) rfl rfl rfl ?_
          refine v_push (0) (hi_X6_readCopyAnd_46 hT) rfl ?_
          refine v_load (v := (0, 12)) (hi_X6_readCopyAnd_47 hT) rfl rfl ?_
          refine v_call (w := 4) [some (2, 10), some (0, 0), some (0, 12), none] hO (hi_X6_readCopyAnd_48 hT) rfl rfl (cx_num hT hO 0 12 hX20 (fun g24 x23 ft24 q24 bux23 bvx23 hX24 => ?_) (fun g25 e25 ft25 q25 c25 => ?_))
          · show vP D T N 82 51 g24 [some (2, 17), some (0, 12), some (0, 3), some (0, 12), some (0, x16)] [(0, x23), (0, x16), (0, 12), (2, 17)] _
            refine vP_hv (fun hv24 => ?_)
            refine v_call (w := 4) [some (2, 17), some (0, 12), some (0, x16), some (0, x23)] hO (hi_X6_readCopyAnd_51 hT) rfl rfl ?_
            refine v_load (v := (0, x16)) (hi_X6_readTwo_0 hT) rfl rfl ?_
            refine v_push (-1) (hi_X6_readTwo_1 hT) rfl ?_
            refine v_ic (hi_X6_readTwo_2 hT) (fun hc26 => absurd (show x16 = -1 from hc26) (by omega)) (fun _ => ?_)
            refine v_load (v := (0, x23)) (hi_X6_readTwo_5 hT) rfl rfl ?_
            refine v_push (-1) (hi_X6_readTwo_6 hT) rfl ?_
            refine v_ic (hi_X6_readTwo_7 hT) (fun hc27 => absurd (show x23 = -1 from hc27) (by omega)) (fun _ => ?_)
            refine v_load (v := (2, 17)) (hi_X6_readTwo_10 hT) rfl rfl ?_
            refine v_getR (c := 18) (r := 17) (hi_X6_readTwo_11 hT) rfl rfl rfl ?_
            refine v_load (v := (0, 12)) (hi_X6_readTwo_14 hT) rfl rfl ?_
            refine v_load (v := (0, x16)) (hi_X6_readTwo_15 hT) rfl rfl ?_
            refine v_load (v := (0, x23)) (hi_X6_readTwo_16 hT) rfl rfl ?_
            refine v_call (w := 4) [some (2, 18), some (0, 12), some (0, x16), some (0, x23)] hO (hi_X6_readTwo_17 hT) rfl rfl ?_
            refine v_load (v := (2, 18)) (hi_X5_add_0 hT) rfl rfl ?_
            refine v_getf (v := (0, z)) (r := 18) (hi_X5_add_1 hT) rfl rfl (fun _ => (Eq.trans (ft24 18 0 (by first | decide | exact fun c => by omega)) (Eq.trans (ft20 18 0 (by first | decide | exact fun c => by omega)) (Eq.trans (ft17 18 0 (by first | decide | exact fun c => by omega)) (Eq.trans (ft12 18 0 (by first | decide | exact fun c => by omega)) hz))))) ?_
            refine v_if (hi_X5_add_4 hT) (fun hc28 => absurd (show z < 0 from hc28) (by omega)) (fun _ => ?_)
            refine v_load (v := (2, 18)) (hi_X5_add_7 hT) rfl rfl ?_
            refine v_getf (v := (0, z)) (r := 18) (hi_X5_add_8 hT) rfl rfl (fun _ => (Eq.trans (ft24 18 0 (by first | decide | exact fun c => by omega)) (Eq.trans (ft20 18 0 (by first | decide | exact fun c => by omega)) (Eq.trans (ft17 18 0 (by first | decide | exact fun c => by omega)) (Eq.trans (ft12 18 0 (by first | decide | exact fun c => by omega)) hz))))) ?_
            refine v_push (60) (hi_X5_add_11 hT) rfl ?_
            refine v_ic (hi_X5_add_13 hT) (fun _ => ?_) (fun hc29 => absurd (show z < 60 from (by omega)) hc29)
            refine v_load (v := (2, 18)) (hi_X5_add_18 hT) rfl rfl ?_
            refine v_getR (c := 19) (r := 18) (hi_X5_add_19 hT) rfl rfl rfl ?_
            refine v_load (v := (2, 18)) (hi_X5_add_22 hT) rfl rfl ?_
            refine v_getf (v := (0, z)) (r := 18) (hi_X5_add_23 hT) rfl rfl (fun _ => (Eq.trans (ft24 18 0 (by first | decide | exact fun c => by omega)) (Eq.trans (ft20 18 0 (by first | decide | exact fun c => by omega)) (Eq.trans (ft17 18 0 (by first | decide | exact fun c => by omega)) (Eq.trans (ft12 18 0 (by first | decide | exact fun c => by omega)) hz))))) ?_
            refine v_load (v := (0, 12)) (hi_X5_add_26 hT) rfl rfl ?_
            refine v_ast (r := 19) (hi_X5_add_27 hT) rfl rfl (fun ha30 hb31 hf32 => ?_)
            refine v_load (v := (2, 18)) (hi_X5_add_28 hT) rfl rfl ?_
            refine v_getR (c := 20) (r := 18) (hi_X5_add_29 hT) rfl rfl rfl ?_
            refine v_load (v := (2, 18)) (hi_X5_add_32 hT) rfl rfl ?_
            refine v_getf (v := (0, z)) (r := 18) (hi_X5_add_33 hT) rfl rfl (fun _ => Eq.trans (zset_ne (fun c => absurd c.1 (by decide))) ((Eq.trans (ft24 18 0 (by first | decide | exact fun c => by omega)) (Eq.trans (ft20 18 0 (by first | decide | exact fun c => by omega)) (Eq.trans (ft17 18 0 (by first | decide | exact fun c => by omega)) (Eq.trans (ft12 18 0 (by first | decide | exact fun c => by omega)) hz)))))) ?_
            refine v_load (v := (0, x16)) (hi_X5_add_36 hT) rfl rfl ?_
            refine v_ast (r := 20) (hi_X5_add_37 hT) rfl rfl (fun ha33 hb34 hf35 => ?_)
            refine v_load (v := (2, 18)) (hi_X5_add_38 hT) rfl rfl ?_
            refine v_getR (c := 21) (r := 18) (hi_X5_add_39 hT) rfl rfl rfl ?_
            refine v_load (v := (2, 18)) (hi_X5_add_42 hT) rfl rfl ?_
            refine v_getf (v := (0, z)) (r := 18) (hi_X5_add_43 hT) rfl rfl (fun _ => Eq.trans (Eq.trans (zset_ne (fun c => absurd c.1 (by decide))) (zset_ne (fun c => absurd c.1 (by decide)))) ((Eq.trans (ft24 18 0 (by first | decide | exact fun c => by omega)) (Eq.trans (ft20 18 0 (by first | decide | exact fun c => by omega)) (Eq.trans (ft17 18 0 (by first | decide | exact fun c => by omega)) (Eq.trans (ft12 18 0 (by first | decide | exact fun c => by omega)) hz)))))) ?_
            refine v_load (v := (0, x23)) (hi_X5_add_46 hT) rfl rfl ?_
            refine v_ast (r := 21) (hi_X5_add_47 hT) rfl rfl (fun ha36 hb37 hf38 => ?_)
            refine v_load (v := (2, 18)) (hi_X5_add_48 hT) rfl rfl ?_
            refine v_getR (c := 22) (r := 18) (hi_X5_add_49 hT) rfl rfl rfl ?_
            refine v_load (v := (2, 18)) (hi_X5_add_52 hT) rfl rfl ?_
            refine v_getf (v := (0, z)) (r := 18) (hi_X5_add_53 hT) rfl rfl (fun _ => Eq.trans (Eq.trans (zset_ne (fun c => absurd c.1 (by decide))) (Eq.trans (zset_ne (fun c => absurd c.1 (by decide))) (zset_ne (fun c => absurd c.1 (by decide))))) ((Eq.trans (ft24 18 0 (by first | decide | exact fun c => by omega)) (Eq.trans (ft20 18 0 (by first | decide | exact fun c => by omega)) (Eq.trans (ft17 18 0 (by first | decide | exact fun c => by omega)) (Eq.trans (ft12 18 0 (by first | decide | exact fun c => by omega)) hz)))))) ?_
            refine v_push (-1) (hi_X5_add_56 hT) rfl ?_
            refine v_ast (r := 22) (hi_X5_add_57 hT) rfl rfl (fun ha39 hb40 hf41 => ?_)
            refine v_load (v := (2, 18)) (hi_X5_add_58 hT) rfl rfl ?_
            refine v_dup (hi_X5_add_59 hT) (Nat.ne_of_beq_eq_false rfl) ?_
            refine v_getf (v := (0, z)) (r := 18) (hi_X5_add_60 hT) rfl rfl (fun _ => Eq.trans (Eq.trans (zset_ne (fun c => absurd c.1 (by decide))) (Eq.trans (zset_ne (fun c => absurd c.1 (by decide))) (Eq.trans (zset_ne (fun c => absurd c.1 (by decide))) (zset_ne (fun c => absurd c.1 (by decide)))))) ((Eq.trans (ft24 18 0 (by first | decide | exact fun c => by omega)) (Eq.trans (ft20 18 0 (by first | decide | exact fun c => by omega)) (Eq.trans (ft17 18 0 (by first | decide | exact fun c => by omega)) (Eq.trans (ft12 18 0 (by first | decide | exact fun c => by omega)) hz)))))) ?_
            refine v_push (1) (hi_X5_add_63 hT) rfl ?_
            refine v_bin (w := (z + 1)) (hi_X5_add_64 hT) (hq_add (by omega) (by omega)) ?_
            refine v_putf (r := 18) hO (hi_X5_add_65 hT) rfl (fun hf42 => ?_)
            refine v_load (v := (2, 18)) (hi_X5_add_68 hT) rfl rfl ?_
            refine v_dup (hi_X5_add_69 hT) (Nat.ne_of_beq_eq_false rfl) ?_
            refine v_getf (v := (0, (s : Int))) (r := 18) (hi_X5_add_70 hT) rfl rfl (fun _ => Eq.trans (Eq.trans (zset_ne (fun c => absurd c.2 (by decide))) (Eq.trans (zset_ne (fun c => absurd c.1 (by decide))) (Eq.trans (zset_ne (fun c => absurd c.1 (by decide))) (Eq.trans (zset_ne (fun c => absurd c.1 (by decide))) (zset_ne (fun c => absurd c.1 (by decide))))))) ((Eq.trans (ft24 18 1 (by first | decide | exact fun c => by omega)) (Eq.trans (ft20 18 1 (by first | decide | exact fun c => by omega)) (Eq.trans (ft17 18 1 (by first | decide | exact fun c => by omega)) (Eq.trans (ft12 18 1 (by first | decide | exact fun c => by omega)) hs)))))) ?_
            refine v_push (1) (hi_X5_add_73 hT) rfl ?_
            refine v_bin (w := ((s : Int) + 1)) (hi_X5_add_74 hT) (hq_add (by omega) (by omega)) ?_
            refine v_putf (r := 18) hO (hi_X5_add_75 hT) rfl (fun hf43 => ?_)
            refine v_push (1) (hi_X5_add_78 hT) rfl ?_
            refine v_ret (hi_X5_add_79 hT) (Or.inl rfl) ?_
            show vP D T N 89 20 (zset (zset (zset (zset (zset (zset g24 19 z.toNat (0, 12)) 20 z.toNat (0, x16)) 21 z.toNat (0, x23)) 22 z.toNat (0, -1)) 18 0 (0, (z + 1))) 18 1 (0, ((s : Int) + 1))) [some (2, 17), some (0, 12), some (0, x16), some (0, x23)] [(0, 1)] _
            refine v_if (hi_X6_readTwo_20 hT) (fun hc44 => absurd (show (1 : Int) = 0 from hc44) (by decide)) (fun _ => ?_)
            refine v_push (1) (hi_X6_readTwo_23 hT) rfl ?_
            refine v_goto (hi_X6_readTwo_24 hT) ?_
            refine v_ret (hi_X6_readTwo_28 hT) (Or.inl rfl) ?_
            show vP D T N 82 54 (zset (zset (zset (zset (zset (zset g24 19 z.toNat (0, 12)) 20 z.toNat (0, x16)) 21 z.toNat (0, x23)) 22 z.toNat (0, -1)) 18 0 (0, (z + 1))) 18 1 (0, ((s : Int) + 1))) [some (2, 17), some (0, 12), some (0, 3), some (0, 12), some (0, x16)] [(0, 1)] _
            refine v_ret (hi_X6_readCopyAnd_54 hT) (Or.inl rfl) ?_
            show vP D T N 87 157 (zset (zset (zset (zset (zset (zset g24 19 z.toNat (0, 12)) 20 z.toNat (0, x16)) 21 z.toNat (0, x23)) 22 z.toNat (0, -1)) 18 0 (0, (z + 1))) 18 1 (0, ((s : Int) + 1))) [some (2, 17), some (0, 12)] [(0, 1)] _
            refine v_ret (hi_X6_readStep_157 hT) (Or.inl rfl) ?_
            show vP D T N 88 78 (zset (zset (zset (zset (zset (zset g24 19 z.toNat (0, 12)) 20 z.toNat (0, x16)) 21 z.toNat (0, x23)) 22 z.toNat (0, -1)) 18 0 (0, (z + 1))) 18 1 (0, ((s : Int) + 1))) [some (2, 17), some (2, 24), some (0, w), some (0, x), o] [(0, 1)] _
            refine v_if (hi_X6_readText_78 hT) (fun hc45 => absurd (show (1 : Int) = 0 from hc45) (by decide)) (fun _ => ?_)
            refine v_push (1) (hi_X6_readText_81 hT) rfl ?_
            refine v_goto (hi_X6_readText_82 hT) ?_
            refine v_store1 [some (2, 17), some (2, 24), some (0, w), some (0, x), some (0, 1)] (hi_X6_readText_86 hT) ⟨rfl, Nat.ne_of_beq_eq_false rfl⟩ (Nat.le_of_ble_eq_true rfl) rfl ?_
            refine v_load (v := (0, 1)) (hi_X6_readText_88 hT) rfl rfl ?_
            refine v_if (hi_X6_readText_90 hT) (fun hc46 => absurd (show (1 : Int) = 0 from hc46) (by decide)) (fun _ => ?_)
            refine v_load (v := (2, 17)) (hi_X6_readText_93 hT) rfl rfl ?_
            refine v_getR (c := 10) (r := 17) (hi_X6_readText_94 hT) rfl rfl rfl ?_
            refine v_call (w := 1) [some (2, 10)] hO (hi_X6_readText_97 hT) rfl rfl (cx_stop hT hO (cX.z (r := 18) (k := 1) (v := (0, ((s : Int) + 1))) (by decide) (cX.z (r := 18) (k := 0) (v := (0, (z + 1))) (by decide) (cX.z (r := 22) (k := z.toNat) (v := (0, -1)) (by decide) (cX.z (r := 21) (k := z.toNat) (v := (0, x23)) (by decide) (cX.z (r := 20) (k := z.toNat) (v := (0, x16)) (by decide) (cX.z (r := 19) (k := z.toNat) (v := (0, 12)) (by decide) hX24)))))) (fun g47 ft47 q47 hX47 => ?_) (fun g48 e48 ft48 q48 c48 => ?_))
            · show vP D T N 88 100 g47 [some (2, 17), some (2, 24), some (0, w), some (0, x), some (0, 1)] [(0, 1)] _
              refine vP_hv (fun hv47 => ?_)
              refine v_if (hi_X6_readText_100 hT) (fun hc49 => absurd (show (1 : Int) = 0 from hc49) (by decide)) (fun _ => ?_)
              refine v_iinc (x := x) (u := 1) (w := (x + 1)) [some (2, 17), some (2, 24), some (0, w), some (0, (x + 1)), some (0, 1)] (hi_X6_readText_105 hT) rfl rfl (Nat.le_of_ble_eq_true rfl) (vz_inc (by omega) (by omega)) rfl ?_
              refine v_goto (hi_X6_readText_108 hT) ?_
              exact ih g47 (s + 1) (d) (i + 1 + 1 + 1 + 1 + 1) _ _ _ (some (0, 1)) 12 x16 x23 (i + 1 + 1 + 1 + 1) (by simp only [pStep, hE, hsw, hop, h15, opW15, harg, pNm, Bool.false_eq_true, (show ¬ 30 ≤ s from by omega), q17, q20, q24, q47, ne_eq, not_true_eq_false, not_false_eq_true, if_true, if_false, eq_self, eb_l, eb_r, and_true, true_and, and_false, false_and]) hX47 ((cP.z (a := 18) (b := 1) (v := (0, ((s : Int) + 1))) (by decide) (cP.z (a := 18) (b := 0) (v := (0, (z + 1))) (by decide) (cP.z (a := 22) (b := z.toNat) (v := (0, -1)) (by decide) (cP.z (a := 21) (b := z.toNat) (v := (0, x23)) (by decide) (cP.z (a := 20) (b := z.toNat) (v := (0, x16)) (by decide) (cP.z (a := 19) (b := z.toNat) (v := (0, 12)) (by decide) ((((hP.tf ft12).tf ft17).tf ft20).tf ft24))))))).tf ft47) (Eq.trans (ft47 17 2 (by first | decide | exact fun c => by omega)) (Eq.trans (Eq.trans (zset_ne (fun c => absurd c.1 (by decide))) (Eq.trans (zset_ne (fun c => absurd c.1 (by decide))) (Eq.trans (zset_ne (fun c => absurd c.1 (by decide))) (Eq.trans (zset_ne (fun c => absurd c.1 (by decide))) (Eq.trans (zset_ne (fun c => absurd c.1 (by decide))) (zset_ne (fun c => absurd c.1 (by decide)))))))) ((Eq.trans (ft24 17 2 (by first | decide | exact fun c => by omega)) (Eq.trans (ft20 17 2 (by first | decide | exact fun c => by omega)) (Eq.trans (ft17 17 2 (by first | decide | exact fun c => by omega)) (Eq.trans (ft12 17 2 (by first | decide | exact fun c => by omega)) hl))))))) (Eq.trans (ft47 18 1 (by first | decide | exact fun c => by omega)) (zset_same)) (by omega) (Eq.trans (ft47 17 4 (by first | decide | exact fun c => by omega)) (Eq.trans (Eq.trans (zset_ne (fun c => absurd c.1 (by decide))) (Eq.trans (zset_ne (fun c => absurd c.1 (by decide))) (Eq.trans (zset_ne (fun c => absurd c.1 (by decide))) (Eq.trans (zset_ne (fun c => absurd c.1 (by decide))) (Eq.trans (zset_ne (fun c => absurd c.1 (by decide))) (zset_ne (fun c => absurd c.1 (by decide)))))))) ((Eq.trans (ft24 17 4 (by first | decide | exact fun c => by omega)) (Eq.trans (ft20 17 4 (by first | decide | exact fun c => by omega)) (Eq.trans (ft17 17 4 (by first | decide | exact fun c => by omega)) (Eq.trans (ft12 17 4 (by first | decide | exact fun c => by omega)) hd))))))) (by omega) (Eq.trans (ft47 18 0 (by first | decide | exact fun c => by omega)) (Eq.trans (zset_ne (fun c => absurd c.2 (by decide))) zset_same)) (by omega) (ob_same (o23_t ft47 (o23_n (r := 18) (k := 1) (v := (0, ((s : Int) + 1))) (by decide) (o23_n (r := 18) (k := 0) (v := (0, (z + 1))) (by decide) (o23_n (r := 22) (k := z.toNat) (v := (0, -1)) (by decide) (o23_n (r := 21) (k := z.toNat) (v := (0, x23)) (by decide) (o23_n (r := 20) (k := z.toNat) (v := (0, x16)) (by decide) (o23_n (r := 19) (k := z.toNat) (v := (0, 12)) (by decide) (o23_t ft24 (o23_t ft20 (o23_t ft17 (o23_t ft12 (fun _ => Eq.refl _)))))))))))) ho (by omega) (by omega)) (oFr.t (oFr.z (a := 18) (b := 1) (v := (0, ((s : Int) + 1))) (by omega) (oFr.z (a := 18) (b := 0) (v := (0, (z + 1))) (by omega) (oFr.z (a := 22) (b := z.toNat) (v := (0, -1)) (by omega) (oFr.z (a := 21) (b := z.toNat) (v := (0, x23)) (by omega) (oFr.z (a := 20) (b := z.toNat) (v := (0, x16)) (by omega) (oFr.z (a := 19) (b := z.toNat) (v := (0, 12)) (by omega) (oFr.t (oFr.t (oFr.t (oFr.t oFr.rfl ft12) ft17) ft20) ft24))))))) ft47) rfl (pItV_a h3 (by decide) (by simp only [hargV, (show ¬ 30 ≤ s from by omega), q17, q20, q24, q47, ne_eq, not_true_eq_false, not_false_eq_true, if_true, if_false, eq_self, eb_l, eb_r, and_true, true_and, and_false, false_and])) ⟨(kr_f (fun e => ft47 19 e (fun c => by omega)) (kr_n (a := 18) (k := 1) (v := (0, ((s : Int) + 1))) (by decide) (kr_n (a := 18) (k := 0) (v := (0, (z + 1))) (by decide) (kr_n (a := 22) (k := z.toNat) (v := (0, -1)) (by decide) (kr_n (a := 21) (k := z.toNat) (v := (0, x23)) (by decide) (kr_n (a := 20) (k := z.toNat) (v := (0, x16)) (by decide) (kr_z (k := z.toNat) (v := (0, 12)) (kr_f (fun e => ft24 19 e (fun c => by omega)) (kr_f (fun e => ft20 19 e (fun c => by omega)) (kr_f (fun e => ft17 19 e (fun c => by omega)) (kr_f (fun e => ft12 19 e (fun c => by omega)) (fun _ => Eq.refl _)))))))))))), (kr_f (fun e => ft47 20 e (fun c => by omega)) (kr_n (a := 18) (k := 1) (v := (0, ((s : Int) + 1))) (by decide) (kr_n (a := 18) (k := 0) (v := (0, (z + 1))) (by decide) (kr_n (a := 22) (k := z.toNat) (v := (0, -1)) (by decide) (kr_n (a := 21) (k := z.toNat) (v := (0, x23)) (by decide) (kr_z (k := z.toNat) (v := (0, x16)) (kr_n (a := 19) (k := z.toNat) (v := (0, 12)) (by decide) (kr_f (fun e => ft24 20 e (fun c => by omega)) (kr_f (fun e => ft20 20 e (fun c => by omega)) (kr_f (fun e => ft17 20 e (fun c => by omega)) (kr_f (fun e => ft12 20 e (fun c => by omega)) (fun _ => Eq.refl _)))))))))))), (kr_f (fun e => ft47 21 e (fun c => by omega)) (kr_n (a := 18) (k := 1) (v := (0, ((s : Int) + 1))) (by decide) (kr_n (a := 18) (k := 0) (v := (0, (z + 1))) (by decide) (kr_n (a := 22) (k := z.toNat) (v := (0, -1)) (by decide) (kr_z (k := z.toNat) (v := (0, x23)) (kr_n (a := 20) (k := z.toNat) (v := (0, x16)) (by decide) (kr_n (a := 19) (k := z.toNat) (v := (0, 12)) (by decide) (kr_f (fun e => ft24 21 e (fun c => by omega)) (kr_f (fun e => ft20 21 e (fun c => by omega)) (kr_f (fun e => ft17 21 e (fun c => by omega)) (kr_f (fun e => ft12 21 e (fun c => by omega)) (fun _ => Eq.refl _)))))))))))), (kr_f (fun e => ft47 22 e (fun c => by omega)) (kr_n (a := 18) (k := 1) (v := (0, ((s : Int) + 1))) (by decide) (kr_n (a := 18) (k := 0) (v := (0, (z + 1))) (by decide) (kr_z (k := z.toNat) (v := (0, -1)) (kr_n (a := 21) (k := z.toNat) (v := (0, x23)) (by decide) (kr_n (a := 20) (k := z.toNat) (v := (0, x16)) (by decide) (kr_n (a := 19) (k := z.toNat) (v := (0, 12)) (by decide) (kr_f (fun e => ft24 22 e (fun c => by omega)) (kr_f (fun e => ft20 22 e (fun c => by omega)) (kr_f (fun e => ft17 22 e (fun c => by omega)) (kr_f (fun e => ft12 22 e (fun c => by omega)) (fun _ => Eq.refl _))))))))))))⟩ (kr_f (fun e => ft47 23 e (fun c => by omega)) (kr_n (a := 18) (k := 1) (v := (0, ((s : Int) + 1))) (by decide) (kr_n (a := 18) (k := 0) (v := (0, (z + 1))) (by decide) (kr_n (a := 22) (k := z.toNat) (v := (0, -1)) (by decide) (kr_n (a := 21) (k := z.toNat) (v := (0, x23)) (by decide) (kr_n (a := 20) (k := z.toNat) (v := (0, x16)) (by decide) (kr_n (a := 19) (k := z.toNat) (v := (0, 12)) (by decide) (kr_f (fun e => ft24 23 e (fun c => by omega)) (kr_f (fun e => ft20 23 e (fun c => by omega)) (kr_f (fun e => ft17 23 e (fun c => by omega)) (kr_f (fun e => ft12 23 e (fun c => by omega)) (fun _ => Eq.refl _))))))))))))
            · show vP D T N 88 100 g48 [some (2, 17), some (2, 24), some (0, w), some (0, x), some (0, 1)] [(0, 0)] _
              refine vP_hv (fun hv48 => ?_)
              refine v_if (hi_X6_readText_100 hT) (fun _ => ?_) (fun hc50 => absurd (show (0 : Int) = 0 from (by decide)) hc50)
              refine v_push (0) (hi_X6_readText_103 hT) rfl ?_
              refine v_ret (hi_X6_readText_104 hT) (Or.inl rfl) ?_
              exact er _ _ (by simp only [pStep, hE, hsw, hop, h15, opW15, harg, pNm, Bool.false_eq_true, (show ¬ 30 ≤ s from by omega), q17, q20, q24, q48, ne_eq, not_true_eq_false, not_false_eq_true, if_true, if_false, eq_self, eb_l, eb_r, and_true, true_and, and_false, false_and]) c48 (oFr.t (oFr.z (a := 18) (b := 1) (v := (0, ((s : Int) + 1))) (by omega) (oFr.z (a := 18) (b := 0) (v := (0, (z + 1))) (by omega) (oFr.z (a := 22) (b := z.toNat) (v := (0, -1)) (by omega) (oFr.z (a := 21) (b := z.toNat) (v := (0, x23)) (by omega) (oFr.z (a := 20) (b := z.toNat) (v := (0, x16)) (by omega) (oFr.z (a := 19) (b := z.toNat) (v := (0, 12)) (by omega) (oFr.t (oFr.t (oFr.t (oFr.t oFr.rfl ft12) ft17) ft20) ft24))))))) ft48)
          · show vP D T N 82 51 g25 [some (2, 17), some (0, 12), some (0, 3), some (0, 12), some (0, x16)] [(0, -1), (0, x16), (0, 12), (2, 17)] _
            refine vP_hv (fun hv25 => ?_)
            refine v_call (w := 4) [some (2, 17), some (0, 12), some (0, x16), some (0, -1)] hO (hi_X6_readCopyAnd_51 hT) rfl rfl ?_
            refine v_load (v := (0, x16)) (hi_X6_readTwo_0 hT) rfl rfl ?_
            refine v_push (-1) (hi_X6_readTwo_1 hT) rfl ?_
            refine v_ic (hi_X6_readTwo_2 hT) (fun hc51 => absurd (show x16 = -1 from hc51) (by omega)) (fun _ => ?_)
            refine v_load (v := (0, -1)) (hi_X6_readTwo_5 hT) rfl rfl ?_
            refine v_push (-1) (hi_X6_readTwo_6 hT) rfl ?_
            refine v_ic (hi_X6_readTwo_7 hT) (fun _ => ?_) (fun hc52 => absurd (show (-1 : Int) = -1 from (by decide)) hc52)
            refine v_push (0) (hi_X6_readTwo_27 hT) rfl ?_
            refine v_ret (hi_X6_readTwo_28 hT) (Or.inl rfl) ?_
            show vP D T N 82 54 g25 [some (2, 17), some (0, 12), some (0, 3), some (0, 12), some (0, x16)] [(0, 0)] _
            refine v_ret (hi_X6_readCopyAnd_54 hT) (Or.inl rfl) ?_
            show vP D T N 87 157 g25 [some (2, 17), some (0, 12)] [(0, 0)] _
            refine v_ret (hi_X6_readStep_157 hT) (Or.inl rfl) ?_
            show vP D T N 88 78 g25 [some (2, 17), some (2, 24), some (0, w), some (0, x), o] [(0, 0)] _
            refine v_if (hi_X6_readText_78 hT) (fun _ => ?_) (fun hc53 => absurd (show (0 : Int) = 0 from (by decide)) hc53)
            refine v_push (0) (hi_X6_readText_85 hT) rfl ?_
            refine v_store1 [some (2, 17), some (2, 24), some (0, w), some (0, x), some (0, 0)] (hi_X6_readText_86 hT) ⟨rfl, Nat.ne_of_beq_eq_false rfl⟩ (Nat.le_of_ble_eq_true rfl) rfl ?_
            refine v_load (v := (0, 0)) (hi_X6_readText_88 hT) rfl rfl ?_
            refine v_if (hi_X6_readText_90 hT) (fun _ => ?_) (fun hc54 => absurd (show (0 : Int) = 0 from (by decide)) hc54)
            refine v_push (0) (hi_X6_readText_103 hT) rfl ?_
            refine v_ret (hi_X6_readText_104 hT) (Or.inl rfl) ?_
            exact er _ _ (by simp only [pStep, hE, hsw, hop, h15, opW15, harg, pNm, Bool.false_eq_true, (show ¬ 30 ≤ s from by omega), q17, q20, q25, ne_eq, not_true_eq_false, not_false_eq_true, if_true, if_false, eq_self, eb_l, eb_r, and_true, true_and, and_false, false_and]) c25 (oFr.t (oFr.t (oFr.t (oFr.t oFr.rfl ft12) ft17) ft20) ft25)
        · show vP D T N 82 33 g21 [some (2, 17), some (0, 12), some (0, 3), some (0, 12), some (0, x16)] [(0, 0)] _
          refine vP_hv (fun hv21 => ?_)
          refine v_if (hi_X6_readCopyAnd_33 hT) (fun _ => ?_) (fun hc55 => absurd (show (0 : Int) = 0 from (by decide)) hc55)
          refine v_push (0) (hi_X6_readCopyAnd_36 hT) rfl ?_
          refine v_ret (hi_X6_readCopyAnd_37 hT) (Or.inl rfl) ?_
          show vP D T N 87 157 g21 [some (2, 17), some (0, 12)] [(0, 0)] _
          refine v_ret (hi_X6_readStep_157 hT) (Or.inl rfl) ?_
          show vP D T N 88 78 g21 [some (2, 17), some (2, 24), some (0, w), some (0, x), o] [(0, 0)] _
          refine v_if (hi_X6_readText_78 hT) (fun _ => ?_) (fun hc56 => absurd (show (0 : Int) = 0 from (by decide)) hc56)
          refine v_push (0) (hi_X6_readText_85 hT) rfl ?_
          refine v_store1 [some (2, 17), some (2, 24), some (0, w), some (0, x), some (0, 0)] (hi_X6_readText_86 hT) ⟨rfl, Nat.ne_of_beq_eq_false rfl⟩ (Nat.le_of_ble_eq_true rfl) rfl ?_
          refine v_load (v := (0, 0)) (hi_X6_readText_88 hT) rfl rfl ?_
          refine v_if (hi_X6_readText_90 hT) (fun _ => ?_) (fun hc57 => absurd (show (0 : Int) = 0 from (by decide)) hc57)
          refine v_push (0) (hi_X6_readText_103 hT) rfl ?_
          refine v_ret (hi_X6_readText_104 hT) (Or.inl rfl) ?_
          exact er _ _ (by simp only [pStep, hE, hsw, hop, h15, opW15, harg, pNm, Bool.false_eq_true, (show ¬ 30 ≤ s from by omega), q17, q21, ne_eq, not_true_eq_false, not_false_eq_true, if_true, if_false, eq_self, eb_l, eb_r, and_true, true_and, and_false, false_and]) c21 (oFr.t (oFr.t (oFr.t oFr.rfl ft12) ft17) ft21)
      · show vP D T N 82 17 g18 [some (2, 17), some (0, 12), some (0, 3), some (0, 12), none] [(0, -1)] _
        refine vP_hv (fun hv18 => ?_)
        refine v_store1 [some (2, 17), some (0, 12), some (0, 3), some (0, 12), some (0, -1)] (hi_X6_readCopyAnd_17 hT) ⟨rfl, Nat.ne_of_beq_eq_false rfl⟩ (Nat.le_of_ble_eq_true rfl) rfl ?_
        refine v_load (v := (0, -1)) (hi_X6_readCopyAnd_19 hT) rfl rfl ?_
        refine v_push (-1) (hi_X6_readCopyAnd_21 hT) rfl ?_
        refine v_ic (hi_X6_readCopyAnd_22 hT) (fun _ => ?_) (fun hc58 => absurd (show (-1 : Int) = -1 from (by decide)) hc58)
        refine v_push (0) (hi_X6_readCopyAnd_36 hT) rfl ?_
        refine v_ret (hi_X6_readCopyAnd_37 hT) (Or.inl rfl) ?_
        show vP D T N 87 157 g18 [some (2, 17), some (0, 12)] [(0, 0)] _
        refine v_ret (hi_X6_readStep_157 hT) (Or.inl rfl) ?_
        show vP D T N 88 78 g18 [some (2, 17), some (2, 24), some (0, w), some (0, x), o] [(0, 0)] _
        refine v_if (hi_X6_readText_78 hT) (fun _ => ?_) (fun hc59 => absurd (show (0 : Int) = 0 from (by decide)) hc59)
        refine v_push (0) (hi_X6_readText_85 hT) rfl ?_
        refine v_store1 [some (2, 17), some (2, 24), some (0, w), some (0, x), some (0, 0)] (hi_X6_readText_86 hT) ⟨rfl, Nat.ne_of_beq_eq_false rfl⟩ (Nat.le_of_ble_eq_true rfl) rfl ?_
        refine v_load (v := (0, 0)) (hi_X6_readText_88 hT) rfl rfl ?_
        refine v_if (hi_X6_readText_90 hT) (fun _ => ?_) (fun hc60 => absurd (show (0 : Int) = 0 from (by decide)) hc60)
        refine v_push (0) (hi_X6_readText_103 hT) rfl ?_
        refine v_ret (hi_X6_readText_104 hT) (Or.inl rfl) ?_
        exact er _ _ (by simp only [pStep, hE, hsw, hop, h15, opW15, harg, pNm, Bool.false_eq_true, (show ¬ 30 ≤ s from by omega), q18, ne_eq, not_true_eq_false, not_false_eq_true, if_true, if_false, eq_self, eb_l, eb_r, and_true, true_and, and_false, false_and]) c18 (oFr.t (oFr.t oFr.rfl ft12) ft18)
  · have hc9 : 30 ≤ (s : Int) := Int.not_lt.mp hc9
    refine v_load (v := (2, 17)) (hi_X6_mayBegin_69 hT) rfl rfl ?_
    refine v_getR (c := 10) (r := 17) (hi_X6_mayBegin_70 hT) rfl rfl rfl ?_
    refine v_push (6) (hi_X6_mayBegin_73 hT) rfl ?_
    refine v_call (w := 2) [some (2, 10), some (0, 6)] hO (hi_X6_mayBegin_75 hT) rfl rfl (cx_blame hT hO 6 hX (fun g61 ft61 c61 => ?_))
    · show vP D T N 81 78 g61 [some (2, 17), some (0, 12), some (0, 0)] [(0, 0)] _
      refine vP_hv (fun hv61 => ?_)
      refine v_ret (hi_X6_mayBegin_78 hT) (Or.inl rfl) ?_
      show vP D T N 88 67 g61 [some (2, 17), some (2, 24), some (0, w), some (0, x), o] [(0, 0)] _
      refine v_if (hi_X6_readText_67 hT) (fun _ => ?_) (fun hc62 => absurd (show (0 : Int) = 0 from (by decide)) hc62)
      refine v_push (0) (hi_X6_readText_85 hT) rfl ?_
      refine v_store1 [some (2, 17), some (2, 24), some (0, w), some (0, x), some (0, 0)] (hi_X6_readText_86 hT) ⟨rfl, Nat.ne_of_beq_eq_false rfl⟩ (Nat.le_of_ble_eq_true rfl) rfl ?_
      refine v_load (v := (0, 0)) (hi_X6_readText_88 hT) rfl rfl ?_
      refine v_if (hi_X6_readText_90 hT) (fun _ => ?_) (fun hc63 => absurd (show (0 : Int) = 0 from (by decide)) hc63)
      refine v_push (0) (hi_X6_readText_103 hT) rfl ?_
      refine v_ret (hi_X6_readText_104 hT) (Or.inl rfl) ?_
      exact er _ _ (by simp only [pStep, hE, hsw, hop, h15, opW15, harg, pNm, Bool.false_eq_true, (show 30 ≤ s from by omega), ne_eq, not_true_eq_false, not_false_eq_true, if_true, if_false, eq_self, eb_l, eb_r, and_true, true_and, and_false, false_and]) c61 (oFr.t oFr.rfl ft61)
theorem co7_13_24 {D : zD} {T : zT} (hT : hTab T) (hO : vOK T) {N : Nat} {h : zH} {Q : zR → Prop} {B : Nat → Int} {n m i s d : Nat} {τ P : PT} (w x z : Int) (o : Option zV) (hv0 : zHv h) (hX : cX B n m τ i h) (hK : Tks B n m τ) (hP : cP 24 P h) (hb : (0 ≤ P 0 0 ∧ P 0 0 ≤ 8) ∧ (0 ≤ P 0 1 ∧ P 0 1 ≤ 6) ∧ (0 ≤ P 0 2 ∧ P 0 2 ≤ 3) ∧ (0 ≤ P 0 3 ∧ P 0 3 ≤ 6)) (hl : h 17 2 = (2, 24)) (hs : h 18 1 = (0, (s : Int))) (hd : h 17 4 = (0, (d : Int))) (hz : h 18 0 = (0, z)) (bs : s ≤ 30) (bd : d ≤ 3) (bz : 0 ≤ z) (bzd : z + d ≤ 2 * s) (ho : ∀ e : Nat, e < d → 0 ≤ (h 23 e).2 ∧ (h 23 e).2 < z) (hx : 0 ≤ x ∧ x < 900) (h0 : τ 0 i ≠ 0) (h1 : τ 0 i = 1) (h3 : τ 3 i = 13) (ih : ∀ g s' d' i' a b z' o' K u v j, pStep τ P s d i = .inr (s', d', i') → cX B n m τ i' g → cP 24 P g → g 17 2 = (2, 24) → g 18 1 = (0, a) → a = (s' : Int) → g 17 4 = (0, b) → b = (d' : Int) → g 18 0 = (0, z') → s' ≤ 30 ∧ d' ≤ 3 ∧ 0 ≤ z' ∧ z' + d' ≤ 2 * s' → (∀ e : Nat, e < d' → 0 ≤ (g 23 e).2 ∧ (g 23 e).2 < z') → oFr h g → z' = z + 1 → pItV τ P i = .inr (K, u, v, j) → oW4 h g z K u v → (∀ e, g 23 e = h 23 e) → vP D T N 88 27 g [some (2, 17), some (2, 24), some (0, w), some (0, (x + 1)), o'] [] Q) (er : ∀ g e, pStep τ P s d i = .inl e → cB e g → oFr h g → Q (g, some (0, 0))) :
    vP D T (N + 1) 88 27 h [some (2, 17), some (2, 24), some (0, w), some (0, x), o] [] Q := by
  have hEn : (bEn τ i) = 0 := bEn_n h0
  have hE : (bW τ 20 i) = 0 := bW_0.mpr (fun c => absurd (h3.symm.trans c.2) (by decide))
  have hsw : ¬ swd τ i < 0 := by rw [swd_v h1, h3]; decide
  have hop : opW (τ 3 i) = false := by rw [h3]; rfl
  have h15 : ¬ τ 3 i = 15 := by rw [h3]; decide
  have harg : ∀ j, oArg τ P (τ 3 i) j = (eb (pNm τ P j) fun a => .inr a.2) := fun j => by rw [h3]; rfl
  have hargV : ∀ j, oArV τ P 13 j = (eb (pNm τ P j) fun a => .inr (a.1, 0, a.2)) := fun _ => rfl
  refine v_loadS (v := (0, x)) (hi_X6_readText_27 hT) rfl rfl ?_
  refine v_push (900) (hi_X6_readText_28 hT) rfl ?_
  refine v_ic (hi_X6_readText_31 hT) (fun _ => ?_) (fun hc1 => absurd (show x < 900 from hx.2) hc1)
  refine v_load (v := (2, 17)) (hi_X6_readText_34 hT) rfl rfl ?_
  refine v_getR (c := 10) (r := 17) (hi_X6_readText_35 hT) rfl rfl rfl ?_
  refine v_call (w := 1) [some (2, 10)] hO (hi_X6_readText_38 hT) rfl rfl (cx_isEnd hT hO hX ?_)
  show vP D T N 88 41 h [some (2, 17), some (2, 24), some (0, w), some (0, x), o] [(0, (bEn τ i))] _
  refine v_if (hi_X6_readText_41 hT) (fun _ => ?_) (fun hc2 => absurd (show (bEn τ i) = 0 from hEn) hc2)
  refine v_load (v := (2, 17)) (hi_X6_readText_44 hT) rfl rfl ?_
  refine v_getR (c := 10) (r := 17) (hi_X6_readText_45 hT) rfl rfl rfl ?_
  refine v_push (20) (hi_X6_readText_48 hT) rfl ?_
  refine v_call (w := 2) [some (2, 10), some (0, 20)] hO (hi_X6_readText_50 hT) rfl rfl (cx_isWord hT hO 20 hX ?_)
  show vP D T N 88 53 h [some (2, 17), some (2, 24), some (0, w), some (0, x), o] [(0, (bW τ 20 i))] _
  refine v_if (hi_X6_readText_53 hT) (fun _ => ?_) (fun hc3 => absurd (show (bW τ 20 i) = 0 from hE) hc3)
  refine v_load (v := (2, 17)) (hi_X6_readText_63 hT) rfl rfl ?_
  refine v_call (w := 3) [some (2, 17), none, none] hO (hi_X6_readText_64 hT) rfl rfl ?_
  refine v_load (v := (2, 17)) (hi_X6_mayBegin_0 hT) rfl rfl ?_
  refine v_getR (c := 10) (r := 17) (hi_X6_mayBegin_1 hT) rfl rfl rfl ?_
  refine v_call (w := 1) [some (2, 10)] hO (hi_X6_mayBegin_4 hT) rfl rfl (cx_wordK hT hO 13 hX h1 h3 ?_)
  show vP D T N 81 7 h [some (2, 17), none, none] [(0, 13)] _
  refine v_store1 [some (2, 17), some (0, 13), none] (hi_X6_mayBegin_7 hT) ⟨rfl, Nat.ne_of_beq_eq_false rfl⟩ (Nat.le_of_ble_eq_true rfl) rfl ?_
  refine v_load (v := (0, 13)) (hi_X6_mayBegin_8 hT) rfl rfl ?_
  refine v_push (15) (hi_X6_mayBegin_9 hT) rfl ?_
  refine v_ic (hi_X6_mayBegin_11 hT) (fun hc4 => absurd (show (13 : Int) = 15 from hc4) (by decide)) (fun _ => ?_)
  refine v_load (v := (0, 13)) (hi_X6_mayBegin_14 hT) rfl rfl ?_
  refine v_push (19) (hi_X6_mayBegin_15 hT) rfl ?_
  refine v_ic (hi_X6_mayBegin_17 hT) (fun hc5 => absurd (show (13 : Int) = 19 from hc5) (by decide)) (fun _ => ?_)
  refine v_push (0) (hi_X6_mayBegin_24 hT) rfl ?_
  refine v_store1 [some (2, 17), some (0, 13), some (0, 0)] (hi_X6_mayBegin_25 hT) ⟨rfl, Nat.ne_of_beq_eq_false rfl⟩ (Nat.le_of_ble_eq_true rfl) rfl ?_
  refine v_load (v := (0, 0)) (hi_X6_mayBegin_26 hT) rfl rfl ?_
  refine v_if (hi_X6_mayBegin_27 hT) (fun _ => ?_) (fun hc6 => absurd (show (0 : Int) = 0 from (by decide)) hc6)
  refine v_load (v := (0, 13)) (hi_X6_mayBegin_30 hT) rfl rfl ?_
  refine v_push (8) (hi_X6_mayBegin_31 hT) rfl ?_
  refine v_ic (hi_X6_mayBegin_33 hT) (fun hc7 => absurd (show (13 : Int) < 8 from hc7) (by decide)) (fun _ => ?_)
  refine v_load (v := (0, 13)) (hi_X6_mayBegin_36 hT) rfl rfl ?_
  refine v_push (14) (hi_X6_mayBegin_37 hT) rfl ?_
  refine v_ic (hi_X6_mayBegin_39 hT) (fun hc8 => absurd (show 14 < (13 : Int) from hc8) (by decide)) (fun _ => ?_)
  refine v_load (v := (2, 17)) (hi_X6_mayBegin_57 hT) rfl rfl ?_
  refine v_getR (c := 18) (r := 17) (hi_X6_mayBegin_58 hT) rfl rfl rfl ?_
  refine v_getf (v := (0, (s : Int))) (r := 18) (hi_X6_mayBegin_61 hT) rfl rfl (fun _ => hs) ?_
  refine v_push (30) (hi_X6_mayBegin_64 hT) rfl ?_
  refine v_ic (hi_X6_mayBegin_66 hT) (fun hc9 => ?_) (fun hc9 => ?_)
  · have hc9 : (s : Int) < 30 := hc9
    refine v_load (v := (0, 0)) (hi_X6_mayBegin_79 hT) rfl rfl ?_
    refine v_if (hi_X6_mayBegin_80 hT) (fun _ => ?_) (fun hc10 => absurd (show (0 : Int) = 0 from (by decide)) hc10)
    refine v_push (1) (hi_X6_mayBegin_101 hT) rfl ?_
    refine v_ret (hi_X6_mayBegin_102 hT) (Or.inl rfl) ?_
    show vP D T N 88 67 h [some (2, 17), some (2, 24), some (0, w), some (0, x), o] [(0, 1)] _
    refine v_if (hi_X6_readText_67 hT) (fun hc11 => absurd (show (1 : Int) = 0 from hc11) (by decide)) (fun _ => ?_)
    refine v_load (v := (2, 17)) (hi_X6_readText_70 hT) rfl rfl ?_
    refine v_load (v := (2, 17)) (hi_X6_readText_71 hT) rfl rfl ?_
    refine v_call (w := 3) [some (2, 17), none, none] hO (hi_X6_readText_72 hT) rfl rfl ?_
    refine v_load (v := (2, 17)) (hi_X6_beginStep_0 hT) rfl rfl ?_
    refine v_getR (c := 10) (r := 17) (hi_X6_beginStep_1 hT) rfl rfl rfl ?_
    refine v_call (w := 1) [some (2, 10)] hO (hi_X6_beginStep_4 hT) rfl rfl (cx_wordK hT hO 13 hX h1 h3 ?_)
    show vP D T N 80 7 h [some (2, 17), none, none] [(0, 13)] _
    refine v_store1 [some (2, 17), some (0, 13), none] (hi_X6_beginStep_7 hT) ⟨rfl, Nat.ne_of_beq_eq_false rfl⟩ (Nat.le_of_ble_eq_true rfl) rfl ?_
    refine v_load (v := (2, 17)) (hi_X6_beginStep_8 hT) rfl rfl ?_
    refine v_getR (c := 10) (r := 17) (hi_X6_beginStep_9 hT) rfl rfl rfl ?_
    refine v_call (w := 1) [some (2, 10)] hO (hi_X6_beginStep_12 hT) rfl rfl (cx_adv hT hO hX (ne_10 h1) (ne_14 h1) (fun g12 ft12 hX12 => ?_))
    · show vP D T N 80 15 g12 [some (2, 17), some (0, 13), none] [] _
      refine vP_hv (fun hv12 => ?_)
      refine v_load (v := (0, 13)) (hi_X6_beginStep_15 hT) rfl rfl ?_
      refine v_push (15) (hi_X6_beginStep_16 hT) rfl ?_
      refine v_ic (hi_X6_beginStep_18 hT) (fun hc13 => absurd (show (13 : Int) = 15 from hc13) (by decide)) (fun _ => ?_)
      refine v_load (v := (0, 13)) (hi_X6_beginStep_21 hT) rfl rfl ?_
      refine v_push (19) (hi_X6_beginStep_22 hT) rfl ?_
      refine v_ic (hi_X6_beginStep_24 hT) (fun hc14 => absurd (show (13 : Int) = 19 from hc14) (by decide)) (fun _ => ?_)
      refine v_load (v := (0, 13)) (hi_X6_beginStep_61 hT) rfl rfl ?_
      refine v_push (15) (hi_X6_beginStep_62 hT) rfl ?_
      refine v_ic (hi_X6_beginStep_64 hT) (fun hc15 => absurd (show (13 : Int) = 15 from hc15) (by decide)) (fun _ => ?_)
      refine v_load (v := (0, 13)) (hi_X6_beginStep_67 hT) rfl rfl ?_
      refine v_ret (hi_X6_beginStep_68 hT) (Or.inl rfl) ?_
      show vP D T N 88 75 g12 [some (2, 17), some (2, 24), some (0, w), some (0, x), o] [(0, 13), (2, 17)] _
      refine v_call (w := 2) [some (2, 17), some (0, 13)] hO (hi_X6_readText_75 hT) rfl rfl ?_
      refine v_load (v := (0, 13)) (hi_X6_readStep_0 hT) rfl rfl ?_
      refine v_sw (hi_X6_readStep_1 hT) ?_
      refine ⟨fun c => absurd c (by decide), fun _ => ?_⟩
      refine ⟨fun c => absurd c (by decide), fun _ => ?_⟩
      refine ⟨fun c => absurd c (by decide), fun _ => ?_⟩
      refine ⟨fun c => absurd c (by decide), fun _ => ?_⟩
      refine ⟨fun c => absurd c (by decide), fun _ => ?_⟩
      refine ⟨fun c => absurd c (by decide), fun _ => ?_⟩
      refine ⟨fun c => absurd c (by decide), fun _ => ?_⟩
      refine ⟨fun c => absurd c (by decide), fun _ => ?_⟩
      refine ⟨fun c => absurd c (by decide), fun _ => ?_⟩
      refine ⟨fun c => absurd c (by decide), fun _ => ?_⟩
      refine ⟨fun c => absurd c (by decide), fun _ => ?_⟩
      refine ⟨fun c => absurd c (by decide), fun _ => ?_⟩
      refine ⟨fun c => absurd c (by decide), fun _ => ?_⟩
      refine ⟨fun c => absurd c (by decide), fun _ => ?_⟩
      refine ⟨fun _ => ?_, fun c => absurd rfl c⟩
      refine v_load (v := (2, 17)) (hi_X6_readStep_158 hT) rfl rfl ?_
      refine v_load (v := (0, 13)) (hi_X6_readStep_159 hT) rfl rfl ?_
      refine v_call (w := 3) [some (2, 17), some (0, 13), none] hO (hi_X6_readStep_160 hT) rfl rfl ?_
      refine v_load (v := (2, 17)) (hi_X6_readName_0 hT) rfl rfl ?_
      refine v_getR (c := 10) (r := 17) (hi_X6_readName_1 hT) rfl rfl rfl ?_
      refine v_call (w := 1) [some (2, 10)] hO (hi_X6_readName_4 hT) rfl rfl (cx_isName hT hO hX12 hK ?_)
      show vP D T N 86 7 g12 [some (2, 17), some (0, 13), none] [(0, (bN τ (i + 1)))] _
      refine v_if (hi_X6_readName_7 hT) (fun hc16 => ?_) (fun hc16 => ?_)
      · have hc16 : (bN τ (i + 1)) = 0 := hc16
        refine v_load (v := (2, 17)) (hi_X6_readName_10 hT) rfl rfl ?_
        refine v_getR (c := 10) (r := 17) (hi_X6_readName_11 hT) rfl rfl rfl ?_
        refine v_push (2) (hi_X6_readName_14 hT) rfl ?_
        refine v_call (w := 2) [some (2, 10), some (0, 2)] hO (hi_X6_readName_15 hT) rfl rfl (cx_blame hT hO 2 hX12 (fun g17 ft17 c17 => ?_))
        · show vP D T N 86 18 g17 [some (2, 17), some (0, 13), none] [(0, 0)] _
          refine vP_hv (fun hv17 => ?_)
          refine v_ret (hi_X6_readName_18 hT) (Or.inl rfl) ?_
          show vP D T N 87 163 g17 [some (2, 17), some (0, 13)] [(0, 0)] _
          refine v_ret (hi_X6_readStep_163 hT) (Or.inl rfl) ?_
          show vP D T N 88 78 g17 [some (2, 17), some (2, 24), some (0, w), some (0, x), o] [(0, 0)] _
          refine v_if (hi_X6_readText_78 hT) (fun _ => ?_) (fun hc18 => absurd (show (0 : Int) = 0 from (by decide)) hc18)
          refine v_push (0) (hi_X6_readText_85 hT) rfl ?_
          refine v_store1 [some (2, 17), some (2, 24), some (0, w), some (0, x), some (0, 0)] (hi_X6_readText_86 hT) ⟨rfl, Nat.ne_of_beq_eq_false rfl⟩ (Nat.le_of_ble_eq_true rfl) rfl ?_
          refine v_load (v := (0, 0)) (hi_X6_readText_88 hT) rfl rfl ?_
          refine v_if (hi_X6_readText_90 hT) (fun _ => ?_) (fun hc19 => absurd (show (0 : Int) = 0 from (by decide)) hc19)
          refine v_push (0) (hi_X6_readText_103 hT) rfl ?_
          refine v_ret (hi_X6_readText_104 hT) (Or.inl rfl) ?_
          exact er _ _ (by simp only [pStep, hE, hsw, hop, h15, opW15, harg, pNm, Bool.false_eq_true, (show ¬ 30 ≤ s from by omega), hc16, ne_eq, not_true_eq_false, not_false_eq_true, if_true, if_false, eq_self, eb_l, eb_r, and_true, true_and, and_false, false_and]) c17 (oFr.t (oFr.t oFr.rfl ft12) ft17)
      · have hc16 : (bN τ (i + 1)) ≠ 0 := hc16
        refine v_load (v := (2, 17)) (hi_X6_readName_19 hT) rfl rfl ?_
        refine v_getf (v := (2, 24)) (r := 17) (hi_X6_readName_20 hT) rfl rfl (fun _ => (Eq.trans (ft12 17 2 (by first | decide | exact fun c => by omega)) hl)) ?_
        refine v_load (v := (2, 17)) (hi_X6_readName_23 hT) rfl rfl ?_
        refine v_getR (c := 10) (r := 17) (hi_X6_readName_24 hT) rfl rfl rfl ?_
        refine v_call (w := 4) [some (2, 10), none, none, none] hO (hi_X6_readName_27 hT) rfl rfl (cx_name hT hO hX12 hK hc16 ?_)
        show vP D T N 86 30 g12 [some (2, 17), some (0, 13), none] [(1, (τ 4 (i + 1))), (2, 24)] _
        refine v_call (w := 4) [some (2, 24), some (1, (τ 4 (i + 1))), none, none] hO (hi_X6_readName_30 hT) rfl rfl (cx_named_24 hT hO ((τ 4 (i + 1))) (hP.tf ft12) (by omega) ?_)
        show vP D T N 86 33 g12 [some (2, 17), some (0, 13), none] [(0, (pIx (P 4) ((τ 4 (i + 1))) (P 0 3).toNat 0))] _
        refine v_store1 [some (2, 17), some (0, 13), some (0, (pIx (P 4) ((τ 4 (i + 1))) (P 0 3).toNat 0))] (hi_X6_readName_33 hT) ⟨rfl, Nat.ne_of_beq_eq_false rfl⟩ (Nat.le_of_ble_eq_true rfl) rfl ?_
        refine v_load (v := (0, (pIx (P 4) ((τ 4 (i + 1))) (P 0 3).toNat 0))) (hi_X6_readName_34 hT) rfl rfl ?_
        refine v_push (-1) (hi_X6_readName_35 hT) rfl ?_
        refine v_ic (hi_X6_readName_36 hT) (fun hc20 => ?_) (fun hc20 => ?_)
        · have hc20 : (pIx (P 4) ((τ 4 (i + 1))) (P 0 3).toNat 0) = -1 := hc20
          refine v_load (v := (2, 17)) (hi_X6_readName_39 hT) rfl rfl ?_
          refine v_getR (c := 10) (r := 17) (hi_X6_readName_40 hT) rfl rfl rfl ?_
          refine v_push (3) (hi_X6_readName_43 hT) rfl ?_
          refine v_call (w := 2) [some (2, 10), some (0, 3)] hO (hi_X6_readName_44 hT) rfl rfl (cx_blame hT hO 3 hX12 (fun g21 ft21 c21 => ?_))
          · show vP D T N 86 47 g21 [some (2, 17), some (0, 13), some (0, (pIx (P 4) ((τ 4 (i + 1))) (P 0 3).toNat 0))] [(0, 0)] _
            refine vP_hv (fun hv21 => ?_)
            refine v_ret (hi_X6_readName_47 hT) (Or.inl rfl) ?_
            show vP D T N 87 163 g21 [some (2, 17), some (0, 13)] [(0, 0)] _
            refine v_ret (hi_X6_readStep_163 hT) (Or.inl rfl) ?_
            show vP D T N 88 78 g21 [some (2, 17), some (2, 24), some (0, w), some (0, x), o] [(0, 0)] _
            refine v_if (hi_X6_readText_78 hT) (fun _ => ?_) (fun hc22 => absurd (show (0 : Int) = 0 from (by decide)) hc22)
            refine v_push (0) (hi_X6_readText_85 hT) rfl ?_
            refine v_store1 [some (2, 17), some (2, 24), some (0, w), some (0, x), some (0, 0)] (hi_X6_readText_86 hT) ⟨rfl, Nat.ne_of_beq_eq_false rfl⟩ (Nat.le_of_ble_eq_true rfl) rfl ?_
            refine v_load (v := (0, 0)) (hi_X6_readText_88 hT) rfl rfl ?_
            refine v_if (hi_X6_readText_90 hT) (fun _ => ?_) (fun hc23 => absurd (show (0 : Int) = 0 from (by decide)) hc23)
            refine v_push (0) (hi_X6_readText_103 hT) rfl ?_
            refine v_ret (hi_X6_readText_104 hT) (Or.inl rfl) ?_
            exact er _ _ (by simp only [pStep, hE, hsw, hop, h15, opW15, harg, pNm, Bool.false_eq_true, (show ¬ 30 ≤ s from by omega), hc16, hc20, ne_eq, not_true_eq_false, not_false_eq_true, if_true, if_false, eq_self, eb_l, eb_r, and_true, true_and, and_false, false_and]) c21 (oFr.t (oFr.t oFr.rfl ft12) ft21)
        · have hc20 : (pIx (P 4) ((τ 4 (i + 1))) (P 0 3).toNat 0) ≠ -1 := hc20
          refine v_load (v := (2, 17)) (hi_X6_readName_48 hT) rfl rfl ?_
          refine v_getR (c := 10) (r := 17) (hi_X6_readName_49 hT) rfl rfl rfl ?_
          refine v_call (w := 1) [some (2, 10)] hO (hi_X6_readName_52 hT) rfl rfl (cx_adv hT hO hX12 (ne_10 (bN_y.mp hc16).1) (ne_14 (bN_y.mp hc16).1) (fun g24 ft24 hX24 => ?_))
          · show vP D T N 86 55 g24 [some (2, 17), some (0, 13), some (0, (pIx (P 4) ((τ 4 (i + 1))) (P 0 3).toNat 0))] [] _
            refine vP_hv (fun hv24 => ?_)
            refine v_load (v := (2, 17)) (hi_X6_readName_55 hT) rfl rfl ?_
            refine v_getR (c := 18) (r := 17) (hi_X6_readName_56 hT) rfl rfl rfl ?_
            refine v_load (v := (0, 13)) (hi_X6_readName_59 hT) rfl rfl ?_
            refine v_load (v := (0, (pIx (P 4) ((τ 4 (i + 1))) (P 0 3).toNat 0))) (hi_X6_readName_60 hT) rfl rfl ?_
            refine v_push (0) (hi_X6_readName_61 hT) rfl ?_
            refine v_call (w := 4) [some (2, 18), some (0, 13), some (0, (pIx (P 4) ((τ 4 (i + 1))) (P 0 3).toNat 0)), some (0, 0)] hO (hi_X6_readName_62 hT) rfl rfl ?_
            refine v_load (v := (2, 18)) (hi_X5_add_0 hT) rfl rfl ?_
            refine v_getf (v := (0, z)) (r := 18) (hi_X5_add_1 hT) rfl rfl (fun _ => (Eq.trans (ft24 18 0 (by first | decide | exact fun c => by omega)) (Eq.trans (ft12 18 0 (by first | decide | exact fun c => by omega)) hz))) ?_
            refine v_if (hi_X5_add_4 hT) (fun hc25 => absurd (show z < 0 from hc25) (by omega)) (fun _ => ?_)
            refine v_load (v := (2, 18)) (hi_X5_add_7 hT) rfl rfl ?_
            refine v_getf (v := (0, z)) (r := 18) (hi_X5_add_8 hT) rfl rfl (fun _ => (Eq.trans (ft24 18 0 (by first | decide | exact fun c => by omega)) (Eq.trans (ft12 18 0 (by first | decide | exact fun c => by omega)) hz))) ?_
            refine v_push (60) (hi_X5_add_11 hT) rfl ?_
            refine v_ic (hi_X5_add_13 hT) (fun _ => ?_) (fun hc26 => absurd (show z < 60 from (by omega)) hc26)
            refine v_load (v := (2, 18)) (hi_X5_add_18 hT) rfl rfl ?_
            refine v_getR (c := 19) (r := 18) (hi_X5_add_19 hT) rfl rfl rfl ?_
            refine v_load (v := (2, 18)) (hi_X5_add_22 hT) rfl rfl ?_
            refine v_getf (v := (0, z)) (r := 18) (hi_X5_add_23 hT) rfl rfl (fun _ => (Eq.trans (ft24 18 0 (by first | decide | exact fun c => by omega)) (Eq.trans (ft12 18 0 (by first | decide | exact fun c => by omega)) hz))) ?_
            refine v_load (v := (0, 13)) (hi_X5_add_26 hT) rfl rfl ?_
            refine v_ast (r := 19) (hi_X5_add_27 hT) rfl rfl (fun ha27 hb28 hf29 => ?_)
            refine v_load (v := (2, 18)) (hi_X5_add_28 hT) rfl rfl ?_
            refine v_getR (c := 20) (r := 18) (hi_X5_add_29 hT) rfl rfl rfl ?_
            refine v_load (v := (2, 18)) (hi_X5_add_32 hT) rfl rfl ?_
            refine v_getf (v := (0, z)) (r := 18) (hi_X5_add_33 hT) rfl rfl (fun _ => Eq.trans (zset_ne (fun c => absurd c.1 (by decide))) ((Eq.trans (ft24 18 0 (by first | decide | exact fun c => by omega)) (Eq.trans (ft12 18 0 (by first | decide | exact fun c => by omega)) hz)))) ?_
            refine v_load (v := (0, (pIx (P 4) ((τ 4 (i + 1))) (P 0 3).toNat 0))) (hi_X5_add_36 hT) rfl rfl ?_
            refine v_ast (r := 20) (hi_X5_add_37 hT) rfl rfl (fun ha30 hb31 hf32 => ?_)
            refine v_load (v := (2, 18)) (hi_X5_add_38 hT) rfl rfl ?_
            refine v_getR (c := 21) (r := 18) (hi_X5_add_39 hT) rfl rfl rfl ?_
            refine v_load (v := (2, 18)) (hi_X5_add_42 hT) rfl rfl ?_
            refine v_getf (v := (0, z)) (r := 18) (hi_X5_add_43 hT) rfl rfl (fun _ => Eq.trans (Eq.trans (zset_ne (fun c => absurd c.1 (by decide))) (zset_ne (fun c => absurd c.1 (by decide)))) ((Eq.trans (ft24 18 0 (by first | decide | exact fun c => by omega)) (Eq.trans (ft12 18 0 (by first | decide | exact fun c => by omega)) hz)))) ?_
            refine v_load (v := (0, 0)) (hi_X5_add_46 hT) rfl rfl ?_
            refine v_ast (r := 21) (hi_X5_add_47 hT) rfl rfl (fun ha33 hb34 hf35 => ?_)
            refine v_load (v := (2, 18)) (hi_X5_add_48 hT) rfl rfl ?_
            refine v_getR (c := 22) (r := 18) (hi_X5_add_49 hT) rfl rfl rfl ?_
            refine v_load (v := (2, 18)) (hi_X5_add_52 hT) rfl rfl ?_
            refine v_getf (v := (0, z)) (r := 18) (hi_X5_add_53 hT) rfl rfl (fun _ => Eq.trans (Eq.trans (zset_ne (fun c => absurd c.1 (by decide))) (Eq.trans (zset_ne (fun c => absurd c.1 (by decide))) (zset_ne (fun c => absurd c.1 (by decide))))) ((Eq.trans (ft24 18 0 (by first | decide | exact fun c => by omega)) (Eq.trans (ft12 18 0 (by first | decide | exact fun c => by omega)) hz)))) ?_
            refine v_push (-1) (hi_X5_add_56 hT) rfl ?_
            refine v_ast (r := 22) (hi_X5_add_57 hT) rfl rfl (fun ha36 hb37 hf38 => ?_)
            refine v_load (v := (2, 18)) (hi_X5_add_58 hT) rfl rfl ?_
            refine v_dup (hi_X5_add_59 hT) (Nat.ne_of_beq_eq_false rfl) ?_
            refine v_getf (v := (0, z)) (r := 18) (hi_X5_add_60 hT) rfl rfl (fun _ => Eq.trans (Eq.trans (zset_ne (fun c => absurd c.1 (by decide))) (Eq.trans (zset_ne (fun c => absurd c.1 (by decide))) (Eq.trans (zset_ne (fun c => absurd c.1 (by decide))) (zset_ne (fun c => absurd c.1 (by decide)))))) ((Eq.trans (ft24 18 0 (by first | decide | exact fun c => by omega)) (Eq.trans (ft12 18 0 (by first | decide | exact fun c => by omega)) hz)))) ?_
            refine v_push (1) (hi_X5_add_63 hT) rfl ?_
            refine v_bin (w := (z + 1)) (hi_X5_add_64 hT) (hq_add (by omega) (by omega)) ?_
            refine v_putf (r := 18) hO (hi_X5_add_65 hT) rfl (fun hf39 => ?_)
            refine v_load (v := (2, 18)) (hi_X5_add_68 hT) rfl rfl ?_
            refine v_dup (hi_X5_add_69 hT) (Nat.ne_of_beq_eq_false rfl) ?_
            refine v_getf (v := (0, (s : Int))) (r := 18) (hi_X5_add_70 hT) rfl rfl (fun _ => Eq.trans (Eq.trans (zset_ne (fun c => absurd c.2 (by decide))) (Eq.trans (zset_ne (fun c => absurd c.1 (by decide))) (Eq.trans (zset_ne (fun c => absurd c.1 (by decide))) (Eq.trans (zset_ne (fun c => absurd c.1 (by decide))) (zset_ne (fun c => absurd c.1 (by decide))))))) ((Eq.trans (ft24 18 1 (by first | decide | exact fun c => by omega)) (Eq.trans (ft12 18 1 (by first | decide | exact fun c => by omega)) hs)))) ?_
            refine v_push (1) (hi_X5_add_73 hT) rfl ?_
            refine v_bin (w := ((s : Int) + 1)) (hi_X5_add_74 hT) (hq_add (by omega) (by omega)) ?_
            refine v_putf (r := 18) hO (hi_X5_add_75 hT) rfl (fun hf40 => ?_)
            refine v_push (1) (hi_X5_add_78 hT) rfl ?_
            refine v_ret (hi_X5_add_79 hT) (Or.inl rfl) ?_
            show vP D T N 86 65 (zset (zset (zset (zset (zset (zset g24 19 z.toNat (0, 13)) 20 z.toNat (0, (pIx (P 4) ((τ 4 (i + 1))) (P 0 3).toNat 0))) 21 z.toNat (0, 0)) 22 z.toNat (0, -1)) 18 0 (0, (z + 1))) 18 1 (0, ((s : Int) + 1))) [some (2, 17), some (0, 13), some (0, (pIx (P 4) ((τ 4 (i + 1))) (P 0 3).toNat 0))] [(0, 1)] _
            refine v_ret (hi_X6_readName_65 hT) (Or.inl rfl) ?_
            show vP D T N 87 163 (zset (zset (zset (zset (zset (zset g24 19 z.toNat (0, 13)) 20 z.toNat (0, (pIx (P 4) ((τ 4 (i + 1))) (P 0 3).toNat 0))) 21 z.toNat (0, 0)) 22 z.toNat (0, -1)) 18 0 (0, (z + 1))) 18 1 (0, ((s : Int) + 1))) [some (2, 17), some (0, 13)] [(0, 1)] _
            refine v_ret (hi_X6_readStep_163 hT) (Or.inl rfl) ?_
            show vP D T N 88 78 (zset (zset (zset (zset (zset (zset g24 19 z.toNat (0, 13)) 20 z.toNat (0, (pIx (P 4) ((τ 4 (i + 1))) (P 0 3).toNat 0))) 21 z.toNat (0, 0)) 22 z.toNat (0, -1)) 18 0 (0, (z + 1))) 18 1 (0, ((s : Int) + 1))) [some (2, 17), some (2, 24), some (0, w), some (0, x), o] [(0, 1)] _
            refine v_if (hi_X6_readText_78 hT) (fun hc41 => absurd (show (1 : Int) = 0 from hc41) (by decide)) (fun _ => ?_)
            refine v_push (1) (hi_X6_readText_81 hT) rfl ?_
            refine v_goto (hi_X6_readText_82 hT) ?_
            refine v_store1 [some (2, 17), some (2, 24), some (0, w), some (0, x), some (0, 1)] (hi_X6_readText_86 hT) ⟨rfl, Nat.ne_of_beq_eq_false rfl⟩ (Nat.le_of_ble_eq_true rfl) rfl ?_
            refine v_load (v := (0, 1)) (hi_X6_readText_88 hT) rfl rfl ?_
            refine v_if (hi_X6_readText_90 hT) (fun hc42 => absurd (show (1 : Int) = 0 from hc42) (by decide)) (fun _ => ?_)
            refine v_load (v := (2, 17)) (hi_X6_readText_93 hT) rfl rfl ?_
            refine v_getR (c := 10) (r := 17) (hi_X6_readText_94 hT) rfl rfl rfl ?_
            refine v_call (w := 1) [some (2, 10)] hO (hi_X6_readText_97 hT) rfl rfl (cx_stop hT hO (cX.z (r := 18) (k := 1) (v := (0, ((s : Int) + 1))) (by decide) (cX.z (r := 18) (k := 0) (v := (0, (z + 1))) (by decide) (cX.z (r := 22) (k := z.toNat) (v := (0, -1)) (by decide) (cX.z (r := 21) (k := z.toNat) (v := (0, 0)) (by decide) (cX.z (r := 20) (k := z.toNat) (v := (0, (pIx (P 4) ((τ 4 (i + 1))) (P 0 3).toNat 0))) (by decide) (cX.z (r := 19) (k := z.toNat) (v := (0, 13)) (by decide) hX24)))))) (fun g43 ft43 q43 hX43 => ?_) (fun g44 e44 ft44 q44 c44 => ?_))
            · show vP D T N 88 100 g43 [some (2, 17), some (2, 24), some (0, w), some (0, x), some (0, 1)] [(0, 1)] _
              refine vP_hv (fun hv43 => ?_)
              refine v_if (hi_X6_readText_100 hT) (fun hc45 => absurd (show (1 : Int) = 0 from hc45) (by decide)) (fun _ => ?_)
              refine v_iinc (x := x) (u := 1) (w := (x + 1)) [some (2, 17), some (2, 24), some (0, w), some (0, (x + 1)), some (0, 1)] (hi_X6_readText_105 hT) rfl rfl (Nat.le_of_ble_eq_true rfl) (vz_inc (by omega) (by omega)) rfl ?_
              refine v_goto (hi_X6_readText_108 hT) ?_
              exact ih g43 (s + 1) (d) (i + 1 + 1 + 1) _ _ _ (some (0, 1)) 13 ((pIx (P 4) ((τ 4 (i + 1))) (P 0 3).toNat 0)) 0 (i + 1 + 1) (by simp only [pStep, hE, hsw, hop, h15, opW15, harg, pNm, Bool.false_eq_true, (show ¬ 30 ≤ s from by omega), hc16, hc20, q43, ne_eq, not_true_eq_false, not_false_eq_true, if_true, if_false, eq_self, eb_l, eb_r, and_true, true_and, and_false, false_and]) hX43 ((cP.z (a := 18) (b := 1) (v := (0, ((s : Int) + 1))) (by decide) (cP.z (a := 18) (b := 0) (v := (0, (z + 1))) (by decide) (cP.z (a := 22) (b := z.toNat) (v := (0, -1)) (by decide) (cP.z (a := 21) (b := z.toNat) (v := (0, 0)) (by decide) (cP.z (a := 20) (b := z.toNat) (v := (0, (pIx (P 4) ((τ 4 (i + 1))) (P 0 3).toNat 0))) (by decide) (cP.z (a := 19) (b := z.toNat) (v := (0, 13)) (by decide) ((hP.tf ft12).tf ft24))))))).tf ft43) (Eq.trans (ft43 17 2 (by first | decide | exact fun c => by omega)) (Eq.trans (Eq.trans (zset_ne (fun c => absurd c.1 (by decide))) (Eq.trans (zset_ne (fun c => absurd c.1 (by decide))) (Eq.trans (zset_ne (fun c => absurd c.1 (by decide))) (Eq.trans (zset_ne (fun c => absurd c.1 (by decide))) (Eq.trans (zset_ne (fun c => absurd c.1 (by decide))) (zset_ne (fun c => absurd c.1 (by decide)))))))) ((Eq.trans (ft24 17 2 (by first | decide | exact fun c => by omega)) (Eq.trans (ft12 17 2 (by first | decide | exact fun c => by omega)) hl))))) (Eq.trans (ft43 18 1 (by first | decide | exact fun c => by omega)) (zset_same)) (by omega) (Eq.trans (ft43 17 4 (by first | decide | exact fun c => by omega)) (Eq.trans (Eq.trans (zset_ne (fun c => absurd c.1 (by decide))) (Eq.trans (zset_ne (fun c => absurd c.1 (by decide))) (Eq.trans (zset_ne (fun c => absurd c.1 (by decide))) (Eq.trans (zset_ne (fun c => absurd c.1 (by decide))) (Eq.trans (zset_ne (fun c => absurd c.1 (by decide))) (zset_ne (fun c => absurd c.1 (by decide)))))))) ((Eq.trans (ft24 17 4 (by first | decide | exact fun c => by omega)) (Eq.trans (ft12 17 4 (by first | decide | exact fun c => by omega)) hd))))) (by omega) (Eq.trans (ft43 18 0 (by first | decide | exact fun c => by omega)) (Eq.trans (zset_ne (fun c => absurd c.2 (by decide))) zset_same)) (by omega) (ob_same (o23_t ft43 (o23_n (r := 18) (k := 1) (v := (0, ((s : Int) + 1))) (by decide) (o23_n (r := 18) (k := 0) (v := (0, (z + 1))) (by decide) (o23_n (r := 22) (k := z.toNat) (v := (0, -1)) (by decide) (o23_n (r := 21) (k := z.toNat) (v := (0, 0)) (by decide) (o23_n (r := 20) (k := z.toNat) (v := (0, (pIx (P 4) ((τ 4 (i + 1))) (P 0 3).toNat 0))) (by decide) (o23_n (r := 19) (k := z.toNat) (v := (0, 13)) (by decide) (o23_t ft24 (o23_t ft12 (fun _ => Eq.refl _)))))))))) ho (by omega) (by omega)) (oFr.t (oFr.z (a := 18) (b := 1) (v := (0, ((s : Int) + 1))) (by omega) (oFr.z (a := 18) (b := 0) (v := (0, (z + 1))) (by omega) (oFr.z (a := 22) (b := z.toNat) (v := (0, -1)) (by omega) (oFr.z (a := 21) (b := z.toNat) (v := (0, 0)) (by omega) (oFr.z (a := 20) (b := z.toNat) (v := (0, (pIx (P 4) ((τ 4 (i + 1))) (P 0 3).toNat 0))) (by omega) (oFr.z (a := 19) (b := z.toNat) (v := (0, 13)) (by omega) (oFr.t (oFr.t oFr.rfl ft12) ft24))))))) ft43) rfl (pItV_a h3 (by decide) (by simp only [hargV, pNm, (show ¬ 30 ≤ s from by omega), hc16, hc20, q43, ne_eq, not_true_eq_false, not_false_eq_true, if_true, if_false, eq_self, eb_l, eb_r, and_true, true_and, and_false, false_and])) ⟨(kr_f (fun e => ft43 19 e (fun c => by omega)) (kr_n (a := 18) (k := 1) (v := (0, ((s : Int) + 1))) (by decide) (kr_n (a := 18) (k := 0) (v := (0, (z + 1))) (by decide) (kr_n (a := 22) (k := z.toNat) (v := (0, -1)) (by decide) (kr_n (a := 21) (k := z.toNat) (v := (0, 0)) (by decide) (kr_n (a := 20) (k := z.toNat) (v := (0, (pIx (P 4) ((τ 4 (i + 1))) (P 0 3).toNat 0))) (by decide) (kr_z (k := z.toNat) (v := (0, 13)) (kr_f (fun e => ft24 19 e (fun c => by omega)) (kr_f (fun e => ft12 19 e (fun c => by omega)) (fun _ => Eq.refl _)))))))))), (kr_f (fun e => ft43 20 e (fun c => by omega)) (kr_n (a := 18) (k := 1) (v := (0, ((s : Int) + 1))) (by decide) (kr_n (a := 18) (k := 0) (v := (0, (z + 1))) (by decide) (kr_n (a := 22) (k := z.toNat) (v := (0, -1)) (by decide) (kr_n (a := 21) (k := z.toNat) (v := (0, 0)) (by decide) (kr_z (k := z.toNat) (v := (0, (pIx (P 4) ((τ 4 (i + 1))) (P 0 3).toNat 0))) (kr_n (a := 19) (k := z.toNat) (v := (0, 13)) (by decide) (kr_f (fun e => ft24 20 e (fun c => by omega)) (kr_f (fun e => ft12 20 e (fun c => by omega)) (fun _ => Eq.refl _)))))))))), (kr_f (fun e => ft43 21 e (fun c => by omega)) (kr_n (a := 18) (k := 1) (v := (0, ((s : Int) + 1))) (by decide) (kr_n (a := 18) (k := 0) (v := (0, (z + 1))) (by decide) (kr_n (a := 22) (k := z.toNat) (v := (0, -1)) (by decide) (kr_z (k := z.toNat) (v := (0, 0)) (kr_n (a := 20) (k := z.toNat) (v := (0, (pIx (P 4) ((τ 4 (i + 1))) (P 0 3).toNat 0))) (by decide) (kr_n (a := 19) (k := z.toNat) (v := (0, 13)) (by decide) (kr_f (fun e => ft24 21 e (fun c => by omega)) (kr_f (fun e => ft12 21 e (fun c => by omega)) (fun _ => Eq.refl _)))))))))), (kr_f (fun e => ft43 22 e (fun c => by omega)) (kr_n (a := 18) (k := 1) (v := (0, ((s : Int) + 1))) (by decide) (kr_n (a := 18) (k := 0) (v := (0, (z + 1))) (by decide) (kr_z (k := z.toNat) (v := (0, -1)) (kr_n (a := 21) (k := z.toNat) (v := (0, 0)) (by decide) (kr_n (a := 20) (k := z.toNat) (v := (0, (pIx (P 4) ((τ 4 (i + 1))) (P 0 3).toNat 0))) (by decide) (kr_n (a := 19) (k := z.toNat) (v := (0, 13)) (by decide) (kr_f (fun e => ft24 22 e (fun c => by omega)) (kr_f (fun e => ft12 22 e (fun c => by omega)) (fun _ => Eq.refl _))))))))))⟩ (kr_f (fun e => ft43 23 e (fun c => by omega)) (kr_n (a := 18) (k := 1) (v := (0, ((s : Int) + 1))) (by decide) (kr_n (a := 18) (k := 0) (v := (0, (z + 1))) (by decide) (kr_n (a := 22) (k := z.toNat) (v := (0, -1)) (by decide) (kr_n (a := 21) (k := z.toNat) (v := (0, 0)) (by decide) (kr_n (a := 20) (k := z.toNat) (v := (0, (pIx (P 4) ((τ 4 (i + 1))) (P 0 3).toNat 0))) (by decide) (kr_n (a := 19) (k := z.toNat) (v := (0, 13)) (by decide) (kr_f (fun e => ft24 23 e (fun c => by omega)) (kr_f (fun e => ft12 23 e (fun c => by omega)) (fun _ => Eq.refl _))))))))))
            · show vP D T N 88 100 g44 [some (2, 17), some (2, 24), some (0, w), some (0, x), some (0, 1)] [(0, 0)] _
              refine vP_hv (fun hv44 => ?_)
              refine v_if (hi_X6_readText_100 hT) (fun _ => ?_) (fun hc46 => absurd (show (0 : Int) = 0 from (by decide)) hc46)
              refine v_push (0) (hi_X6_readText_103 hT) rfl ?_
              refine v_ret (hi_X6_readText_104 hT) (Or.inl rfl) ?_
              exact er _ _ (by simp only [pStep, hE, hsw, hop, h15, opW15, harg, pNm, Bool.false_eq_true, (show ¬ 30 ≤ s from by omega), hc16, hc20, q44, ne_eq, not_true_eq_false, not_false_eq_true, if_true, if_false, eq_self, eb_l, eb_r, and_true, true_and, and_false, false_and]) c44 (oFr.t (oFr.z (a := 18) (b := 1) (v := (0, ((s : Int) + 1))) (by omega) (oFr.z (a := 18) (b := 0) (v := (0, (z + 1))) (by omega) (oFr.z (a := 22) (b := z.toNat) (v := (0, -1)) (by omega) (oFr.z (a := 21) (b := z.toNat) (v := (0, 0)) (by omega) (oFr.z (a := 20) (b := z.toNat) (v := (0, (pIx (P 4) ((τ 4 (i + 1))) (P 0 3).toNat 0))) (by omega) (oFr.z (a := 19) (b := z.toNat) (v := (0, 13)) (by omega) (oFr.t (oFr.t oFr.rfl ft12) ft24))))))) ft44)
  · have hc9 : 30 ≤ (s : Int) := Int.not_lt.mp hc9
    refine v_load (v := (2, 17)) (hi_X6_mayBegin_69 hT) rfl rfl ?_
    refine v_getR (c := 10) (r := 17) (hi_X6_mayBegin_70 hT) rfl rfl rfl ?_
    refine v_push (6) (hi_X6_mayBegin_73 hT) rfl ?_
    refine v_call (w := 2) [some (2, 10), some (0, 6)] hO (hi_X6_mayBegin_75 hT) rfl rfl (cx_blame hT hO 6 hX (fun g47 ft47 c47 => ?_))
    · show vP D T N 81 78 g47 [some (2, 17), some (0, 13), some (0, 0)] [(0, 0)] _
      refine vP_hv (fun hv47 => ?_)
      refine v_ret (hi_X6_mayBegin_78 hT) (Or.inl rfl) ?_
      show vP D T N 88 67 g47 [some (2, 17), some (2, 24), some (0, w), some (0, x), o] [(0, 0)] _
      refine v_if (hi_X6_readText_67 hT) (fun _ => ?_) (fun hc48 => absurd (show (0 : Int) = 0 from (by decide)) hc48)
      refine v_push (0) (hi_X6_readText_85 hT) rfl ?_
      refine v_store1 [some (2, 17), some (2, 24), some (0, w), some (0, x), some (0, 0)] (hi_X6_readText_86 hT) ⟨rfl, Nat.ne_of_beq_eq_false rfl⟩ (Nat.le_of_ble_eq_true rfl) rfl ?_
      refine v_load (v := (0, 0)) (hi_X6_readText_88 hT) rfl rfl ?_
      refine v_if (hi_X6_readText_90 hT) (fun _ => ?_) (fun hc49 => absurd (show (0 : Int) = 0 from (by decide)) hc49)
      refine v_push (0) (hi_X6_readText_103 hT) rfl ?_
      refine v_ret (hi_X6_readText_104 hT) (Or.inl rfl) ?_
      exact er _ _ (by simp only [pStep, hE, hsw, hop, h15, opW15, harg, pNm, Bool.false_eq_true, (show 30 ≤ s from by omega), ne_eq, not_true_eq_false, not_false_eq_true, if_true, if_false, eq_self, eb_l, eb_r, and_true, true_and, and_false, false_and]) c47 (oFr.t oFr.rfl ft47)
theorem co7_14_24 {D : zD} {T : zT} (hT : hTab T) (hO : vOK T) {N : Nat} {h : zH} {Q : zR → Prop} {B : Nat → Int} {n m i s d : Nat} {τ P : PT} (w x z : Int) (o : Option zV) (hv0 : zHv h) (hX : cX B n m τ i h) (hK : Tks B n m τ) (hP : cP 24 P h) (hb : (0 ≤ P 0 0 ∧ P 0 0 ≤ 8) ∧ (0 ≤ P 0 1 ∧ P 0 1 ≤ 6) ∧ (0 ≤ P 0 2 ∧ P 0 2 ≤ 3) ∧ (0 ≤ P 0 3 ∧ P 0 3 ≤ 6)) (hl : h 17 2 = (2, 24)) (hs : h 18 1 = (0, (s : Int))) (hd : h 17 4 = (0, (d : Int))) (hz : h 18 0 = (0, z)) (bs : s ≤ 30) (bd : d ≤ 3) (bz : 0 ≤ z) (bzd : z + d ≤ 2 * s) (ho : ∀ e : Nat, e < d → 0 ≤ (h 23 e).2 ∧ (h 23 e).2 < z) (hx : 0 ≤ x ∧ x < 900) (h0 : τ 0 i ≠ 0) (h1 : τ 0 i = 1) (h3 : τ 3 i = 14) (ih : ∀ g s' d' i' a b z' o' K u v j, pStep τ P s d i = .inr (s', d', i') → cX B n m τ i' g → cP 24 P g → g 17 2 = (2, 24) → g 18 1 = (0, a) → a = (s' : Int) → g 17 4 = (0, b) → b = (d' : Int) → g 18 0 = (0, z') → s' ≤ 30 ∧ d' ≤ 3 ∧ 0 ≤ z' ∧ z' + d' ≤ 2 * s' → (∀ e : Nat, e < d' → 0 ≤ (g 23 e).2 ∧ (g 23 e).2 < z') → oFr h g → z' = z + 1 → pItV τ P i = .inr (K, u, v, j) → oW4 h g z K u v → (∀ e, g 23 e = h 23 e) → vP D T N 88 27 g [some (2, 17), some (2, 24), some (0, w), some (0, (x + 1)), o'] [] Q) (er : ∀ g e, pStep τ P s d i = .inl e → cB e g → oFr h g → Q (g, some (0, 0))) :
    vP D T (N + 1) 88 27 h [some (2, 17), some (2, 24), some (0, w), some (0, x), o] [] Q := by
  have hEn : (bEn τ i) = 0 := bEn_n h0
  have hE : (bW τ 20 i) = 0 := bW_0.mpr (fun c => absurd (h3.symm.trans c.2) (by decide))
  have hsw : ¬ swd τ i < 0 := by rw [swd_v h1, h3]; decide
  have hop : opW (τ 3 i) = false := by rw [h3]; rfl
  have h15 : ¬ τ 3 i = 15 := by rw [h3]; decide
  have harg : ∀ j, oArg τ P (τ 3 i) j = (.inr j) := fun j => by rw [h3]; rfl
  have hargV : ∀ j, oArV τ P 14 j = (.inr (0, 0, j)) := fun _ => rfl
  refine v_loadS (v := (0, x)) (hi_X6_readText_27 hT) rfl rfl ?_
  refine v_push (900) (hi_X6_readText_28 hT) rfl ?_
  refine v_ic (hi_X6_readText_31 hT) (fun _ => ?_) (fun hc1 => absurd (show x < 900 from hx.2) hc1)
  refine v_load (v := (2, 17)) (hi_X6_readText_34 hT) rfl rfl ?_
  refine v_getR (c := 10) (r := 17) (hi_X6_readText_35 hT) rfl rfl rfl ?_
  refine v_call (w := 1) [some (2, 10)] hO (hi_X6_readText_38 hT) rfl rfl (cx_isEnd hT hO hX ?_)
  show vP D T N 88 41 h [some (2, 17), some (2, 24), some (0, w), some (0, x), o] [(0, (bEn τ i))] _
  refine v_if (hi_X6_readText_41 hT) (fun _ => ?_) (fun hc2 => absurd (show (bEn τ i) = 0 from hEn) hc2)
  refine v_load (v := (2, 17)) (hi_X6_readText_44 hT) rfl rfl ?_
  refine v_getR (c := 10) (r := 17) (hi_X6_readText_45 hT) rfl rfl rfl ?_
  refine v_push (20) (hi_X6_readText_48 hT) rfl ?_
  refine v_call (w := 2) [some (2, 10), some (0, 20)] hO (hi_X6_readText_50 hT) rfl rfl (cx_isWord hT hO 20 hX ?_)
  show vP D T N 88 53 h [some (2, 17), some (2, 24), some (0, w), some (0, x), o] [(0, (bW τ 20 i))] _
  refine v_if (hi_X6_readText_53 hT) (fun _ => ?_) (fun hc3 => absurd (show (bW τ 20 i) = 0 from hE) hc3)
  refine v_load (v := (2, 17)) (hi_X6_readText_63 hT) rfl rfl ?_
  refine v_call (w := 3) [some (2, 17), none, none] hO (hi_X6_readText_64 hT) rfl rfl ?_
  refine v_load (v := (2, 17)) (hi_X6_mayBegin_0 hT) rfl rfl ?_
  refine v_getR (c := 10) (r := 17) (hi_X6_mayBegin_1 hT) rfl rfl rfl ?_
  refine v_call (w := 1) [some (2, 10)] hO (hi_X6_mayBegin_4 hT) rfl rfl (cx_wordK hT hO 14 hX h1 h3 ?_)
  show vP D T N 81 7 h [some (2, 17), none, none] [(0, 14)] _
  refine v_store1 [some (2, 17), some (0, 14), none] (hi_X6_mayBegin_7 hT) ⟨rfl, Nat.ne_of_beq_eq_false rfl⟩ (Nat.le_of_ble_eq_true rfl) rfl ?_
  refine v_load (v := (0, 14)) (hi_X6_mayBegin_8 hT) rfl rfl ?_
  refine v_push (15) (hi_X6_mayBegin_9 hT) rfl ?_
  refine v_ic (hi_X6_mayBegin_11 hT) (fun hc4 => absurd (show (14 : Int) = 15 from hc4) (by decide)) (fun _ => ?_)
  refine v_load (v := (0, 14)) (hi_X6_mayBegin_14 hT) rfl rfl ?_
  refine v_push (19) (hi_X6_mayBegin_15 hT) rfl ?_
  refine v_ic (hi_X6_mayBegin_17 hT) (fun hc5 => absurd (show (14 : Int) = 19 from hc5) (by decide)) (fun _ => ?_)
  refine v_push (0) (hi_X6_mayBegin_24 hT) rfl ?_
  refine v_store1 [some (2, 17), some (0, 14), some (0, 0)] (hi_X6_mayBegin_25 hT) ⟨rfl, Nat.ne_of_beq_eq_false rfl⟩ (Nat.le_of_ble_eq_true rfl) rfl ?_
  refine v_load (v := (0, 0)) (hi_X6_mayBegin_26 hT) rfl rfl ?_
  refine v_if (hi_X6_mayBegin_27 hT) (fun _ => ?_) (fun hc6 => absurd (show (0 : Int) = 0 from (by decide)) hc6)
  refine v_load (v := (0, 14)) (hi_X6_mayBegin_30 hT) rfl rfl ?_
  refine v_push (8) (hi_X6_mayBegin_31 hT) rfl ?_
  refine v_ic (hi_X6_mayBegin_33 hT) (fun hc7 => absurd (show (14 : Int) < 8 from hc7) (by decide)) (fun _ => ?_)
  refine v_load (v := (0, 14)) (hi_X6_mayBegin_36 hT) rfl rfl ?_
  refine v_push (14) (hi_X6_mayBegin_37 hT) rfl ?_
  refine v_ic (hi_X6_mayBegin_39 hT) (fun hc8 => absurd (show 14 < (14 : Int) from hc8) (by decide)) (fun _ => ?_)
  refine v_load (v := (2, 17)) (hi_X6_mayBegin_57 hT) rfl rfl ?_
  refine v_getR (c := 18) (r := 17) (hi_X6_mayBegin_58 hT) rfl rfl rfl ?_
  refine v_getf (v := (0, (s : Int))) (r := 18) (hi_X6_mayBegin_61 hT) rfl rfl (fun _ => hs) ?_
  refine v_push (30) (hi_X6_mayBegin_64 hT) rfl ?_
  refine v_ic (hi_X6_mayBegin_66 hT) (fun hc9 => ?_) (fun hc9 => ?_)
  · have hc9 : (s : Int) < 30 := hc9
    refine v_load (v := (0, 0)) (hi_X6_mayBegin_79 hT) rfl rfl ?_
    refine v_if (hi_X6_mayBegin_80 hT) (fun _ => ?_) (fun hc10 => absurd (show (0 : Int) = 0 from (by decide)) hc10)
    refine v_push (1) (hi_X6_mayBegin_101 hT) rfl ?_
    refine v_ret (hi_X6_mayBegin_102 hT) (Or.inl rfl) ?_
    show vP D T N 88 67 h [some (2, 17), some (2, 24), some (0, w), some (0, x), o] [(0, 1)] _
    refine v_if (hi_X6_readText_67 hT) (fun hc11 => absurd (show (1 : Int) = 0 from hc11) (by decide)) (fun _ => ?_)
    refine v_load (v := (2, 17)) (hi_X6_readText_70 hT) rfl rfl ?_
    refine v_load (v := (2, 17)) (hi_X6_readText_71 hT) rfl rfl ?_
    refine v_call (w := 3) [some (2, 17), none, none] hO (hi_X6_readText_72 hT) rfl rfl ?_
    refine v_load (v := (2, 17)) (hi_X6_beginStep_0 hT) rfl rfl ?_
    refine v_getR (c := 10) (r := 17) (hi_X6_beginStep_1 hT) rfl rfl rfl ?_
    refine v_call (w := 1) [some (2, 10)] hO (hi_X6_beginStep_4 hT) rfl rfl (cx_wordK hT hO 14 hX h1 h3 ?_)
    show vP D T N 80 7 h [some (2, 17), none, none] [(0, 14)] _
    refine v_store1 [some (2, 17), some (0, 14), none] (hi_X6_beginStep_7 hT) ⟨rfl, Nat.ne_of_beq_eq_false rfl⟩ (Nat.le_of_ble_eq_true rfl) rfl ?_
    refine v_load (v := (2, 17)) (hi_X6_beginStep_8 hT) rfl rfl ?_
    refine v_getR (c := 10) (r := 17) (hi_X6_beginStep_9 hT) rfl rfl rfl ?_
    refine v_call (w := 1) [some (2, 10)] hO (hi_X6_beginStep_12 hT) rfl rfl (cx_adv hT hO hX (ne_10 h1) (ne_14 h1) (fun g12 ft12 hX12 => ?_))
    · show vP D T N 80 15 g12 [some (2, 17), some (0, 14), none] [] _
      refine vP_hv (fun hv12 => ?_)
      refine v_load (v := (0, 14)) (hi_X6_beginStep_15 hT) rfl rfl ?_
      refine v_push (15) (hi_X6_beginStep_16 hT) rfl ?_
      refine v_ic (hi_X6_beginStep_18 hT) (fun hc13 => absurd (show (14 : Int) = 15 from hc13) (by decide)) (fun _ => ?_)
      refine v_load (v := (0, 14)) (hi_X6_beginStep_21 hT) rfl rfl ?_
      refine v_push (19) (hi_X6_beginStep_22 hT) rfl ?_
      refine v_ic (hi_X6_beginStep_24 hT) (fun hc14 => absurd (show (14 : Int) = 19 from hc14) (by decide)) (fun _ => ?_)
      refine v_load (v := (0, 14)) (hi_X6_beginStep_61 hT) rfl rfl ?_
      refine v_push (15) (hi_X6_beginStep_62 hT) rfl ?_
      refine v_ic (hi_X6_beginStep_64 hT) (fun hc15 => absurd (show (14 : Int) = 15 from hc15) (by decide)) (fun _ => ?_)
      refine v_load (v := (0, 14)) (hi_X6_beginStep_67 hT) rfl rfl ?_
      refine v_ret (hi_X6_beginStep_68 hT) (Or.inl rfl) ?_
      show vP D T N 88 75 g12 [some (2, 17), some (2, 24), some (0, w), some (0, x), o] [(0, 14), (2, 17)] _
      refine v_call (w := 2) [some (2, 17), some (0, 14)] hO (hi_X6_readText_75 hT) rfl rfl ?_
      refine v_load (v := (0, 14)) (hi_X6_readStep_0 hT) rfl rfl ?_
      refine v_sw (hi_X6_readStep_1 hT) ?_
      refine ⟨fun c => absurd c (by decide), fun _ => ?_⟩
      refine ⟨fun c => absurd c (by decide), fun _ => ?_⟩
      refine ⟨fun c => absurd c (by decide), fun _ => ?_⟩
      refine ⟨fun c => absurd c (by decide), fun _ => ?_⟩
      refine ⟨fun c => absurd c (by decide), fun _ => ?_⟩
      refine ⟨fun c => absurd c (by decide), fun _ => ?_⟩
      refine ⟨fun c => absurd c (by decide), fun _ => ?_⟩
      refine ⟨fun c => absurd c (by decide), fun _ => ?_⟩
      refine ⟨fun c => absurd c (by decide), fun _ => ?_⟩
      refine ⟨fun c => absurd c (by decide), fun _ => ?_⟩
      refine ⟨fun c => absurd c (by decide), fun _ => ?_⟩
      refine ⟨fun c => absurd c (by decide), fun _ => ?_⟩
      refine ⟨fun c => absurd c (by decide), fun _ => ?_⟩
      refine ⟨fun c => absurd c (by decide), fun _ => ?_⟩
      refine ⟨fun c => absurd c (by decide), fun _ => ?_⟩
      refine ⟨fun _ => ?_, fun c => absurd rfl c⟩
      refine v_load (v := (2, 17)) (hi_X6_readStep_186 hT) rfl rfl ?_
      refine v_getR (c := 18) (r := 17) (hi_X6_readStep_187 hT) rfl rfl rfl ?_
      refine v_load (v := (0, 14)) (hi_X6_readStep_190 hT) rfl rfl ?_
      refine v_push (0) (hi_X6_readStep_191 hT) rfl ?_
      refine v_push (0) (hi_X6_readStep_192 hT) rfl ?_
      refine v_call (w := 4) [some (2, 18), some (0, 14), some (0, 0), some (0, 0)] hO (hi_X6_readStep_193 hT) rfl rfl ?_
      refine v_load (v := (2, 18)) (hi_X5_add_0 hT) rfl rfl ?_
      refine v_getf (v := (0, z)) (r := 18) (hi_X5_add_1 hT) rfl rfl (fun _ => (Eq.trans (ft12 18 0 (by first | decide | exact fun c => by omega)) hz)) ?_
      refine v_if (hi_X5_add_4 hT) (fun hc16 => absurd (show z < 0 from hc16) (by omega)) (fun _ => ?_)
      refine v_load (v := (2, 18)) (hi_X5_add_7 hT) rfl rfl ?_
      refine v_getf (v := (0, z)) (r := 18) (hi_X5_add_8 hT) rfl rfl (fun _ => (Eq.trans (ft12 18 0 (by first | decide | exact fun c => by omega)) hz)) ?_
      refine v_push (60) (hi_X5_add_11 hT) rfl ?_
      refine v_ic (hi_X5_add_13 hT) (fun _ => ?_) (fun hc17 => absurd (show z < 60 from (by omega)) hc17)
      refine v_load (v := (2, 18)) (hi_X5_add_18 hT) rfl rfl ?_
      refine v_getR (c := 19) (r := 18) (hi_X5_add_19 hT) rfl rfl rfl ?_
      refine v_load (v := (2, 18)) (hi_X5_add_22 hT) rfl rfl ?_
      refine v_getf (v := (0, z)) (r := 18) (hi_X5_add_23 hT) rfl rfl (fun _ => (Eq.trans (ft12 18 0 (by first | decide | exact fun c => by omega)) hz)) ?_
      refine v_load (v := (0, 14)) (hi_X5_add_26 hT) rfl rfl ?_
      refine v_ast (r := 19) (hi_X5_add_27 hT) rfl rfl (fun ha18 hb19 hf20 => ?_)
      refine v_load (v := (2, 18)) (hi_X5_add_28 hT) rfl rfl ?_
      refine v_getR (c := 20) (r := 18) (hi_X5_add_29 hT) rfl rfl rfl ?_
      refine v_load (v := (2, 18)) (hi_X5_add_32 hT) rfl rfl ?_
      refine v_getf (v := (0, z)) (r := 18) (hi_X5_add_33 hT) rfl rfl (fun _ => Eq.trans (zset_ne (fun c => absurd c.1 (by decide))) ((Eq.trans (ft12 18 0 (by first | decide | exact fun c => by omega)) hz))) ?_
      refine v_load (v := (0, 0)) (hi_X5_add_36 hT) rfl rfl ?_
      refine v_ast (r := 20) (hi_X5_add_37 hT) rfl rfl (fun ha21 hb22 hf23 => ?_)
      refine v_load (v := (2, 18)) (hi_X5_add_38 hT) rfl rfl ?_
      refine v_getR (c := 21) (r := 18) (hi_X5_add_39 hT) rfl rfl rfl ?_
      refine v_load (v := (2, 18)) (hi_X5_add_42 hT) rfl rfl ?_
      refine v_getf (v := (0, z)) (r := 18) (hi_X5_add_43 hT) rfl rfl (fun _ => Eq.trans (Eq.trans (zset_ne (fun c => absurd c.1 (by decide))) (zset_ne (fun c => absurd c.1 (by decide)))) ((Eq.trans (ft12 18 0 (by first | decide | exact fun c => by omega)) hz))) ?_
      refine v_load (v := (0, 0)) (hi_X5_add_46 hT) rfl rfl ?_
      refine v_ast (r := 21) (hi_X5_add_47 hT) rfl rfl (fun ha24 hb25 hf26 => ?_)
      refine v_load (v := (2, 18)) (hi_X5_add_48 hT) rfl rfl ?_
      refine v_getR (c := 22) (r := 18) (hi_X5_add_49 hT) rfl rfl rfl ?_
      refine v_load (v := (2, 18)) (hi_X5_add_52 hT) rfl rfl ?_
      refine v_getf (v := (0, z)) (r := 18) (hi_X5_add_53 hT) rfl rfl (fun _ => Eq.trans (Eq.trans (zset_ne (fun c => absurd c.1 (by decide))) (Eq.trans (zset_ne (fun c => absurd c.1 (by decide))) (zset_ne (fun c => absurd c.1 (by decide))))) ((Eq.trans (ft12 18 0 (by first | decide | exact fun c => by omega)) hz))) ?_
      refine v_push (-1) (hi_X5_add_56 hT) rfl ?_
      refine v_ast (r := 22) (hi_X5_add_57 hT) rfl rfl (fun ha27 hb28 hf29 => ?_)
      refine v_load (v := (2, 18)) (hi_X5_add_58 hT) rfl rfl ?_
      refine v_dup (hi_X5_add_59 hT) (Nat.ne_of_beq_eq_false rfl) ?_
      refine v_getf (v := (0, z)) (r := 18) (hi_X5_add_60 hT) rfl rfl (fun _ => Eq.trans (Eq.trans (zset_ne (fun c => absurd c.1 (by decide))) (Eq.trans (zset_ne (fun c => absurd c.1 (by decide))) (Eq.trans (zset_ne (fun c => absurd c.1 (by decide))) (zset_ne (fun c => absurd c.1 (by decide)))))) ((Eq.trans (ft12 18 0 (by first | decide | exact fun c => by omega)) hz))) ?_
      refine v_push (1) (hi_X5_add_63 hT) rfl ?_
      refine v_bin (w := (z + 1)) (hi_X5_add_64 hT) (hq_add (by omega) (by omega)) ?_
      refine v_putf (r := 18) hO (hi_X5_add_65 hT) rfl (fun hf30 => ?_)
      refine v_load (v := (2, 18)) (hi_X5_add_68 hT) rfl rfl ?_
      refine v_dup (hi_X5_add_69 hT) (Nat.ne_of_beq_eq_false rfl) ?_
      refine v_getf (v := (0, (s : Int))) (r := 18) (hi_X5_add_70 hT) rfl rfl (fun _ => Eq.trans (Eq.trans (zset_ne (fun c => absurd c.2 (by decide))) (Eq.trans (zset_ne (fun c => absurd c.1 (by decide))) (Eq.trans (zset_ne (fun c => absurd c.1 (by decide))) (Eq.trans (zset_ne (fun c => absurd c.1 (by decide))) (zset_ne (fun c => absurd c.1 (by decide))))))) ((Eq.trans (ft12 18 1 (by first | decide | exact fun c => by omega)) hs))) ?_
      refine v_push (1) (hi_X5_add_73 hT) rfl ?_
      refine v_bin (w := ((s : Int) + 1)) (hi_X5_add_74 hT) (hq_add (by omega) (by omega)) ?_
      refine v_putf (r := 18) hO (hi_X5_add_75 hT) rfl (fun hf31 => ?_)
      refine v_push (1) (hi_X5_add_78 hT) rfl ?_
      refine v_ret (hi_X5_add_79 hT) (Or.inl rfl) ?_
      show vP D T N 87 196 (zset (zset (zset (zset (zset (zset g12 19 z.toNat (0, 14)) 20 z.toNat (0, 0)) 21 z.toNat (0, 0)) 22 z.toNat (0, -1)) 18 0 (0, (z + 1))) 18 1 (0, ((s : Int) + 1))) [some (2, 17), some (0, 14)] [(0, 1)] _
      refine v_ret (hi_X6_readStep_196 hT) (Or.inl rfl) ?_
      show vP D T N 88 78 (zset (zset (zset (zset (zset (zset g12 19 z.toNat (0, 14)) 20 z.toNat (0, 0)) 21 z.toNat (0, 0)) 22 z.toNat (0, -1)) 18 0 (0, (z + 1))) 18 1 (0, ((s : Int) + 1))) [some (2, 17), some (2, 24), some (0, w), some (0, x), o] [(0, 1)] _
      refine v_if (hi_X6_readText_78 hT) (fun hc32 => absurd (show (1 : Int) = 0 from hc32) (by decide)) (fun _ => ?_)
      refine v_push (1) (hi_X6_readText_81 hT) rfl ?_
      refine v_goto (hi_X6_readText_82 hT) ?_
      refine v_store1 [some (2, 17), some (2, 24), some (0, w), some (0, x), some (0, 1)] (hi_X6_readText_86 hT) ⟨rfl, Nat.ne_of_beq_eq_false rfl⟩ (Nat.le_of_ble_eq_true rfl) rfl ?_
      refine v_load (v := (0, 1)) (hi_X6_readText_88 hT) rfl rfl ?_
      refine v_if (hi_X6_readText_90 hT) (fun hc33 => absurd (show (1 : Int) = 0 from hc33) (by decide)) (fun _ => ?_)
      refine v_load (v := (2, 17)) (hi_X6_readText_93 hT) rfl rfl ?_
      refine v_getR (c := 10) (r := 17) (hi_X6_readText_94 hT) rfl rfl rfl ?_
      refine v_call (w := 1) [some (2, 10)] hO (hi_X6_readText_97 hT) rfl rfl (cx_stop hT hO (cX.z (r := 18) (k := 1) (v := (0, ((s : Int) + 1))) (by decide) (cX.z (r := 18) (k := 0) (v := (0, (z + 1))) (by decide) (cX.z (r := 22) (k := z.toNat) (v := (0, -1)) (by decide) (cX.z (r := 21) (k := z.toNat) (v := (0, 0)) (by decide) (cX.z (r := 20) (k := z.toNat) (v := (0, 0)) (by decide) (cX.z (r := 19) (k := z.toNat) (v := (0, 14)) (by decide) hX12)))))) (fun g34 ft34 q34 hX34 => ?_) (fun g35 e35 ft35 q35 c35 => ?_))
      · show vP D T N 88 100 g34 [some (2, 17), some (2, 24), some (0, w), some (0, x), some (0, 1)] [(0, 1)] _
        refine vP_hv (fun hv34 => ?_)
        refine v_if (hi_X6_readText_100 hT) (fun hc36 => absurd (show (1 : Int) = 0 from hc36) (by decide)) (fun _ => ?_)
        refine v_iinc (x := x) (u := 1) (w := (x + 1)) [some (2, 17), some (2, 24), some (0, w), some (0, (x + 1)), some (0, 1)] (hi_X6_readText_105 hT) rfl rfl (Nat.le_of_ble_eq_true rfl) (vz_inc (by omega) (by omega)) rfl ?_
        refine v_goto (hi_X6_readText_108 hT) ?_
        exact ih g34 (s + 1) (d) (i + 1 + 1) _ _ _ (some (0, 1)) 14 0 0 (i + 1) (by simp only [pStep, hE, hsw, hop, h15, opW15, harg, pNm, Bool.false_eq_true, (show ¬ 30 ≤ s from by omega), q34, ne_eq, not_true_eq_false, not_false_eq_true, if_true, if_false, eq_self, eb_l, eb_r, and_true, true_and, and_false, false_and]) hX34 ((cP.z (a := 18) (b := 1) (v := (0, ((s : Int) + 1))) (by decide) (cP.z (a := 18) (b := 0) (v := (0, (z + 1))) (by decide) (cP.z (a := 22) (b := z.toNat) (v := (0, -1)) (by decide) (cP.z (a := 21) (b := z.toNat) (v := (0, 0)) (by decide) (cP.z (a := 20) (b := z.toNat) (v := (0, 0)) (by decide) (cP.z (a := 19) (b := z.toNat) (v := (0, 14)) (by decide) (hP.tf ft12))))))).tf ft34) (Eq.trans (ft34 17 2 (by first | decide | exact fun c => by omega)) (Eq.trans (Eq.trans (zset_ne (fun c => absurd c.1 (by decide))) (Eq.trans (zset_ne (fun c => absurd c.1 (by decide))) (Eq.trans (zset_ne (fun c => absurd c.1 (by decide))) (Eq.trans (zset_ne (fun c => absurd c.1 (by decide))) (Eq.trans (zset_ne (fun c => absurd c.1 (by decide))) (zset_ne (fun c => absurd c.1 (by decide)))))))) ((Eq.trans (ft12 17 2 (by first | decide | exact fun c => by omega)) hl)))) (Eq.trans (ft34 18 1 (by first | decide | exact fun c => by omega)) (zset_same)) (by omega) (Eq.trans (ft34 17 4 (by first | decide | exact fun c => by omega)) (Eq.trans (Eq.trans (zset_ne (fun c => absurd c.1 (by decide))) (Eq.trans (zset_ne (fun c => absurd c.1 (by decide))) (Eq.trans (zset_ne (fun c => absurd c.1 (by decide))) (Eq.trans (zset_ne (fun c => absurd c.1 (by decide))) (Eq.trans (zset_ne (fun c => absurd c.1 (by decide))) (zset_ne (fun c => absurd c.1 (by decide)))))))) ((Eq.trans (ft12 17 4 (by first | decide | exact fun c => by omega)) hd)))) (by omega) (Eq.trans (ft34 18 0 (by first | decide | exact fun c => by omega)) (Eq.trans (zset_ne (fun c => absurd c.2 (by decide))) zset_same)) (by omega) (ob_same (o23_t ft34 (o23_n (r := 18) (k := 1) (v := (0, ((s : Int) + 1))) (by decide) (o23_n (r := 18) (k := 0) (v := (0, (z + 1))) (by decide) (o23_n (r := 22) (k := z.toNat) (v := (0, -1)) (by decide) (o23_n (r := 21) (k := z.toNat) (v := (0, 0)) (by decide) (o23_n (r := 20) (k := z.toNat) (v := (0, 0)) (by decide) (o23_n (r := 19) (k := z.toNat) (v := (0, 14)) (by decide) (o23_t ft12 (fun _ => Eq.refl _))))))))) ho (by omega) (by omega)) (oFr.t (oFr.z (a := 18) (b := 1) (v := (0, ((s : Int) + 1))) (by omega) (oFr.z (a := 18) (b := 0) (v := (0, (z + 1))) (by omega) (oFr.z (a := 22) (b := z.toNat) (v := (0, -1)) (by omega) (oFr.z (a := 21) (b := z.toNat) (v := (0, 0)) (by omega) (oFr.z (a := 20) (b := z.toNat) (v := (0, 0)) (by omega) (oFr.z (a := 19) (b := z.toNat) (v := (0, 14)) (by omega) (oFr.t oFr.rfl ft12))))))) ft34) rfl (pItV_a h3 (by decide) (by simp only [hargV, (show ¬ 30 ≤ s from by omega), q34, ne_eq, not_true_eq_false, not_false_eq_true, if_true, if_false, eq_self, eb_l, eb_r, and_true, true_and, and_false, false_and])) ⟨(kr_f (fun e => ft34 19 e (fun c => by omega)) (kr_n (a := 18) (k := 1) (v := (0, ((s : Int) + 1))) (by decide) (kr_n (a := 18) (k := 0) (v := (0, (z + 1))) (by decide) (kr_n (a := 22) (k := z.toNat) (v := (0, -1)) (by decide) (kr_n (a := 21) (k := z.toNat) (v := (0, 0)) (by decide) (kr_n (a := 20) (k := z.toNat) (v := (0, 0)) (by decide) (kr_z (k := z.toNat) (v := (0, 14)) (kr_f (fun e => ft12 19 e (fun c => by omega)) (fun _ => Eq.refl _))))))))), (kr_f (fun e => ft34 20 e (fun c => by omega)) (kr_n (a := 18) (k := 1) (v := (0, ((s : Int) + 1))) (by decide) (kr_n (a := 18) (k := 0) (v := (0, (z + 1))) (by decide) (kr_n (a := 22) (k := z.toNat) (v := (0, -1)) (by decide) (kr_n (a := 21) (k := z.toNat) (v := (0, 0)) (by decide) (kr_z (k := z.toNat) (v := (0, 0)) (kr_n (a := 19) (k := z.toNat) (v := (0, 14)) (by decide) (kr_f (fun e => ft12 20 e (fun c => by omega)) (fun _ => Eq.refl _))))))))), (kr_f (fun e => ft34 21 e (fun c => by omega)) (kr_n (a := 18) (k := 1) (v := (0, ((s : Int) + 1))) (by decide) (kr_n (a := 18) (k := 0) (v := (0, (z + 1))) (by decide) (kr_n (a := 22) (k := z.toNat) (v := (0, -1)) (by decide) (kr_z (k := z.toNat) (v := (0, 0)) (kr_n (a := 20) (k := z.toNat) (v := (0, 0)) (by decide) (kr_n (a := 19) (k := z.toNat) (v := (0, 14)) (by decide) (kr_f (fun e => ft12 21 e (fun c => by omega)) (fun _ => Eq.refl _))))))))), (kr_f (fun e => ft34 22 e (fun c => by omega)) (kr_n (a := 18) (k := 1) (v := (0, ((s : Int) + 1))) (by decide) (kr_n (a := 18) (k := 0) (v := (0, (z + 1))) (by decide) (kr_z (k := z.toNat) (v := (0, -1)) (kr_n (a := 21) (k := z.toNat) (v := (0, 0)) (by decide) (kr_n (a := 20) (k := z.toNat) (v := (0, 0)) (by decide) (kr_n (a := 19) (k := z.toNat) (v := (0, 14)) (by decide) (kr_f (fun e => ft12 22 e (fun c => by omega)) (fun _ => Eq.refl _)))))))))⟩ (kr_f (fun e => ft34 23 e (fun c => by omega)) (kr_n (a := 18) (k := 1) (v := (0, ((s : Int) + 1))) (by decide) (kr_n (a := 18) (k := 0) (v := (0, (z + 1))) (by decide) (kr_n (a := 22) (k := z.toNat) (v := (0, -1)) (by decide) (kr_n (a := 21) (k := z.toNat) (v := (0, 0)) (by decide) (kr_n (a := 20) (k := z.toNat) (v := (0, 0)) (by decide) (kr_n (a := 19) (k := z.toNat) (v := (0, 14)) (by decide) (kr_f (fun e => ft12 23 e (fun c => by omega)) (fun _ => Eq.refl _)))))))))
      · show vP D T N 88 100 g35 [some (2, 17), some (2, 24), some (0, w), some (0, x), some (0, 1)] [(0, 0)] _
        refine vP_hv (fun hv35 => ?_)
        refine v_if (hi_X6_readText_100 hT) (fun _ => ?_) (fun hc37 => absurd (show (0 : Int) = 0 from (by decide)) hc37)
        refine v_push (0) (hi_X6_readText_103 hT) rfl ?_
        refine v_ret (hi_X6_readText_104 hT) (Or.inl rfl) ?_
        exact er _ _ (by simp only [pStep, hE, hsw, hop, h15, opW15, harg, pNm, Bool.false_eq_true, (show ¬ 30 ≤ s from by omega), q35, ne_eq, not_true_eq_false, not_false_eq_true, if_true, if_false, eq_self, eb_l, eb_r, and_true, true_and, and_false, false_and]) c35 (oFr.t (oFr.z (a := 18) (b := 1) (v := (0, ((s : Int) + 1))) (by omega) (oFr.z (a := 18) (b := 0) (v := (0, (z + 1))) (by omega) (oFr.z (a := 22) (b := z.toNat) (v := (0, -1)) (by omega) (oFr.z (a := 21) (b := z.toNat) (v := (0, 0)) (by omega) (oFr.z (a := 20) (b := z.toNat) (v := (0, 0)) (by omega) (oFr.z (a := 19) (b := z.toNat) (v := (0, 14)) (by omega) (oFr.t oFr.rfl ft12))))))) ft35)
  · have hc9 : 30 ≤ (s : Int) := Int.not_lt.mp hc9
    refine v_load (v := (2, 17)) (hi_X6_mayBegin_69 hT) rfl rfl ?_
    refine v_getR (c := 10) (r := 17) (hi_X6_mayBegin_70 hT) rfl rfl rfl ?_
    refine v_push (6) (hi_X6_mayBegin_73 hT) rfl ?_
    refine v_call (w := 2) [some (2, 10), some (0, 6)] hO (hi_X6_mayBegin_75 hT) rfl rfl (cx_blame hT hO 6 hX (fun g38 ft38 c38 => ?_))
    · show vP D T N 81 78 g38 [some (2, 17), some (0, 14), some (0, 0)] [(0, 0)] _
      refine vP_hv (fun hv38 => ?_)
      refine v_ret (hi_X6_mayBegin_78 hT) (Or.inl rfl) ?_
      show vP D T N 88 67 g38 [some (2, 17), some (2, 24), some (0, w), some (0, x), o] [(0, 0)] _
      refine v_if (hi_X6_readText_67 hT) (fun _ => ?_) (fun hc39 => absurd (show (0 : Int) = 0 from (by decide)) hc39)
      refine v_push (0) (hi_X6_readText_85 hT) rfl ?_
      refine v_store1 [some (2, 17), some (2, 24), some (0, w), some (0, x), some (0, 0)] (hi_X6_readText_86 hT) ⟨rfl, Nat.ne_of_beq_eq_false rfl⟩ (Nat.le_of_ble_eq_true rfl) rfl ?_
      refine v_load (v := (0, 0)) (hi_X6_readText_88 hT) rfl rfl ?_
      refine v_if (hi_X6_readText_90 hT) (fun _ => ?_) (fun hc40 => absurd (show (0 : Int) = 0 from (by decide)) hc40)
      refine v_push (0) (hi_X6_readText_103 hT) rfl ?_
      refine v_ret (hi_X6_readText_104 hT) (Or.inl rfl) ?_
      exact er _ _ (by simp only [pStep, hE, hsw, hop, h15, opW15, harg, pNm, Bool.false_eq_true, (show 30 ≤ s from by omega), ne_eq, not_true_eq_false, not_false_eq_true, if_true, if_false, eq_self, eb_l, eb_r, and_true, true_and, and_false, false_and]) c38 (oFr.t oFr.rfl ft38)
theorem co7_19_24 {D : zD} {T : zT} (hT : hTab T) (hO : vOK T) {N : Nat} {h : zH} {Q : zR → Prop} {B : Nat → Int} {n m i s d : Nat} {τ P : PT} (w x z : Int) (o : Option zV) (hv0 : zHv h) (hX : cX B n m τ i h) (hK : Tks B n m τ) (hP : cP 24 P h) (hb : (0 ≤ P 0 0 ∧ P 0 0 ≤ 8) ∧ (0 ≤ P 0 1 ∧ P 0 1 ≤ 6) ∧ (0 ≤ P 0 2 ∧ P 0 2 ≤ 3) ∧ (0 ≤ P 0 3 ∧ P 0 3 ≤ 6)) (hl : h 17 2 = (2, 24)) (hs : h 18 1 = (0, (s : Int))) (hd : h 17 4 = (0, (d : Int))) (hz : h 18 0 = (0, z)) (bs : s ≤ 30) (bd : d ≤ 3) (bz : 0 ≤ z) (bzd : z + d ≤ 2 * s) (ho : ∀ e : Nat, e < d → 0 ≤ (h 23 e).2 ∧ (h 23 e).2 < z) (hx : 0 ≤ x ∧ x < 900) (h0 : τ 0 i ≠ 0) (h1 : τ 0 i = 1) (h3 : τ 3 i = 19) (ih : ∀ g s' d' i' a b z' o' K u v j, pStep τ P s d i = .inr (s', d', i') → cX B n m τ i' g → cP 24 P g → g 17 2 = (2, 24) → g 18 1 = (0, a) → a = (s' : Int) → g 17 4 = (0, b) → b = (d' : Int) → g 18 0 = (0, z') → s' ≤ 30 ∧ d' ≤ 3 ∧ 0 ≤ z' ∧ z' + d' ≤ 2 * s' → (∀ e : Nat, e < d' → 0 ≤ (g 23 e).2 ∧ (g 23 e).2 < z') → oFr h g → z' = z + 1 → pItV τ P i = .inr (K, u, v, j) → oW4 h g z K u v → (∀ e, g 23 e = zset h 23 ((d : Int)).toNat (0, z) 23 e) → vP D T N 88 27 g [some (2, 17), some (2, 24), some (0, w), some (0, (x + 1)), o'] [] Q) (er : ∀ g e, pStep τ P s d i = .inl e → cB e g → oFr h g → Q (g, some (0, 0))) :
    vP D T (N + 1) 88 27 h [some (2, 17), some (2, 24), some (0, w), some (0, x), o] [] Q := by
  have hEn : (bEn τ i) = 0 := bEn_n h0
  have hE : (bW τ 20 i) = 0 := bW_0.mpr (fun c => absurd (h3.symm.trans c.2) (by decide))
  have hsw : ¬ swd τ i < 0 := by rw [swd_v h1, h3]; decide
  have hop : opW (τ 3 i) = true := by rw [h3]; rfl
  have h15 : ¬ τ 3 i = 15 := by rw [h3]; decide
  have harg : ∀ j, oArg τ P (τ 3 i) j = (eb (pNum τ 1 99 j) fun a => .inr a.2) := fun j => by rw [h3]; rfl
  have hargV : ∀ j, oArV τ P 19 j = (eb (pNum τ 1 99 j) fun a => .inr (a.1, 0, a.2)) := fun _ => rfl
  refine v_loadS (v := (0, x)) (hi_X6_readText_27 hT) rfl rfl ?_
  refine v_push (900) (hi_X6_readText_28 hT) rfl ?_
  refine v_ic (hi_X6_readText_31 hT) (fun _ => ?_) (fun hc1 => absurd (show x < 900 from hx.2) hc1)
  refine v_load (v := (2, 17)) (hi_X6_readText_34 hT) rfl rfl ?_
  refine v_getR (c := 10) (r := 17) (hi_X6_readText_35 hT) rfl rfl rfl ?_
  refine v_call (w := 1) [some (2, 10)] hO (hi_X6_readText_38 hT) rfl rfl (cx_isEnd hT hO hX ?_)
  show vP D T N 88 41 h [some (2, 17), some (2, 24), some (0, w), some (0, x), o] [(0, (bEn τ i))] _
  refine v_if (hi_X6_readText_41 hT) (fun _ => ?_) (fun hc2 => absurd (show (bEn τ i) = 0 from hEn) hc2)
  refine v_load (v := (2, 17)) (hi_X6_readText_44 hT) rfl rfl ?_
  refine v_getR (c := 10) (r := 17) (hi_X6_readText_45 hT) rfl rfl rfl ?_
  refine v_push (20) (hi_X6_readText_48 hT) rfl ?_
  refine v_call (w := 2) [some (2, 10), some (0, 20)] hO (hi_X6_readText_50 hT) rfl rfl (cx_isWord hT hO 20 hX ?_)
  show vP D T N 88 53 h [some (2, 17), some (2, 24), some (0, w), some (0, x), o] [(0, (bW τ 20 i))] _
  refine v_if (hi_X6_readText_53 hT) (fun _ => ?_) (fun hc3 => absurd (show (bW τ 20 i) = 0 from hE) hc3)
  refine v_load (v := (2, 17)) (hi_X6_readText_63 hT) rfl rfl ?_
  refine v_call (w := 3) [some (2, 17), none, none] hO (hi_X6_readText_64 hT) rfl rfl ?_
  refine v_load (v := (2, 17)) (hi_X6_mayBegin_0 hT) rfl rfl ?_
  refine v_getR (c := 10) (r := 17) (hi_X6_mayBegin_1 hT) rfl rfl rfl ?_
  refine v_call (w := 1) [some (2, 10)] hO (hi_X6_mayBegin_4 hT) rfl rfl (cx_wordK hT hO 19 hX h1 h3 ?_)
  show vP D T N 81 7 h [some (2, 17), none, none] [(0, 19)] _
  refine v_store1 [some (2, 17), some (0, 19), none] (hi_X6_mayBegin_7 hT) ⟨rfl, Nat.ne_of_beq_eq_false rfl⟩ (Nat.le_of_ble_eq_true rfl) rfl ?_
  refine v_load (v := (0, 19)) (hi_X6_mayBegin_8 hT) rfl rfl ?_
  refine v_push (15) (hi_X6_mayBegin_9 hT) rfl ?_
  refine v_ic (hi_X6_mayBegin_11 hT) (fun hc4 => absurd (show (19 : Int) = 15 from hc4) (by decide)) (fun _ => ?_)
  refine v_load (v := (0, 19)) (hi_X6_mayBegin_14 hT) rfl rfl ?_
  refine v_push (19) (hi_X6_mayBegin_15 hT) rfl ?_
  refine v_ic (hi_X6_mayBegin_17 hT) (fun _ => ?_) (fun hc5 => absurd (show (19 : Int) = 19 from (by decide)) hc5)
  refine v_push (1) (hi_X6_mayBegin_20 hT) rfl ?_
  refine v_goto (hi_X6_mayBegin_21 hT) ?_
  refine v_store1 [some (2, 17), some (0, 19), some (0, 1)] (hi_X6_mayBegin_25 hT) ⟨rfl, Nat.ne_of_beq_eq_false rfl⟩ (Nat.le_of_ble_eq_true rfl) rfl ?_
  refine v_load (v := (0, 1)) (hi_X6_mayBegin_26 hT) rfl rfl ?_
  refine v_if (hi_X6_mayBegin_27 hT) (fun hc6 => absurd (show (1 : Int) = 0 from hc6) (by decide)) (fun _ => ?_)
  refine v_load (v := (2, 17)) (hi_X6_mayBegin_57 hT) rfl rfl ?_
  refine v_getR (c := 18) (r := 17) (hi_X6_mayBegin_58 hT) rfl rfl rfl ?_
  refine v_getf (v := (0, (s : Int))) (r := 18) (hi_X6_mayBegin_61 hT) rfl rfl (fun _ => hs) ?_
  refine v_push (30) (hi_X6_mayBegin_64 hT) rfl ?_
  refine v_ic (hi_X6_mayBegin_66 hT) (fun hc7 => ?_) (fun hc7 => ?_)
  · have hc7 : (s : Int) < 30 := hc7
    refine v_load (v := (0, 1)) (hi_X6_mayBegin_79 hT) rfl rfl ?_
    refine v_if (hi_X6_mayBegin_80 hT) (fun hc8 => absurd (show (1 : Int) = 0 from hc8) (by decide)) (fun _ => ?_)
    refine v_load (v := (2, 17)) (hi_X6_mayBegin_83 hT) rfl rfl ?_
    refine v_getf (v := (0, (d : Int))) (r := 17) (hi_X6_mayBegin_84 hT) rfl rfl (fun _ => hd) ?_
    refine v_push (3) (hi_X6_mayBegin_87 hT) rfl ?_
    refine v_ic (hi_X6_mayBegin_88 hT) (fun hc9 => ?_) (fun hc9 => ?_)
    · have hc9 : (d : Int) < 3 := hc9
      refine v_push (1) (hi_X6_mayBegin_101 hT) rfl ?_
      refine v_ret (hi_X6_mayBegin_102 hT) (Or.inl rfl) ?_
      show vP D T N 88 67 h [some (2, 17), some (2, 24), some (0, w), some (0, x), o] [(0, 1)] _
      refine v_if (hi_X6_readText_67 hT) (fun hc10 => absurd (show (1 : Int) = 0 from hc10) (by decide)) (fun _ => ?_)
      refine v_load (v := (2, 17)) (hi_X6_readText_70 hT) rfl rfl ?_
      refine v_load (v := (2, 17)) (hi_X6_readText_71 hT) rfl rfl ?_
      refine v_call (w := 3) [some (2, 17), none, none] hO (hi_X6_readText_72 hT) rfl rfl ?_
      refine v_load (v := (2, 17)) (hi_X6_beginStep_0 hT) rfl rfl ?_
      refine v_getR (c := 10) (r := 17) (hi_X6_beginStep_1 hT) rfl rfl rfl ?_
      refine v_call (w := 1) [some (2, 10)] hO (hi_X6_beginStep_4 hT) rfl rfl (cx_wordK hT hO 19 hX h1 h3 ?_)
      show vP D T N 80 7 h [some (2, 17), none, none] [(0, 19)] _
      refine v_store1 [some (2, 17), some (0, 19), none] (hi_X6_beginStep_7 hT) ⟨rfl, Nat.ne_of_beq_eq_false rfl⟩ (Nat.le_of_ble_eq_true rfl) rfl ?_
      refine v_load (v := (2, 17)) (hi_X6_beginStep_8 hT) rfl rfl ?_
      refine v_getR (c := 10) (r := 17) (hi_X6_beginStep_9 hT) rfl rfl rfl ?_
      refine v_call (w := 1) [some (2, 10)] hO (hi_X6_beginStep_12 hT) rfl rfl (cx_adv hT hO hX (ne_10 h1) (ne_14 h1) (fun g11 ft11 hX11 => ?_))
      · show vP D T N 80 15 g11 [some (2, 17), some (0, 19), none] [] _
        refine vP_hv (fun hv11 => ?_)
        refine v_load (v := (0, 19)) (hi_X6_beginStep_15 hT) rfl rfl ?_
        refine v_push (15) (hi_X6_beginStep_16 hT) rfl ?_
        refine v_ic (hi_X6_beginStep_18 hT) (fun hc12 => absurd (show (19 : Int) = 15 from hc12) (by decide)) (fun _ => ?_)
        refine v_load (v := (0, 19)) (hi_X6_beginStep_21 hT) rfl rfl ?_
        refine v_push (19) (hi_X6_beginStep_22 hT) rfl ?_
        refine v_ic (hi_X6_beginStep_24 hT) (fun _ => ?_) (fun hc13 => absurd (show (19 : Int) = 19 from (by decide)) hc13)
        refine v_load (v := (2, 17)) (hi_X6_beginStep_27 hT) rfl rfl ?_
        refine v_getf (v := (0, (d : Int))) (r := 17) (hi_X6_beginStep_28 hT) rfl rfl (fun _ => (Eq.trans (ft11 17 4 (by first | decide | exact fun c => by omega)) hd)) ?_
        refine v_push (3) (hi_X6_beginStep_31 hT) rfl ?_
        refine v_ic (hi_X6_beginStep_32 hT) (fun _ => ?_) (fun hc14 => absurd (show (d : Int) < 3 from hc9) hc14)
        refine v_load (v := (2, 17)) (hi_X6_beginStep_35 hT) rfl rfl ?_
        refine v_getR (c := 23) (r := 17) (hi_X6_beginStep_36 hT) rfl rfl rfl ?_
        refine v_load (v := (2, 17)) (hi_X6_beginStep_39 hT) rfl rfl ?_
        refine v_getf (v := (0, (d : Int))) (r := 17) (hi_X6_beginStep_40 hT) rfl rfl (fun _ => (Eq.trans (ft11 17 4 (by first | decide | exact fun c => by omega)) hd)) ?_
        refine v_load (v := (2, 17)) (hi_X6_beginStep_43 hT) rfl rfl ?_
        refine v_getR (c := 18) (r := 17) (hi_X6_beginStep_44 hT) rfl rfl rfl ?_
        refine v_getf (v := (0, z)) (r := 18) (hi_X6_beginStep_47 hT) rfl rfl (fun _ => (Eq.trans (ft11 18 0 (by first | decide | exact fun c => by omega)) hz)) ?_
        refine v_ast (r := 23) (hi_X6_beginStep_50 hT) rfl rfl (fun ha15 hb16 hf17 => ?_)
        refine v_load (v := (2, 17)) (hi_X6_beginStep_51 hT) rfl rfl ?_
        refine v_dup (hi_X6_beginStep_52 hT) (Nat.ne_of_beq_eq_false rfl) ?_
        refine v_getf (v := (0, (d : Int))) (r := 17) (hi_X6_beginStep_53 hT) rfl rfl (fun _ => Eq.trans (zset_ne (fun c => absurd c.1 (by decide))) ((Eq.trans (ft11 17 4 (by first | decide | exact fun c => by omega)) hd))) ?_
        refine v_push (1) (hi_X6_beginStep_56 hT) rfl ?_
        refine v_bin (w := ((d : Int) + 1)) (hi_X6_beginStep_57 hT) (hq_add (by omega) (by omega)) ?_
        refine v_putf (r := 17) hO (hi_X6_beginStep_58 hT) rfl (fun hf18 => ?_)
        refine v_load (v := (0, 19)) (hi_X6_beginStep_61 hT) rfl rfl ?_
        refine v_push (15) (hi_X6_beginStep_62 hT) rfl ?_
        refine v_ic (hi_X6_beginStep_64 hT) (fun hc19 => absurd (show (19 : Int) = 15 from hc19) (by decide)) (fun _ => ?_)
        refine v_load (v := (0, 19)) (hi_X6_beginStep_67 hT) rfl rfl ?_
        refine v_ret (hi_X6_beginStep_68 hT) (Or.inl rfl) ?_
        show vP D T N 88 75 (zset (zset g11 23 (((d : Int)).toNat) (0, z)) 17 4 (0, ((d : Int) + 1))) [some (2, 17), some (2, 24), some (0, w), some (0, x), o] [(0, 19), (2, 17)] _
        refine v_call (w := 2) [some (2, 17), some (0, 19)] hO (hi_X6_readText_75 hT) rfl rfl ?_
        refine v_load (v := (0, 19)) (hi_X6_readStep_0 hT) rfl rfl ?_
        refine v_sw (hi_X6_readStep_1 hT) ?_
        refine ⟨fun c => absurd c (by decide), fun _ => ?_⟩
        refine ⟨fun c => absurd c (by decide), fun _ => ?_⟩
        refine ⟨fun c => absurd c (by decide), fun _ => ?_⟩
        refine ⟨fun c => absurd c (by decide), fun _ => ?_⟩
        refine ⟨fun c => absurd c (by decide), fun _ => ?_⟩
        refine ⟨fun c => absurd c (by decide), fun _ => ?_⟩
        refine ⟨fun c => absurd c (by decide), fun _ => ?_⟩
        refine ⟨fun c => absurd c (by decide), fun _ => ?_⟩
        refine ⟨fun c => absurd c (by decide), fun _ => ?_⟩
        refine ⟨fun c => absurd c (by decide), fun _ => ?_⟩
        refine ⟨fun c => absurd c (by decide), fun _ => ?_⟩
        refine ⟨fun c => absurd c (by decide), fun _ => ?_⟩
        refine ⟨fun c => absurd c (by decide), fun _ => ?_⟩
        refine ⟨fun c => absurd c (by decide), fun _ => ?_⟩
        refine ⟨fun c => absurd c (by decide), fun _ => ?_⟩
        refine ⟨fun c => absurd c (by decide), fun _ => ?_⟩
        refine ⟨fun c => absurd c (by decide), fun _ => ?_⟩
        refine ⟨fun c => absurd c (by decide), fun _ => ?_⟩
        refine ⟨fun c => absurd c (by decide), fun _ => ?_⟩
        refine ⟨fun c => absurd c (by decide), fun _ => ?_⟩
        refine ⟨fun _ => ?_, fun c => absurd rfl c⟩
        refine v_load (v := (2, 17)) (hz_X6_readStep hT _ _ rfl) rfl rfl ?_
        refine v_load (v := (0, 19)) (hz_X6_readStep hT _ _ rfl) rfl rfl ?_
        refine v_load (v := (2, 17)) (hz_X6_readStep hT _ _ rfl) rfl rfl ?_
        refine v_getR (c := 10) (r := 17) (hz_X6_readStep hT _ _ rfl) rfl rfl rfl ?_
        refine v_push (1) (hz_X6_readStep hT _ _ rfl) rfl ?_
        refine v_push (99) (hz_X6_readStep hT _ _ rfl) rfl ?_
        refine v_call (w := 4) [some (2, 10), some (0, 1), some (0, 99), none] hO (hz_X6_readStep hT _ _ rfl) rfl rfl (cx_num hT hO 1 99 (cX.z (r := 17) (k := 4) (v := (0, ((d : Int) + 1))) (by decide) (cX.z (r := 23) (k := (((d : Int)).toNat)) (v := (0, z)) (by decide) hX11)) (fun g21 x20 ft21 q21 bux20 bvx20 hX21 => ?_) (fun g22 e22 ft22 q22 c22 => ?_))
        · show vP D T N 87 176 g21 [some (2, 17), some (0, 19)] [(0, x20), (0, 19), (2, 17)] _
          refine vP_hv (fun hv21 => ?_)
          refine v_push (0) (hi_X6_readStep_176 hT) rfl ?_
          refine v_call (w := 4) [some (2, 17), some (0, 19), some (0, x20), some (0, 0)] hO (hi_X6_readStep_177 hT) rfl rfl ?_
          refine v_load (v := (0, x20)) (hi_X6_readTwo_0 hT) rfl rfl ?_
          refine v_push (-1) (hi_X6_readTwo_1 hT) rfl ?_
          refine v_ic (hi_X6_readTwo_2 hT) (fun hc23 => absurd (show x20 = -1 from hc23) (by omega)) (fun _ => ?_)
          refine v_load (v := (0, 0)) (hi_X6_readTwo_5 hT) rfl rfl ?_
          refine v_push (-1) (hi_X6_readTwo_6 hT) rfl ?_
          refine v_ic (hi_X6_readTwo_7 hT) (fun hc24 => absurd (show (0 : Int) = -1 from hc24) (by decide)) (fun _ => ?_)
          refine v_load (v := (2, 17)) (hi_X6_readTwo_10 hT) rfl rfl ?_
          refine v_getR (c := 18) (r := 17) (hi_X6_readTwo_11 hT) rfl rfl rfl ?_
          refine v_load (v := (0, 19)) (hi_X6_readTwo_14 hT) rfl rfl ?_
          refine v_load (v := (0, x20)) (hi_X6_readTwo_15 hT) rfl rfl ?_
          refine v_load (v := (0, 0)) (hi_X6_readTwo_16 hT) rfl rfl ?_
          refine v_call (w := 4) [some (2, 18), some (0, 19), some (0, x20), some (0, 0)] hO (hi_X6_readTwo_17 hT) rfl rfl ?_
          refine v_load (v := (2, 18)) (hi_X5_add_0 hT) rfl rfl ?_
          refine v_getf (v := (0, z)) (r := 18) (hi_X5_add_1 hT) rfl rfl (fun _ => (Eq.trans (ft21 18 0 (by first | decide | exact fun c => by omega)) (Eq.trans (Eq.trans (zset_ne (fun c => absurd c.1 (by decide))) (zset_ne (fun c => absurd c.1 (by decide)))) ((Eq.trans (ft11 18 0 (by first | decide | exact fun c => by omega)) hz))))) ?_
          refine v_if (hi_X5_add_4 hT) (fun hc25 => absurd (show z < 0 from hc25) (by omega)) (fun _ => ?_)
          refine v_load (v := (2, 18)) (hi_X5_add_7 hT) rfl rfl ?_
          refine v_getf (v := (0, z)) (r := 18) (hi_X5_add_8 hT) rfl rfl (fun _ => (Eq.trans (ft21 18 0 (by first | decide | exact fun c => by omega)) (Eq.trans (Eq.trans (zset_ne (fun c => absurd c.1 (by decide))) (zset_ne (fun c => absurd c.1 (by decide)))) ((Eq.trans (ft11 18 0 (by first | decide | exact fun c => by omega)) hz))))) ?_
          refine v_push (60) (hi_X5_add_11 hT) rfl ?_
          refine v_ic (hi_X5_add_13 hT) (fun _ => ?_) (fun hc26 => absurd (show z < 60 from (by omega)) hc26)
          refine v_load (v := (2, 18)) (hi_X5_add_18 hT) rfl rfl ?_
          refine v_getR (c := 19) (r := 18) (hi_X5_add_19 hT) rfl rfl rfl ?_
          refine v_load (v := (2, 18)) (hi_X5_add_22 hT) rfl rfl ?_
          refine v_getf (v := (0, z)) (r := 18) (hi_X5_add_23 hT) rfl rfl (fun _ => (Eq.trans (ft21 18 0 (by first | decide | exact fun c => by omega)) (Eq.trans (Eq.trans (zset_ne (fun c => absurd c.1 (by decide))) (zset_ne (fun c => absurd c.1 (by decide)))) ((Eq.trans (ft11 18 0 (by first | decide | exact fun c => by omega)) hz))))) ?_
          refine v_load (v := (0, 19)) (hi_X5_add_26 hT) rfl rfl ?_
          refine v_ast (r := 19) (hi_X5_add_27 hT) rfl rfl (fun ha27 hb28 hf29 => ?_)
          refine v_load (v := (2, 18)) (hi_X5_add_28 hT) rfl rfl ?_
          refine v_getR (c := 20) (r := 18) (hi_X5_add_29 hT) rfl rfl rfl ?_
          refine v_load (v := (2, 18)) (hi_X5_add_32 hT) rfl rfl ?_
          refine v_getf (v := (0, z)) (r := 18) (hi_X5_add_33 hT) rfl rfl (fun _ => Eq.trans (zset_ne (fun c => absurd c.1 (by decide))) ((Eq.trans (ft21 18 0 (by first | decide | exact fun c => by omega)) (Eq.trans (Eq.trans (zset_ne (fun c => absurd c.1 (by decide))) (zset_ne (fun c => absurd c.1 (by decide)))) ((Eq.trans (ft11 18 0 (by first | decide | exact fun c => by omega)) hz)))))) ?_
          refine v_load (v := (0, x20)) (hi_X5_add_36 hT) rfl rfl ?_
          refine v_ast (r := 20) (hi_X5_add_37 hT) rfl rfl (fun ha30 hb31 hf32 => ?_)
          refine v_load (v := (2, 18)) (hi_X5_add_38 hT) rfl rfl ?_
          refine v_getR (c := 21) (r := 18) (hi_X5_add_39 hT) rfl rfl rfl ?_
          refine v_load (v := (2, 18)) (hi_X5_add_42 hT) rfl rfl ?_
          refine v_getf (v := (0, z)) (r := 18) (hi_X5_add_43 hT) rfl rfl (fun _ => Eq.trans (Eq.trans (zset_ne (fun c => absurd c.1 (by decide))) (zset_ne (fun c => absurd c.1 (by decide)))) ((Eq.trans (ft21 18 0 (by first | decide | exact fun c => by omega)) (Eq.trans (Eq.trans (zset_ne (fun c => absurd c.1 (by decide))) (zset_ne (fun c => absurd c.1 (by decide)))) ((Eq.trans (ft11 18 0 (by first | decide | exact fun c => by omega)) hz)))))) ?_
          refine v_load (v := (0, 0)) (hi_X5_add_46 hT) rfl rfl ?_
          refine v_ast (r := 21) (hi_X5_add_47 hT) rfl rfl (fun ha33 hb34 hf35 => ?_)
          refine v_load (v := (2, 18)) (hi_X5_add_48 hT) rfl rfl ?_
          refine v_getR (c := 22) (r := 18) (hi_X5_add_49 hT) rfl rfl rfl ?_
          refine v_load (v := (2, 18)) (hi_X5_add_52 hT) rfl rfl ?_
          refine v_getf (v := (0, z)) (r := 18) (hi_X5_add_53 hT) rfl rfl (fun _ => Eq.trans (Eq.trans (zset_ne (fun c => absurd c.1 (by decide))) (Eq.trans (zset_ne (fun c => absurd c.1 (by decide))) (zset_ne (fun c => absurd c.1 (by decide))))) ((Eq.trans (ft21 18 0 (by first | decide | exact fun c => by omega)) (Eq.trans (Eq.trans (zset_ne (fun c => absurd c.1 (by decide))) (zset_ne (fun c => absurd c.1 (by decide)))) ((Eq.trans (ft11 18 0 (by first | decide | exact fun c => by omega)) hz)))))) ?_
          refine v_push (-1) (hi_X5_add_56 hT) rfl ?_
          refine v_ast (r := 22) (hi_X5_add_57 hT) rfl rfl (fun ha36 hb37 hf38 => ?_)
          refine v_load (v := (2, 18)) (hi_X5_add_58 hT) rfl rfl ?_
          refine v_dup (hi_X5_add_59 hT) (Nat.ne_of_beq_eq_false rfl) ?_
          refine v_getf (v := (0, z)) (r := 18) (hi_X5_add_60 hT) rfl rfl (fun _ => Eq.trans (Eq.trans (zset_ne (fun c => absurd c.1 (by decide))) (Eq.trans (zset_ne (fun c => absurd c.1 (by decide))) (Eq.trans (zset_ne (fun c => absurd c.1 (by decide))) (zset_ne (fun c => absurd c.1 (by decide)))))) ((Eq.trans (ft21 18 0 (by first | decide | exact fun c => by omega)) (Eq.trans (Eq.trans (zset_ne (fun c => absurd c.1 (by decide))) (zset_ne (fun c => absurd c.1 (by decide)))) ((Eq.trans (ft11 18 0 (by first | decide | exact fun c => by omega)) hz)))))) ?_
          refine v_push (1) (hi_X5_add_63 hT) rfl ?_
          refine v_bin (w := (z + 1)) (hi_X5_add_64 hT) (hq_add (by omega) (by omega)) ?_
          refine v_putf (r := 18) hO (hi_X5_add_65 hT) rfl (fun hf39 => ?_)
          refine v_load (v := (2, 18)) (hi_X5_add_68 hT) rfl rfl ?_
          refine v_dup (hi_X5_add_69 hT) (Nat.ne_of_beq_eq_false rfl) ?_
          refine v_getf (v := (0, (s : Int))) (r := 18) (hi_X5_add_70 hT) rfl rfl (fun _ => Eq.trans (Eq.trans (zset_ne (fun c => absurd c.2 (by decide))) (Eq.trans (zset_ne (fun c => absurd c.1 (by decide))) (Eq.trans (zset_ne (fun c => absurd c.1 (by decide))) (Eq.trans (zset_ne (fun c => absurd c.1 (by decide))) (zset_ne (fun c => absurd c.1 (by decide))))))) ((Eq.trans (ft21 18 1 (by first | decide | exact fun c => by omega)) (Eq.trans (Eq.trans (zset_ne (fun c => absurd c.1 (by decide))) (zset_ne (fun c => absurd c.1 (by decide)))) ((Eq.trans (ft11 18 1 (by first | decide | exact fun c => by omega)) hs)))))) ?_
          refine v_push (1) (hi_X5_add_73 hT) rfl ?_
          refine v_bin (w := ((s : Int) + 1)) (hi_X5_add_74 hT) (hq_add (by omega) (by omega)) ?_
          refine v_putf (r := 18) hO (hi_X5_add_75 hT) rfl (fun hf40 => ?_)
          refine v_push (1) (hi_X5_add_78 hT) rfl ?_
          refine v_ret (hi_X5_add_79 hT) (Or.inl rfl) ?_
          show vP D T N 89 20 (zset (zset (zset (zset (zset (zset g21 19 z.toNat (0, 19)) 20 z.toNat (0, x20)) 21 z.toNat (0, 0)) 22 z.toNat (0, -1)) 18 0 (0, (z + 1))) 18 1 (0, ((s : Int) + 1))) [some (2, 17), some (0, 19), some (0, x20), some (0, 0)] [(0, 1)] _
          refine v_if (hi_X6_readTwo_20 hT) (fun hc41 => absurd (show (1 : Int) = 0 from hc41) (by decide)) (fun _ => ?_)
          refine v_push (1) (hi_X6_readTwo_23 hT) rfl ?_
          refine v_goto (hi_X6_readTwo_24 hT) ?_
          refine v_ret (hi_X6_readTwo_28 hT) (Or.inl rfl) ?_
          show vP D T N 87 180 (zset (zset (zset (zset (zset (zset g21 19 z.toNat (0, 19)) 20 z.toNat (0, x20)) 21 z.toNat (0, 0)) 22 z.toNat (0, -1)) 18 0 (0, (z + 1))) 18 1 (0, ((s : Int) + 1))) [some (2, 17), some (0, 19)] [(0, 1)] _
          refine v_ret (hi_X6_readStep_180 hT) (Or.inl rfl) ?_
          show vP D T N 88 78 (zset (zset (zset (zset (zset (zset g21 19 z.toNat (0, 19)) 20 z.toNat (0, x20)) 21 z.toNat (0, 0)) 22 z.toNat (0, -1)) 18 0 (0, (z + 1))) 18 1 (0, ((s : Int) + 1))) [some (2, 17), some (2, 24), some (0, w), some (0, x), o] [(0, 1)] _
          refine v_if (hi_X6_readText_78 hT) (fun hc42 => absurd (show (1 : Int) = 0 from hc42) (by decide)) (fun _ => ?_)
          refine v_push (1) (hi_X6_readText_81 hT) rfl ?_
          refine v_goto (hi_X6_readText_82 hT) ?_
          refine v_store1 [some (2, 17), some (2, 24), some (0, w), some (0, x), some (0, 1)] (hi_X6_readText_86 hT) ⟨rfl, Nat.ne_of_beq_eq_false rfl⟩ (Nat.le_of_ble_eq_true rfl) rfl ?_
          refine v_load (v := (0, 1)) (hi_X6_readText_88 hT) rfl rfl ?_
          refine v_if (hi_X6_readText_90 hT) (fun hc43 => absurd (show (1 : Int) = 0 from hc43) (by decide)) (fun _ => ?_)
          refine v_load (v := (2, 17)) (hi_X6_readText_93 hT) rfl rfl ?_
          refine v_getR (c := 10) (r := 17) (hi_X6_readText_94 hT) rfl rfl rfl ?_
          refine v_call (w := 1) [some (2, 10)] hO (hi_X6_readText_97 hT) rfl rfl (cx_stop hT hO (cX.z (r := 18) (k := 1) (v := (0, ((s : Int) + 1))) (by decide) (cX.z (r := 18) (k := 0) (v := (0, (z + 1))) (by decide) (cX.z (r := 22) (k := z.toNat) (v := (0, -1)) (by decide) (cX.z (r := 21) (k := z.toNat) (v := (0, 0)) (by decide) (cX.z (r := 20) (k := z.toNat) (v := (0, x20)) (by decide) (cX.z (r := 19) (k := z.toNat) (v := (0, 19)) (by decide) hX21)))))) (fun g44 ft44 q44 hX44 => ?_) (fun g45 e45 ft45 q45 c45 => ?_))
          · show vP D T N 88 100 g44 [some (2, 17), some (2, 24), some (0, w), some (0, x), some (0, 1)] [(0, 1)] _
            refine vP_hv (fun hv44 => ?_)
            refine v_if (hi_X6_readText_100 hT) (fun hc46 => absurd (show (1 : Int) = 0 from hc46) (by decide)) (fun _ => ?_)
            refine v_iinc (x := x) (u := 1) (w := (x + 1)) [some (2, 17), some (2, 24), some (0, w), some (0, (x + 1)), some (0, 1)] (hi_X6_readText_105 hT) rfl rfl (Nat.le_of_ble_eq_true rfl) (vz_inc (by omega) (by omega)) rfl ?_
            refine v_goto (hi_X6_readText_108 hT) ?_
            exact ih g44 (s + 1) (d + 1) (i + 1 + 1 + 1) _ _ _ (some (0, 1)) 19 x20 0 (i + 1 + 1) (by simp only [pStep, hE, hsw, hop, h15, opW15, harg, pNm, (show ¬ 30 ≤ s from by omega), (show ¬ 3 ≤ d from by omega), q21, q44, ne_eq, not_true_eq_false, not_false_eq_true, if_true, if_false, eq_self, eb_l, eb_r, and_true, true_and, and_false, false_and]) hX44 ((cP.z (a := 18) (b := 1) (v := (0, ((s : Int) + 1))) (by decide) (cP.z (a := 18) (b := 0) (v := (0, (z + 1))) (by decide) (cP.z (a := 22) (b := z.toNat) (v := (0, -1)) (by decide) (cP.z (a := 21) (b := z.toNat) (v := (0, 0)) (by decide) (cP.z (a := 20) (b := z.toNat) (v := (0, x20)) (by decide) (cP.z (a := 19) (b := z.toNat) (v := (0, 19)) (by decide) ((cP.z (a := 17) (b := 4) (v := (0, ((d : Int) + 1))) (by decide) (cP.z (a := 23) (b := (((d : Int)).toNat)) (v := (0, z)) (by decide) (hP.tf ft11))).tf ft21))))))).tf ft44) (Eq.trans (ft44 17 2 (by first | decide | exact fun c => by omega)) (Eq.trans (Eq.trans (zset_ne (fun c => absurd c.1 (by decide))) (Eq.trans (zset_ne (fun c => absurd c.1 (by decide))) (Eq.trans (zset_ne (fun c => absurd c.1 (by decide))) (Eq.trans (zset_ne (fun c => absurd c.1 (by decide))) (Eq.trans (zset_ne (fun c => absurd c.1 (by decide))) (zset_ne (fun c => absurd c.1 (by decide)))))))) ((Eq.trans (ft21 17 2 (by first | decide | exact fun c => by omega)) (Eq.trans (Eq.trans (zset_ne (fun c => absurd c.2 (by decide))) (zset_ne (fun c => absurd c.1 (by decide)))) ((Eq.trans (ft11 17 2 (by first | decide | exact fun c => by omega)) hl))))))) (Eq.trans (ft44 18 1 (by first | decide | exact fun c => by omega)) (zset_same)) (by omega) (Eq.trans (ft44 17 4 (by first | decide | exact fun c => by omega)) (Eq.trans (Eq.trans (zset_ne (fun c => absurd c.1 (by decide))) (Eq.trans (zset_ne (fun c => absurd c.1 (by decide))) (Eq.trans (zset_ne (fun c => absurd c.1 (by decide))) (Eq.trans (zset_ne (fun c => absurd c.1 (by decide))) (Eq.trans (zset_ne (fun c => absurd c.1 (by decide))) (zset_ne (fun c => absurd c.1 (by decide)))))))) ((Eq.trans (ft21 17 4 (by first | decide | exact fun c => by omega)) (zset_same))))) (by omega) (Eq.trans (ft44 18 0 (by first | decide | exact fun c => by omega)) (Eq.trans (zset_ne (fun c => absurd c.2 (by decide))) zset_same)) (by omega) (ob_open (o23_t ft44 (o23_n (r := 18) (k := 1) (v := (0, ((s : Int) + 1))) (by decide) (o23_n (r := 18) (k := 0) (v := (0, (z + 1))) (by decide) (o23_n (r := 22) (k := z.toNat) (v := (0, -1)) (by decide) (o23_n (r := 21) (k := z.toNat) (v := (0, 0)) (by decide) (o23_n (r := 20) (k := z.toNat) (v := (0, x20)) (by decide) (o23_n (r := 19) (k := z.toNat) (v := (0, 19)) (by decide) (o23_t ft21 (o23_n (r := 17) (k := 4) (v := (0, ((d : Int) + 1))) (by decide) (o23_z (k := (((d : Int)).toNat)) (v := (0, z)) (o23_t ft11 (fun _ => Eq.refl _)))))))))))) ho bz (by omega)) (oFr.t (oFr.z (a := 18) (b := 1) (v := (0, ((s : Int) + 1))) (by omega) (oFr.z (a := 18) (b := 0) (v := (0, (z + 1))) (by omega) (oFr.z (a := 22) (b := z.toNat) (v := (0, -1)) (by omega) (oFr.z (a := 21) (b := z.toNat) (v := (0, 0)) (by omega) (oFr.z (a := 20) (b := z.toNat) (v := (0, x20)) (by omega) (oFr.z (a := 19) (b := z.toNat) (v := (0, 19)) (by omega) (oFr.t (oFr.z (a := 17) (b := 4) (v := (0, ((d : Int) + 1))) (by omega) (oFr.z (a := 23) (b := (((d : Int)).toNat)) (v := (0, z)) (by omega) (oFr.t oFr.rfl ft11))) ft21))))))) ft44) rfl (pItV_a h3 (by decide) (by simp only [hargV, (show ¬ 30 ≤ s from by omega), (show ¬ 3 ≤ d from by omega), q21, q44, ne_eq, not_true_eq_false, not_false_eq_true, if_true, if_false, eq_self, eb_l, eb_r, and_true, true_and, and_false, false_and])) ⟨(kr_f (fun e => ft44 19 e (fun c => by omega)) (kr_n (a := 18) (k := 1) (v := (0, ((s : Int) + 1))) (by decide) (kr_n (a := 18) (k := 0) (v := (0, (z + 1))) (by decide) (kr_n (a := 22) (k := z.toNat) (v := (0, -1)) (by decide) (kr_n (a := 21) (k := z.toNat) (v := (0, 0)) (by decide) (kr_n (a := 20) (k := z.toNat) (v := (0, x20)) (by decide) (kr_z (k := z.toNat) (v := (0, 19)) (kr_f (fun e => ft21 19 e (fun c => by omega)) (kr_n (a := 17) (k := 4) (v := (0, ((d : Int) + 1))) (by decide) (kr_n (a := 23) (k := (((d : Int)).toNat)) (v := (0, z)) (by decide) (kr_f (fun e => ft11 19 e (fun c => by omega)) (fun _ => Eq.refl _)))))))))))), (kr_f (fun e => ft44 20 e (fun c => by omega)) (kr_n (a := 18) (k := 1) (v := (0, ((s : Int) + 1))) (by decide) (kr_n (a := 18) (k := 0) (v := (0, (z + 1))) (by decide) (kr_n (a := 22) (k := z.toNat) (v := (0, -1)) (by decide) (kr_n (a := 21) (k := z.toNat) (v := (0, 0)) (by decide) (kr_z (k := z.toNat) (v := (0, x20)) (kr_n (a := 19) (k := z.toNat) (v := (0, 19)) (by decide) (kr_f (fun e => ft21 20 e (fun c => by omega)) (kr_n (a := 17) (k := 4) (v := (0, ((d : Int) + 1))) (by decide) (kr_n (a := 23) (k := (((d : Int)).toNat)) (v := (0, z)) (by decide) (kr_f (fun e => ft11 20 e (fun c => by omega)) (fun _ => Eq.refl _)))))))))))), (kr_f (fun e => ft44 21 e (fun c => by omega)) (kr_n (a := 18) (k := 1) (v := (0, ((s : Int) + 1))) (by decide) (kr_n (a := 18) (k := 0) (v := (0, (z + 1))) (by decide) (kr_n (a := 22) (k := z.toNat) (v := (0, -1)) (by decide) (kr_z (k := z.toNat) (v := (0, 0)) (kr_n (a := 20) (k := z.toNat) (v := (0, x20)) (by decide) (kr_n (a := 19) (k := z.toNat) (v := (0, 19)) (by decide) (kr_f (fun e => ft21 21 e (fun c => by omega)) (kr_n (a := 17) (k := 4) (v := (0, ((d : Int) + 1))) (by decide) (kr_n (a := 23) (k := (((d : Int)).toNat)) (v := (0, z)) (by decide) (kr_f (fun e => ft11 21 e (fun c => by omega)) (fun _ => Eq.refl _)))))))))))), (kr_f (fun e => ft44 22 e (fun c => by omega)) (kr_n (a := 18) (k := 1) (v := (0, ((s : Int) + 1))) (by decide) (kr_n (a := 18) (k := 0) (v := (0, (z + 1))) (by decide) (kr_z (k := z.toNat) (v := (0, -1)) (kr_n (a := 21) (k := z.toNat) (v := (0, 0)) (by decide) (kr_n (a := 20) (k := z.toNat) (v := (0, x20)) (by decide) (kr_n (a := 19) (k := z.toNat) (v := (0, 19)) (by decide) (kr_f (fun e => ft21 22 e (fun c => by omega)) (kr_n (a := 17) (k := 4) (v := (0, ((d : Int) + 1))) (by decide) (kr_n (a := 23) (k := (((d : Int)).toNat)) (v := (0, z)) (by decide) (kr_f (fun e => ft11 22 e (fun c => by omega)) (fun _ => Eq.refl _))))))))))))⟩ (kr_f (fun e => ft44 23 e (fun c => by omega)) (kr_n (a := 18) (k := 1) (v := (0, ((s : Int) + 1))) (by decide) (kr_n (a := 18) (k := 0) (v := (0, (z + 1))) (by decide) (kr_n (a := 22) (k := z.toNat) (v := (0, -1)) (by decide) (kr_n (a := 21) (k := z.toNat) (v := (0, 0)) (by decide) (kr_n (a := 20) (k := z.toNat) (v := (0, x20)) (by decide) (kr_n (a := 19) (k := z.toNat) (v := (0, 19)) (by decide) (kr_f (fun e => ft21 23 e (fun c => by omega)) (kr_n (a := 17) (k := 4) (v := (0, ((d : Int) + 1))) (by decide) (kr_z (k := (((d : Int)).toNat)) (v := (0, z)) (kr_f (fun e => ft11 23 e (fun c => by omega)) (fun _ => Eq.refl _))))))))))))
          · show vP D T N 88 100 g45 [some (2, 17), some (2, 24), some (0, w), some (0, x), some (0, 1)] [(0, 0)] _
            refine vP_hv (fun hv45 => ?_)
            refine v_if (hi_X6_readText_100 hT) (fun _ => ?_) (fun hc47 => absurd (show (0 : Int) = 0 from (by decide)) hc47)
            refine v_push (0) (hi_X6_readText_103 hT) rfl ?_
            refine v_ret (hi_X6_readText_104 hT) (Or.inl rfl) ?_
            exact er _ _ (by simp only [pStep, hE, hsw, hop, h15, opW15, harg, pNm, (show ¬ 30 ≤ s from by omega), (show ¬ 3 ≤ d from by omega), q21, q45, ne_eq, not_true_eq_false, not_false_eq_true, if_true, if_false, eq_self, eb_l, eb_r, and_true, true_and, and_false, false_and]) c45 (oFr.t (oFr.z (a := 18) (b := 1) (v := (0, ((s : Int) + 1))) (by omega) (oFr.z (a := 18) (b := 0) (v := (0, (z + 1))) (by omega) (oFr.z (a := 22) (b := z.toNat) (v := (0, -1)) (by omega) (oFr.z (a := 21) (b := z.toNat) (v := (0, 0)) (by omega) (oFr.z (a := 20) (b := z.toNat) (v := (0, x20)) (by omega) (oFr.z (a := 19) (b := z.toNat) (v := (0, 19)) (by omega) (oFr.t (oFr.z (a := 17) (b := 4) (v := (0, ((d : Int) + 1))) (by omega) (oFr.z (a := 23) (b := (((d : Int)).toNat)) (v := (0, z)) (by omega) (oFr.t oFr.rfl ft11))) ft21))))))) ft45)
        · show vP D T N 87 176 g22 [some (2, 17), some (0, 19)] [(0, -1), (0, 19), (2, 17)] _
          refine vP_hv (fun hv22 => ?_)
          refine v_push (0) (hi_X6_readStep_176 hT) rfl ?_
          refine v_call (w := 4) [some (2, 17), some (0, 19), some (0, -1), some (0, 0)] hO (hi_X6_readStep_177 hT) rfl rfl ?_
          refine v_load (v := (0, -1)) (hi_X6_readTwo_0 hT) rfl rfl ?_
          refine v_push (-1) (hi_X6_readTwo_1 hT) rfl ?_
          refine v_ic (hi_X6_readTwo_2 hT) (fun _ => ?_) (fun hc48 => absurd (show (-1 : Int) = -1 from (by decide)) hc48)
          refine v_push (0) (hi_X6_readTwo_27 hT) rfl ?_
          refine v_ret (hi_X6_readTwo_28 hT) (Or.inl rfl) ?_
          show vP D T N 87 180 g22 [some (2, 17), some (0, 19)] [(0, 0)] _
          refine v_ret (hi_X6_readStep_180 hT) (Or.inl rfl) ?_
          show vP D T N 88 78 g22 [some (2, 17), some (2, 24), some (0, w), some (0, x), o] [(0, 0)] _
          refine v_if (hi_X6_readText_78 hT) (fun _ => ?_) (fun hc49 => absurd (show (0 : Int) = 0 from (by decide)) hc49)
          refine v_push (0) (hi_X6_readText_85 hT) rfl ?_
          refine v_store1 [some (2, 17), some (2, 24), some (0, w), some (0, x), some (0, 0)] (hi_X6_readText_86 hT) ⟨rfl, Nat.ne_of_beq_eq_false rfl⟩ (Nat.le_of_ble_eq_true rfl) rfl ?_
          refine v_load (v := (0, 0)) (hi_X6_readText_88 hT) rfl rfl ?_
          refine v_if (hi_X6_readText_90 hT) (fun _ => ?_) (fun hc50 => absurd (show (0 : Int) = 0 from (by decide)) hc50)
          refine v_push (0) (hi_X6_readText_103 hT) rfl ?_
          refine v_ret (hi_X6_readText_104 hT) (Or.inl rfl) ?_
          exact er _ _ (by simp only [pStep, hE, hsw, hop, h15, opW15, harg, pNm, (show ¬ 30 ≤ s from by omega), (show ¬ 3 ≤ d from by omega), q22, ne_eq, not_true_eq_false, not_false_eq_true, if_true, if_false, eq_self, eb_l, eb_r, and_true, true_and, and_false, false_and]) c22 (oFr.t (oFr.z (a := 17) (b := 4) (v := (0, ((d : Int) + 1))) (by omega) (oFr.z (a := 23) (b := (((d : Int)).toNat)) (v := (0, z)) (by omega) (oFr.t oFr.rfl ft11))) ft22)
    · have hc9 : 3 ≤ (d : Int) := Int.not_lt.mp hc9
      refine v_load (v := (2, 17)) (hi_X6_mayBegin_91 hT) rfl rfl ?_
      refine v_getR (c := 10) (r := 17) (hi_X6_mayBegin_92 hT) rfl rfl rfl ?_
      refine v_push (7) (hi_X6_mayBegin_95 hT) rfl ?_
      refine v_call (w := 2) [some (2, 10), some (0, 7)] hO (hi_X6_mayBegin_97 hT) rfl rfl (cx_blame hT hO 7 hX (fun g51 ft51 c51 => ?_))
      · show vP D T N 81 100 g51 [some (2, 17), some (0, 19), some (0, 1)] [(0, 0)] _
        refine vP_hv (fun hv51 => ?_)
        refine v_ret (hi_X6_mayBegin_100 hT) (Or.inl rfl) ?_
        show vP D T N 88 67 g51 [some (2, 17), some (2, 24), some (0, w), some (0, x), o] [(0, 0)] _
        refine v_if (hi_X6_readText_67 hT) (fun _ => ?_) (fun hc52 => absurd (show (0 : Int) = 0 from (by decide)) hc52)
        refine v_push (0) (hi_X6_readText_85 hT) rfl ?_
        refine v_store1 [some (2, 17), some (2, 24), some (0, w), some (0, x), some (0, 0)] (hi_X6_readText_86 hT) ⟨rfl, Nat.ne_of_beq_eq_false rfl⟩ (Nat.le_of_ble_eq_true rfl) rfl ?_
        refine v_load (v := (0, 0)) (hi_X6_readText_88 hT) rfl rfl ?_
        refine v_if (hi_X6_readText_90 hT) (fun _ => ?_) (fun hc53 => absurd (show (0 : Int) = 0 from (by decide)) hc53)
        refine v_push (0) (hi_X6_readText_103 hT) rfl ?_
        refine v_ret (hi_X6_readText_104 hT) (Or.inl rfl) ?_
        exact er _ _ (by simp only [pStep, hE, hsw, hop, h15, opW15, harg, pNm, (show ¬ 30 ≤ s from by omega), (show 3 ≤ d from by omega), ne_eq, not_true_eq_false, not_false_eq_true, if_true, if_false, eq_self, eb_l, eb_r, and_true, true_and, and_false, false_and]) c51 (oFr.t oFr.rfl ft51)
  · have hc7 : 30 ≤ (s : Int) := Int.not_lt.mp hc7
    refine v_load (v := (2, 17)) (hi_X6_mayBegin_69 hT) rfl rfl ?_
    refine v_getR (c := 10) (r := 17) (hi_X6_mayBegin_70 hT) rfl rfl rfl ?_
    refine v_push (6) (hi_X6_mayBegin_73 hT) rfl ?_
    refine v_call (w := 2) [some (2, 10), some (0, 6)] hO (hi_X6_mayBegin_75 hT) rfl rfl (cx_blame hT hO 6 hX (fun g54 ft54 c54 => ?_))
    · show vP D T N 81 78 g54 [some (2, 17), some (0, 19), some (0, 1)] [(0, 0)] _
      refine vP_hv (fun hv54 => ?_)
      refine v_ret (hi_X6_mayBegin_78 hT) (Or.inl rfl) ?_
      show vP D T N 88 67 g54 [some (2, 17), some (2, 24), some (0, w), some (0, x), o] [(0, 0)] _
      refine v_if (hi_X6_readText_67 hT) (fun _ => ?_) (fun hc55 => absurd (show (0 : Int) = 0 from (by decide)) hc55)
      refine v_push (0) (hi_X6_readText_85 hT) rfl ?_
      refine v_store1 [some (2, 17), some (2, 24), some (0, w), some (0, x), some (0, 0)] (hi_X6_readText_86 hT) ⟨rfl, Nat.ne_of_beq_eq_false rfl⟩ (Nat.le_of_ble_eq_true rfl) rfl ?_
      refine v_load (v := (0, 0)) (hi_X6_readText_88 hT) rfl rfl ?_
      refine v_if (hi_X6_readText_90 hT) (fun _ => ?_) (fun hc56 => absurd (show (0 : Int) = 0 from (by decide)) hc56)
      refine v_push (0) (hi_X6_readText_103 hT) rfl ?_
      refine v_ret (hi_X6_readText_104 hT) (Or.inl rfl) ?_
      exact er _ _ (by simp only [pStep, hE, hsw, hop, h15, opW15, harg, pNm, (show 30 ≤ s from by omega), ne_eq, not_true_eq_false, not_false_eq_true, if_true, if_false, eq_self, eb_l, eb_r, and_true, true_and, and_false, false_and]) c54 (oFr.t oFr.rfl ft54)
theorem co7_21_24 {D : zD} {T : zT} (hT : hTab T) (hO : vOK T) {N : Nat} {h : zH} {Q : zR → Prop} {B : Nat → Int} {n m i s d : Nat} {τ P : PT} (w x z : Int) (o : Option zV) (hv0 : zHv h) (hX : cX B n m τ i h) (hK : Tks B n m τ) (hP : cP 24 P h) (hb : (0 ≤ P 0 0 ∧ P 0 0 ≤ 8) ∧ (0 ≤ P 0 1 ∧ P 0 1 ≤ 6) ∧ (0 ≤ P 0 2 ∧ P 0 2 ≤ 3) ∧ (0 ≤ P 0 3 ∧ P 0 3 ≤ 6)) (hl : h 17 2 = (2, 24)) (hs : h 18 1 = (0, (s : Int))) (hd : h 17 4 = (0, (d : Int))) (hz : h 18 0 = (0, z)) (bs : s ≤ 30) (bd : d ≤ 3) (bz : 0 ≤ z) (bzd : z + d ≤ 2 * s) (ho : ∀ e : Nat, e < d → 0 ≤ (h 23 e).2 ∧ (h 23 e).2 < z) (hx : 0 ≤ x ∧ x < 900) (h0 : τ 0 i ≠ 0) (h1 : τ 0 i = 1) (h3 : τ 3 i = 21) (ih : ∀ g s' d' i' a b z' o' K u v j, pStep τ P s d i = .inr (s', d', i') → cX B n m τ i' g → cP 24 P g → g 17 2 = (2, 24) → g 18 1 = (0, a) → a = (s' : Int) → g 17 4 = (0, b) → b = (d' : Int) → g 18 0 = (0, z') → s' ≤ 30 ∧ d' ≤ 3 ∧ 0 ≤ z' ∧ z' + d' ≤ 2 * s' → (∀ e : Nat, e < d' → 0 ≤ (g 23 e).2 ∧ (g 23 e).2 < z') → oFr h g → z' = z + 1 → pItV τ P i = .inr (K, u, v, j) → oW4 h g z K u v → (∀ e, g 23 e = h 23 e) → vP D T N 88 27 g [some (2, 17), some (2, 24), some (0, w), some (0, (x + 1)), o'] [] Q) (er : ∀ g e, pStep τ P s d i = .inl e → cB e g → oFr h g → Q (g, some (0, 0))) :
    vP D T (N + 1) 88 27 h [some (2, 17), some (2, 24), some (0, w), some (0, x), o] [] Q := by
  have hEn : (bEn τ i) = 0 := bEn_n h0
  have hE : (bW τ 20 i) = 0 := bW_0.mpr (fun c => absurd (h3.symm.trans c.2) (by decide))
  have hsw : ¬ swd τ i < 0 := by rw [swd_v h1, h3]; decide
  have hop : opW (τ 3 i) = false := by rw [h3]; rfl
  have h15 : ¬ τ 3 i = 15 := by rw [h3]; decide
  have harg : ∀ j, oArg τ P (τ 3 i) j = (.inr j) := fun j => by rw [h3]; rfl
  have hargV : ∀ j, oArV τ P 21 j = (.inr (0, 0, j)) := fun _ => rfl
  refine v_loadS (v := (0, x)) (hi_X6_readText_27 hT) rfl rfl ?_
  refine v_push (900) (hi_X6_readText_28 hT) rfl ?_
  refine v_ic (hi_X6_readText_31 hT) (fun _ => ?_) (fun hc1 => absurd (show x < 900 from hx.2) hc1)
  refine v_load (v := (2, 17)) (hi_X6_readText_34 hT) rfl rfl ?_
  refine v_getR (c := 10) (r := 17) (hi_X6_readText_35 hT) rfl rfl rfl ?_
  refine v_call (w := 1) [some (2, 10)] hO (hi_X6_readText_38 hT) rfl rfl (cx_isEnd hT hO hX ?_)
  show vP D T N 88 41 h [some (2, 17), some (2, 24), some (0, w), some (0, x), o] [(0, (bEn τ i))] _
  refine v_if (hi_X6_readText_41 hT) (fun _ => ?_) (fun hc2 => absurd (show (bEn τ i) = 0 from hEn) hc2)
  refine v_load (v := (2, 17)) (hi_X6_readText_44 hT) rfl rfl ?_
  refine v_getR (c := 10) (r := 17) (hi_X6_readText_45 hT) rfl rfl rfl ?_
  refine v_push (20) (hi_X6_readText_48 hT) rfl ?_
  refine v_call (w := 2) [some (2, 10), some (0, 20)] hO (hi_X6_readText_50 hT) rfl rfl (cx_isWord hT hO 20 hX ?_)
  show vP D T N 88 53 h [some (2, 17), some (2, 24), some (0, w), some (0, x), o] [(0, (bW τ 20 i))] _
  refine v_if (hi_X6_readText_53 hT) (fun _ => ?_) (fun hc3 => absurd (show (bW τ 20 i) = 0 from hE) hc3)
  refine v_load (v := (2, 17)) (hi_X6_readText_63 hT) rfl rfl ?_
  refine v_call (w := 3) [some (2, 17), none, none] hO (hi_X6_readText_64 hT) rfl rfl ?_
  refine v_load (v := (2, 17)) (hi_X6_mayBegin_0 hT) rfl rfl ?_
  refine v_getR (c := 10) (r := 17) (hi_X6_mayBegin_1 hT) rfl rfl rfl ?_
  refine v_call (w := 1) [some (2, 10)] hO (hi_X6_mayBegin_4 hT) rfl rfl (cx_wordK hT hO 21 hX h1 h3 ?_)
  show vP D T N 81 7 h [some (2, 17), none, none] [(0, 21)] _
  refine v_store1 [some (2, 17), some (0, 21), none] (hi_X6_mayBegin_7 hT) ⟨rfl, Nat.ne_of_beq_eq_false rfl⟩ (Nat.le_of_ble_eq_true rfl) rfl ?_
  refine v_load (v := (0, 21)) (hi_X6_mayBegin_8 hT) rfl rfl ?_
  refine v_push (15) (hi_X6_mayBegin_9 hT) rfl ?_
  refine v_ic (hi_X6_mayBegin_11 hT) (fun hc4 => absurd (show (21 : Int) = 15 from hc4) (by decide)) (fun _ => ?_)
  refine v_load (v := (0, 21)) (hi_X6_mayBegin_14 hT) rfl rfl ?_
  refine v_push (19) (hi_X6_mayBegin_15 hT) rfl ?_
  refine v_ic (hi_X6_mayBegin_17 hT) (fun hc5 => absurd (show (21 : Int) = 19 from hc5) (by decide)) (fun _ => ?_)
  refine v_push (0) (hi_X6_mayBegin_24 hT) rfl ?_
  refine v_store1 [some (2, 17), some (0, 21), some (0, 0)] (hi_X6_mayBegin_25 hT) ⟨rfl, Nat.ne_of_beq_eq_false rfl⟩ (Nat.le_of_ble_eq_true rfl) rfl ?_
  refine v_load (v := (0, 0)) (hi_X6_mayBegin_26 hT) rfl rfl ?_
  refine v_if (hi_X6_mayBegin_27 hT) (fun _ => ?_) (fun hc6 => absurd (show (0 : Int) = 0 from (by decide)) hc6)
  refine v_load (v := (0, 21)) (hi_X6_mayBegin_30 hT) rfl rfl ?_
  refine v_push (8) (hi_X6_mayBegin_31 hT) rfl ?_
  refine v_ic (hi_X6_mayBegin_33 hT) (fun hc7 => absurd (show (21 : Int) < 8 from hc7) (by decide)) (fun _ => ?_)
  refine v_load (v := (0, 21)) (hi_X6_mayBegin_36 hT) rfl rfl ?_
  refine v_push (14) (hi_X6_mayBegin_37 hT) rfl ?_
  refine v_ic (hi_X6_mayBegin_39 hT) (fun _ => ?_) (fun hc8 => absurd (show 14 < (21 : Int) from (by decide)) hc8)
  refine v_load (v := (0, 21)) (hi_X6_mayBegin_42 hT) rfl rfl ?_
  refine v_push (21) (hi_X6_mayBegin_43 hT) rfl ?_
  refine v_ic (hi_X6_mayBegin_45 hT) (fun _ => ?_) (fun hc9 => absurd (show (21 : Int) = 21 from (by decide)) hc9)
  refine v_load (v := (2, 17)) (hi_X6_mayBegin_57 hT) rfl rfl ?_
  refine v_getR (c := 18) (r := 17) (hi_X6_mayBegin_58 hT) rfl rfl rfl ?_
  refine v_getf (v := (0, (s : Int))) (r := 18) (hi_X6_mayBegin_61 hT) rfl rfl (fun _ => hs) ?_
  refine v_push (30) (hi_X6_mayBegin_64 hT) rfl ?_
  refine v_ic (hi_X6_mayBegin_66 hT) (fun hc10 => ?_) (fun hc10 => ?_)
  · have hc10 : (s : Int) < 30 := hc10
    refine v_load (v := (0, 0)) (hi_X6_mayBegin_79 hT) rfl rfl ?_
    refine v_if (hi_X6_mayBegin_80 hT) (fun _ => ?_) (fun hc11 => absurd (show (0 : Int) = 0 from (by decide)) hc11)
    refine v_push (1) (hi_X6_mayBegin_101 hT) rfl ?_
    refine v_ret (hi_X6_mayBegin_102 hT) (Or.inl rfl) ?_
    show vP D T N 88 67 h [some (2, 17), some (2, 24), some (0, w), some (0, x), o] [(0, 1)] _
    refine v_if (hi_X6_readText_67 hT) (fun hc12 => absurd (show (1 : Int) = 0 from hc12) (by decide)) (fun _ => ?_)
    refine v_load (v := (2, 17)) (hi_X6_readText_70 hT) rfl rfl ?_
    refine v_load (v := (2, 17)) (hi_X6_readText_71 hT) rfl rfl ?_
    refine v_call (w := 3) [some (2, 17), none, none] hO (hi_X6_readText_72 hT) rfl rfl ?_
    refine v_load (v := (2, 17)) (hi_X6_beginStep_0 hT) rfl rfl ?_
    refine v_getR (c := 10) (r := 17) (hi_X6_beginStep_1 hT) rfl rfl rfl ?_
    refine v_call (w := 1) [some (2, 10)] hO (hi_X6_beginStep_4 hT) rfl rfl (cx_wordK hT hO 21 hX h1 h3 ?_)
    show vP D T N 80 7 h [some (2, 17), none, none] [(0, 21)] _
    refine v_store1 [some (2, 17), some (0, 21), none] (hi_X6_beginStep_7 hT) ⟨rfl, Nat.ne_of_beq_eq_false rfl⟩ (Nat.le_of_ble_eq_true rfl) rfl ?_
    refine v_load (v := (2, 17)) (hi_X6_beginStep_8 hT) rfl rfl ?_
    refine v_getR (c := 10) (r := 17) (hi_X6_beginStep_9 hT) rfl rfl rfl ?_
    refine v_call (w := 1) [some (2, 10)] hO (hi_X6_beginStep_12 hT) rfl rfl (cx_adv hT hO hX (ne_10 h1) (ne_14 h1) (fun g13 ft13 hX13 => ?_))
    · show vP D T N 80 15 g13 [some (2, 17), some (0, 21), none] [] _
      refine vP_hv (fun hv13 => ?_)
      refine v_load (v := (0, 21)) (hi_X6_beginStep_15 hT) rfl rfl ?_
      refine v_push (15) (hi_X6_beginStep_16 hT) rfl ?_
      refine v_ic (hi_X6_beginStep_18 hT) (fun hc14 => absurd (show (21 : Int) = 15 from hc14) (by decide)) (fun _ => ?_)
      refine v_load (v := (0, 21)) (hi_X6_beginStep_21 hT) rfl rfl ?_
      refine v_push (19) (hi_X6_beginStep_22 hT) rfl ?_
      refine v_ic (hi_X6_beginStep_24 hT) (fun hc15 => absurd (show (21 : Int) = 19 from hc15) (by decide)) (fun _ => ?_)
      refine v_load (v := (0, 21)) (hi_X6_beginStep_61 hT) rfl rfl ?_
      refine v_push (15) (hi_X6_beginStep_62 hT) rfl ?_
      refine v_ic (hi_X6_beginStep_64 hT) (fun hc16 => absurd (show (21 : Int) = 15 from hc16) (by decide)) (fun _ => ?_)
      refine v_load (v := (0, 21)) (hi_X6_beginStep_67 hT) rfl rfl ?_
      refine v_ret (hi_X6_beginStep_68 hT) (Or.inl rfl) ?_
      show vP D T N 88 75 g13 [some (2, 17), some (2, 24), some (0, w), some (0, x), o] [(0, 21), (2, 17)] _
      refine v_call (w := 2) [some (2, 17), some (0, 21)] hO (hi_X6_readText_75 hT) rfl rfl ?_
      refine v_load (v := (0, 21)) (hi_X6_readStep_0 hT) rfl rfl ?_
      refine v_sw (hi_X6_readStep_1 hT) ?_
      refine ⟨fun c => absurd c (by decide), fun _ => ?_⟩
      refine ⟨fun c => absurd c (by decide), fun _ => ?_⟩
      refine ⟨fun c => absurd c (by decide), fun _ => ?_⟩
      refine ⟨fun c => absurd c (by decide), fun _ => ?_⟩
      refine ⟨fun c => absurd c (by decide), fun _ => ?_⟩
      refine ⟨fun c => absurd c (by decide), fun _ => ?_⟩
      refine ⟨fun c => absurd c (by decide), fun _ => ?_⟩
      refine ⟨fun c => absurd c (by decide), fun _ => ?_⟩
      refine ⟨fun c => absurd c (by decide), fun _ => ?_⟩
      refine ⟨fun c => absurd c (by decide), fun _ => ?_⟩
      refine ⟨fun c => absurd c (by decide), fun _ => ?_⟩
      refine ⟨fun c => absurd c (by decide), fun _ => ?_⟩
      refine ⟨fun c => absurd c (by decide), fun _ => ?_⟩
      refine ⟨fun c => absurd c (by decide), fun _ => ?_⟩
      refine ⟨fun c => absurd c (by decide), fun _ => ?_⟩
      refine ⟨fun c => absurd c (by decide), fun _ => ?_⟩
      refine ⟨fun c => absurd c (by decide), fun _ => ?_⟩
      refine ⟨fun c => absurd c (by decide), fun _ => ?_⟩
      refine ⟨fun c => absurd c (by decide), fun _ => ?_⟩
      refine ⟨fun c => absurd c (by decide), fun _ => ?_⟩
      refine ⟨fun c => absurd c (by decide), fun _ => ?_⟩
      show vP _ _ _ _ _ _ _ _ _
      refine v_load (v := (2, 17)) (hi_X6_readStep_186 hT) rfl rfl ?_
      refine v_getR (c := 18) (r := 17) (hi_X6_readStep_187 hT) rfl rfl rfl ?_
      refine v_load (v := (0, 21)) (hi_X6_readStep_190 hT) rfl rfl ?_
      refine v_push (0) (hi_X6_readStep_191 hT) rfl ?_
      refine v_push (0) (hi_X6_readStep_192 hT) rfl ?_
      refine v_call (w := 4) [some (2, 18), some (0, 21), some (0, 0), some (0, 0)] hO (hi_X6_readStep_193 hT) rfl rfl ?_
      refine v_load (v := (2, 18)) (hi_X5_add_0 hT) rfl rfl ?_
      refine v_getf (v := (0, z)) (r := 18) (hi_X5_add_1 hT) rfl rfl (fun _ => (Eq.trans (ft13 18 0 (by first | decide | exact fun c => by omega)) hz)) ?_
      refine v_if (hi_X5_add_4 hT) (fun hc17 => absurd (show z < 0 from hc17) (by omega)) (fun _ => ?_)
      refine v_load (v := (2, 18)) (hi_X5_add_7 hT) rfl rfl ?_
      refine v_getf (v := (0, z)) (r := 18) (hi_X5_add_8 hT) rfl rfl (fun _ => (Eq.trans (ft13 18 0 (by first | decide | exact fun c => by omega)) hz)) ?_
      refine v_push (60) (hi_X5_add_11 hT) rfl ?_
      refine v_ic (hi_X5_add_13 hT) (fun _ => ?_) (fun hc18 => absurd (show z < 60 from (by omega)) hc18)
      refine v_load (v := (2, 18)) (hi_X5_add_18 hT) rfl rfl ?_
      refine v_getR (c := 19) (r := 18) (hi_X5_add_19 hT) rfl rfl rfl ?_
      refine v_load (v := (2, 18)) (hi_X5_add_22 hT) rfl rfl ?_
      refine v_getf (v := (0, z)) (r := 18) (hi_X5_add_23 hT) rfl rfl (fun _ => (Eq.trans (ft13 18 0 (by first | decide | exact fun c => by omega)) hz)) ?_
      refine v_load (v := (0, 21)) (hi_X5_add_26 hT) rfl rfl ?_
      refine v_ast (r := 19) (hi_X5_add_27 hT) rfl rfl (fun ha19 hb20 hf21 => ?_)
      refine v_load (v := (2, 18)) (hi_X5_add_28 hT) rfl rfl ?_
      refine v_getR (c := 20) (r := 18) (hi_X5_add_29 hT) rfl rfl rfl ?_
      refine v_load (v := (2, 18)) (hi_X5_add_32 hT) rfl rfl ?_
      refine v_getf (v := (0, z)) (r := 18) (hi_X5_add_33 hT) rfl rfl (fun _ => Eq.trans (zset_ne (fun c => absurd c.1 (by decide))) ((Eq.trans (ft13 18 0 (by first | decide | exact fun c => by omega)) hz))) ?_
      refine v_load (v := (0, 0)) (hi_X5_add_36 hT) rfl rfl ?_
      refine v_ast (r := 20) (hi_X5_add_37 hT) rfl rfl (fun ha22 hb23 hf24 => ?_)
      refine v_load (v := (2, 18)) (hi_X5_add_38 hT) rfl rfl ?_
      refine v_getR (c := 21) (r := 18) (hi_X5_add_39 hT) rfl rfl rfl ?_
      refine v_load (v := (2, 18)) (hi_X5_add_42 hT) rfl rfl ?_
      refine v_getf (v := (0, z)) (r := 18) (hi_X5_add_43 hT) rfl rfl (fun _ => Eq.trans (Eq.trans (zset_ne (fun c => absurd c.1 (by decide))) (zset_ne (fun c => absurd c.1 (by decide)))) ((Eq.trans (ft13 18 0 (by first | decide | exact fun c => by omega)) hz))) ?_
      refine v_load (v := (0, 0)) (hi_X5_add_46 hT) rfl rfl ?_
      refine v_ast (r := 21) (hi_X5_add_47 hT) rfl rfl (fun ha25 hb26 hf27 => ?_)
      refine v_load (v := (2, 18)) (hi_X5_add_48 hT) rfl rfl ?_
      refine v_getR (c := 22) (r := 18) (hi_X5_add_49 hT) rfl rfl rfl ?_
      refine v_load (v := (2, 18)) (hi_X5_add_52 hT) rfl rfl ?_
      refine v_getf (v := (0, z)) (r := 18) (hi_X5_add_53 hT) rfl rfl (fun _ => Eq.trans (Eq.trans (zset_ne (fun c => absurd c.1 (by decide))) (Eq.trans (zset_ne (fun c => absurd c.1 (by decide))) (zset_ne (fun c => absurd c.1 (by decide))))) ((Eq.trans (ft13 18 0 (by first | decide | exact fun c => by omega)) hz))) ?_
      refine v_push (-1) (hi_X5_add_56 hT) rfl ?_
      refine v_ast (r := 22) (hi_X5_add_57 hT) rfl rfl (fun ha28 hb29 hf30 => ?_)
      refine v_load (v := (2, 18)) (hi_X5_add_58 hT) rfl rfl ?_
      refine v_dup (hi_X5_add_59 hT) (Nat.ne_of_beq_eq_false rfl) ?_
      refine v_getf (v := (0, z)) (r := 18) (hi_X5_add_60 hT) rfl rfl (fun _ => Eq.trans (Eq.trans (zset_ne (fun c => absurd c.1 (by decide))) (Eq.trans (zset_ne (fun c => absurd c.1 (by decide))) (Eq.trans (zset_ne (fun c => absurd c.1 (by decide))) (zset_ne (fun c => absurd c.1 (by decide)))))) ((Eq.trans (ft13 18 0 (by first | decide | exact fun c => by omega)) hz))) ?_
      refine v_push (1) (hi_X5_add_63 hT) rfl ?_
      refine v_bin (w := (z + 1)) (hi_X5_add_64 hT) (hq_add (by omega) (by omega)) ?_
      refine v_putf (r := 18) hO (hi_X5_add_65 hT) rfl (fun hf31 => ?_)
      refine v_load (v := (2, 18)) (hi_X5_add_68 hT) rfl rfl ?_
      refine v_dup (hi_X5_add_69 hT) (Nat.ne_of_beq_eq_false rfl) ?_
      refine v_getf (v := (0, (s : Int))) (r := 18) (hi_X5_add_70 hT) rfl rfl (fun _ => Eq.trans (Eq.trans (zset_ne (fun c => absurd c.2 (by decide))) (Eq.trans (zset_ne (fun c => absurd c.1 (by decide))) (Eq.trans (zset_ne (fun c => absurd c.1 (by decide))) (Eq.trans (zset_ne (fun c => absurd c.1 (by decide))) (zset_ne (fun c => absurd c.1 (by decide))))))) ((Eq.trans (ft13 18 1 (by first | decide | exact fun c => by omega)) hs))) ?_
      refine v_push (1) (hi_X5_add_73 hT) rfl ?_
      refine v_bin (w := ((s : Int) + 1)) (hi_X5_add_74 hT) (hq_add (by omega) (by omega)) ?_
      refine v_putf (r := 18) hO (hi_X5_add_75 hT) rfl (fun hf32 => ?_)
      refine v_push (1) (hi_X5_add_78 hT) rfl ?_
      refine v_ret (hi_X5_add_79 hT) (Or.inl rfl) ?_
      show vP D T N 87 196 (zset (zset (zset (zset (zset (zset g13 19 z.toNat (0, 21)) 20 z.toNat (0, 0)) 21 z.toNat (0, 0)) 22 z.toNat (0, -1)) 18 0 (0, (z + 1))) 18 1 (0, ((s : Int) + 1))) [some (2, 17), some (0, 21)] [(0, 1)] _
      refine v_ret (hi_X6_readStep_196 hT) (Or.inl rfl) ?_
      show vP D T N 88 78 (zset (zset (zset (zset (zset (zset g13 19 z.toNat (0, 21)) 20 z.toNat (0, 0)) 21 z.toNat (0, 0)) 22 z.toNat (0, -1)) 18 0 (0, (z + 1))) 18 1 (0, ((s : Int) + 1))) [some (2, 17), some (2, 24), some (0, w), some (0, x), o] [(0, 1)] _
      refine v_if (hi_X6_readText_78 hT) (fun hc33 => absurd (show (1 : Int) = 0 from hc33) (by decide)) (fun _ => ?_)
      refine v_push (1) (hi_X6_readText_81 hT) rfl ?_
      refine v_goto (hi_X6_readText_82 hT) ?_
      refine v_store1 [some (2, 17), some (2, 24), some (0, w), some (0, x), some (0, 1)] (hi_X6_readText_86 hT) ⟨rfl, Nat.ne_of_beq_eq_false rfl⟩ (Nat.le_of_ble_eq_true rfl) rfl ?_
      refine v_load (v := (0, 1)) (hi_X6_readText_88 hT) rfl rfl ?_
      refine v_if (hi_X6_readText_90 hT) (fun hc34 => absurd (show (1 : Int) = 0 from hc34) (by decide)) (fun _ => ?_)
      refine v_load (v := (2, 17)) (hi_X6_readText_93 hT) rfl rfl ?_
      refine v_getR (c := 10) (r := 17) (hi_X6_readText_94 hT) rfl rfl rfl ?_
      refine v_call (w := 1) [some (2, 10)] hO (hi_X6_readText_97 hT) rfl rfl (cx_stop hT hO (cX.z (r := 18) (k := 1) (v := (0, ((s : Int) + 1))) (by decide) (cX.z (r := 18) (k := 0) (v := (0, (z + 1))) (by decide) (cX.z (r := 22) (k := z.toNat) (v := (0, -1)) (by decide) (cX.z (r := 21) (k := z.toNat) (v := (0, 0)) (by decide) (cX.z (r := 20) (k := z.toNat) (v := (0, 0)) (by decide) (cX.z (r := 19) (k := z.toNat) (v := (0, 21)) (by decide) hX13)))))) (fun g35 ft35 q35 hX35 => ?_) (fun g36 e36 ft36 q36 c36 => ?_))
      · show vP D T N 88 100 g35 [some (2, 17), some (2, 24), some (0, w), some (0, x), some (0, 1)] [(0, 1)] _
        refine vP_hv (fun hv35 => ?_)
        refine v_if (hi_X6_readText_100 hT) (fun hc37 => absurd (show (1 : Int) = 0 from hc37) (by decide)) (fun _ => ?_)
        refine v_iinc (x := x) (u := 1) (w := (x + 1)) [some (2, 17), some (2, 24), some (0, w), some (0, (x + 1)), some (0, 1)] (hi_X6_readText_105 hT) rfl rfl (Nat.le_of_ble_eq_true rfl) (vz_inc (by omega) (by omega)) rfl ?_
        refine v_goto (hi_X6_readText_108 hT) ?_
        exact ih g35 (s + 1) (d) (i + 1 + 1) _ _ _ (some (0, 1)) 21 0 0 (i + 1) (by simp only [pStep, hE, hsw, hop, h15, opW15, harg, pNm, Bool.false_eq_true, (show ¬ 30 ≤ s from by omega), q35, ne_eq, not_true_eq_false, not_false_eq_true, if_true, if_false, eq_self, eb_l, eb_r, and_true, true_and, and_false, false_and]) hX35 ((cP.z (a := 18) (b := 1) (v := (0, ((s : Int) + 1))) (by decide) (cP.z (a := 18) (b := 0) (v := (0, (z + 1))) (by decide) (cP.z (a := 22) (b := z.toNat) (v := (0, -1)) (by decide) (cP.z (a := 21) (b := z.toNat) (v := (0, 0)) (by decide) (cP.z (a := 20) (b := z.toNat) (v := (0, 0)) (by decide) (cP.z (a := 19) (b := z.toNat) (v := (0, 21)) (by decide) (hP.tf ft13))))))).tf ft35) (Eq.trans (ft35 17 2 (by first | decide | exact fun c => by omega)) (Eq.trans (Eq.trans (zset_ne (fun c => absurd c.1 (by decide))) (Eq.trans (zset_ne (fun c => absurd c.1 (by decide))) (Eq.trans (zset_ne (fun c => absurd c.1 (by decide))) (Eq.trans (zset_ne (fun c => absurd c.1 (by decide))) (Eq.trans (zset_ne (fun c => absurd c.1 (by decide))) (zset_ne (fun c => absurd c.1 (by decide)))))))) ((Eq.trans (ft13 17 2 (by first | decide | exact fun c => by omega)) hl)))) (Eq.trans (ft35 18 1 (by first | decide | exact fun c => by omega)) (zset_same)) (by omega) (Eq.trans (ft35 17 4 (by first | decide | exact fun c => by omega)) (Eq.trans (Eq.trans (zset_ne (fun c => absurd c.1 (by decide))) (Eq.trans (zset_ne (fun c => absurd c.1 (by decide))) (Eq.trans (zset_ne (fun c => absurd c.1 (by decide))) (Eq.trans (zset_ne (fun c => absurd c.1 (by decide))) (Eq.trans (zset_ne (fun c => absurd c.1 (by decide))) (zset_ne (fun c => absurd c.1 (by decide)))))))) ((Eq.trans (ft13 17 4 (by first | decide | exact fun c => by omega)) hd)))) (by omega) (Eq.trans (ft35 18 0 (by first | decide | exact fun c => by omega)) (Eq.trans (zset_ne (fun c => absurd c.2 (by decide))) zset_same)) (by omega) (ob_same (o23_t ft35 (o23_n (r := 18) (k := 1) (v := (0, ((s : Int) + 1))) (by decide) (o23_n (r := 18) (k := 0) (v := (0, (z + 1))) (by decide) (o23_n (r := 22) (k := z.toNat) (v := (0, -1)) (by decide) (o23_n (r := 21) (k := z.toNat) (v := (0, 0)) (by decide) (o23_n (r := 20) (k := z.toNat) (v := (0, 0)) (by decide) (o23_n (r := 19) (k := z.toNat) (v := (0, 21)) (by decide) (o23_t ft13 (fun _ => Eq.refl _))))))))) ho (by omega) (by omega)) (oFr.t (oFr.z (a := 18) (b := 1) (v := (0, ((s : Int) + 1))) (by omega) (oFr.z (a := 18) (b := 0) (v := (0, (z + 1))) (by omega) (oFr.z (a := 22) (b := z.toNat) (v := (0, -1)) (by omega) (oFr.z (a := 21) (b := z.toNat) (v := (0, 0)) (by omega) (oFr.z (a := 20) (b := z.toNat) (v := (0, 0)) (by omega) (oFr.z (a := 19) (b := z.toNat) (v := (0, 21)) (by omega) (oFr.t oFr.rfl ft13))))))) ft35) rfl (pItV_a h3 (by decide) (by simp only [hargV, (show ¬ 30 ≤ s from by omega), q35, ne_eq, not_true_eq_false, not_false_eq_true, if_true, if_false, eq_self, eb_l, eb_r, and_true, true_and, and_false, false_and])) ⟨(kr_f (fun e => ft35 19 e (fun c => by omega)) (kr_n (a := 18) (k := 1) (v := (0, ((s : Int) + 1))) (by decide) (kr_n (a := 18) (k := 0) (v := (0, (z + 1))) (by decide) (kr_n (a := 22) (k := z.toNat) (v := (0, -1)) (by decide) (kr_n (a := 21) (k := z.toNat) (v := (0, 0)) (by decide) (kr_n (a := 20) (k := z.toNat) (v := (0, 0)) (by decide) (kr_z (k := z.toNat) (v := (0, 21)) (kr_f (fun e => ft13 19 e (fun c => by omega)) (fun _ => Eq.refl _))))))))), (kr_f (fun e => ft35 20 e (fun c => by omega)) (kr_n (a := 18) (k := 1) (v := (0, ((s : Int) + 1))) (by decide) (kr_n (a := 18) (k := 0) (v := (0, (z + 1))) (by decide) (kr_n (a := 22) (k := z.toNat) (v := (0, -1)) (by decide) (kr_n (a := 21) (k := z.toNat) (v := (0, 0)) (by decide) (kr_z (k := z.toNat) (v := (0, 0)) (kr_n (a := 19) (k := z.toNat) (v := (0, 21)) (by decide) (kr_f (fun e => ft13 20 e (fun c => by omega)) (fun _ => Eq.refl _))))))))), (kr_f (fun e => ft35 21 e (fun c => by omega)) (kr_n (a := 18) (k := 1) (v := (0, ((s : Int) + 1))) (by decide) (kr_n (a := 18) (k := 0) (v := (0, (z + 1))) (by decide) (kr_n (a := 22) (k := z.toNat) (v := (0, -1)) (by decide) (kr_z (k := z.toNat) (v := (0, 0)) (kr_n (a := 20) (k := z.toNat) (v := (0, 0)) (by decide) (kr_n (a := 19) (k := z.toNat) (v := (0, 21)) (by decide) (kr_f (fun e => ft13 21 e (fun c => by omega)) (fun _ => Eq.refl _))))))))), (kr_f (fun e => ft35 22 e (fun c => by omega)) (kr_n (a := 18) (k := 1) (v := (0, ((s : Int) + 1))) (by decide) (kr_n (a := 18) (k := 0) (v := (0, (z + 1))) (by decide) (kr_z (k := z.toNat) (v := (0, -1)) (kr_n (a := 21) (k := z.toNat) (v := (0, 0)) (by decide) (kr_n (a := 20) (k := z.toNat) (v := (0, 0)) (by decide) (kr_n (a := 19) (k := z.toNat) (v := (0, 21)) (by decide) (kr_f (fun e => ft13 22 e (fun c => by omega)) (fun _ => Eq.refl _)))))))))⟩ (kr_f (fun e => ft35 23 e (fun c => by omega)) (kr_n (a := 18) (k := 1) (v := (0, ((s : Int) + 1))) (by decide) (kr_n (a := 18) (k := 0) (v := (0, (z + 1))) (by decide) (kr_n (a := 22) (k := z.toNat) (v := (0, -1)) (by decide) (kr_n (a := 21) (k := z.toNat) (v := (0, 0)) (by decide) (kr_n (a := 20) (k := z.toNat) (v := (0, 0)) (by decide) (kr_n (a := 19) (k := z.toNat) (v := (0, 21)) (by decide) (kr_f (fun e => ft13 23 e (fun c => by omega)) (fun _ => Eq.refl _)))))))))
      · show vP D T N 88 100 g36 [some (2, 17), some (2, 24), some (0, w), some (0, x), some (0, 1)] [(0, 0)] _
        refine vP_hv (fun hv36 => ?_)
        refine v_if (hi_X6_readText_100 hT) (fun _ => ?_) (fun hc38 => absurd (show (0 : Int) = 0 from (by decide)) hc38)
        refine v_push (0) (hi_X6_readText_103 hT) rfl ?_
        refine v_ret (hi_X6_readText_104 hT) (Or.inl rfl) ?_
        exact er _ _ (by simp only [pStep, hE, hsw, hop, h15, opW15, harg, pNm, Bool.false_eq_true, (show ¬ 30 ≤ s from by omega), q36, ne_eq, not_true_eq_false, not_false_eq_true, if_true, if_false, eq_self, eb_l, eb_r, and_true, true_and, and_false, false_and]) c36 (oFr.t (oFr.z (a := 18) (b := 1) (v := (0, ((s : Int) + 1))) (by omega) (oFr.z (a := 18) (b := 0) (v := (0, (z + 1))) (by omega) (oFr.z (a := 22) (b := z.toNat) (v := (0, -1)) (by omega) (oFr.z (a := 21) (b := z.toNat) (v := (0, 0)) (by omega) (oFr.z (a := 20) (b := z.toNat) (v := (0, 0)) (by omega) (oFr.z (a := 19) (b := z.toNat) (v := (0, 21)) (by omega) (oFr.t oFr.rfl ft13))))))) ft36)
  · have hc10 : 30 ≤ (s : Int) := Int.not_lt.mp hc10
    refine v_load (v := (2, 17)) (hi_X6_mayBegin_69 hT) rfl rfl ?_
    refine v_getR (c := 10) (r := 17) (hi_X6_mayBegin_70 hT) rfl rfl rfl ?_
    refine v_push (6) (hi_X6_mayBegin_73 hT) rfl ?_
    refine v_call (w := 2) [some (2, 10), some (0, 6)] hO (hi_X6_mayBegin_75 hT) rfl rfl (cx_blame hT hO 6 hX (fun g39 ft39 c39 => ?_))
    · show vP D T N 81 78 g39 [some (2, 17), some (0, 21), some (0, 0)] [(0, 0)] _
      refine vP_hv (fun hv39 => ?_)
      refine v_ret (hi_X6_mayBegin_78 hT) (Or.inl rfl) ?_
      show vP D T N 88 67 g39 [some (2, 17), some (2, 24), some (0, w), some (0, x), o] [(0, 0)] _
      refine v_if (hi_X6_readText_67 hT) (fun _ => ?_) (fun hc40 => absurd (show (0 : Int) = 0 from (by decide)) hc40)
      refine v_push (0) (hi_X6_readText_85 hT) rfl ?_
      refine v_store1 [some (2, 17), some (2, 24), some (0, w), some (0, x), some (0, 0)] (hi_X6_readText_86 hT) ⟨rfl, Nat.ne_of_beq_eq_false rfl⟩ (Nat.le_of_ble_eq_true rfl) rfl ?_
      refine v_load (v := (0, 0)) (hi_X6_readText_88 hT) rfl rfl ?_
      refine v_if (hi_X6_readText_90 hT) (fun _ => ?_) (fun hc41 => absurd (show (0 : Int) = 0 from (by decide)) hc41)
      refine v_push (0) (hi_X6_readText_103 hT) rfl ?_
      refine v_ret (hi_X6_readText_104 hT) (Or.inl rfl) ?_
      exact er _ _ (by simp only [pStep, hE, hsw, hop, h15, opW15, harg, pNm, Bool.false_eq_true, (show 30 ≤ s from by omega), ne_eq, not_true_eq_false, not_false_eq_true, if_true, if_false, eq_self, eb_l, eb_r, and_true, true_and, and_false, false_and]) c39 (oFr.t oFr.rfl ft39)
theorem co7_15_16_24 {D : zD} {T : zT} (hT : hTab T) (hO : vOK T) {N : Nat} {h : zH} {Q : zR → Prop} {B : Nat → Int} {n m i s d : Nat} {τ P : PT} (w x z : Int) (o : Option zV) (hv0 : zHv h) (hX : cX B n m τ i h) (hK : Tks B n m τ) (hP : cP 24 P h) (hb : (0 ≤ P 0 0 ∧ P 0 0 ≤ 8) ∧ (0 ≤ P 0 1 ∧ P 0 1 ≤ 6) ∧ (0 ≤ P 0 2 ∧ P 0 2 ≤ 3) ∧ (0 ≤ P 0 3 ∧ P 0 3 ≤ 6)) (hl : h 17 2 = (2, 24)) (hs : h 18 1 = (0, (s : Int))) (hd : h 17 4 = (0, (d : Int))) (hz : h 18 0 = (0, z)) (bs : s ≤ 30) (bd : d ≤ 3) (bz : 0 ≤ z) (bzd : z + d ≤ 2 * s) (ho : ∀ e : Nat, e < d → 0 ≤ (h 23 e).2 ∧ (h 23 e).2 < z) (hx : 0 ≤ x ∧ x < 900) (h0 : τ 0 i ≠ 0) (h1 : τ 0 i = 1) (h3 : τ 3 i = 15) (h1b : τ 0 (i + 1) = 1) (h3b : τ 3 (i + 1) = 16) (ih : ∀ g s' d' i' a b z' o' K u v j, pStep τ P s d i = .inr (s', d', i') → cX B n m τ i' g → cP 24 P g → g 17 2 = (2, 24) → g 18 1 = (0, a) → a = (s' : Int) → g 17 4 = (0, b) → b = (d' : Int) → g 18 0 = (0, z') → s' ≤ 30 ∧ d' ≤ 3 ∧ 0 ≤ z' ∧ z' + d' ≤ 2 * s' → (∀ e : Nat, e < d' → 0 ≤ (g 23 e).2 ∧ (g 23 e).2 < z') → oFr h g → z' = z + 1 → pItV τ P i = .inr (K, u, v, j) → oW4 h g z K u v → (∀ e, g 23 e = zset h 23 ((d : Int)).toNat (0, z) 23 e) → vP D T N 88 27 g [some (2, 17), some (2, 24), some (0, w), some (0, (x + 1)), o'] [] Q) (er : ∀ g e, pStep τ P s d i = .inl e → cB e g → oFr h g → Q (g, some (0, 0))) :
    vP D T (N + 1) 88 27 h [some (2, 17), some (2, 24), some (0, w), some (0, x), o] [] Q := by
  have hEn : (bEn τ i) = 0 := bEn_n h0
  have hE : (bW τ 20 i) = 0 := bW_0.mpr (fun c => absurd (h3.symm.trans c.2) (by decide))
  have hsw : ¬ swd τ i < 0 := by rw [swd_v h1, h3]; decide
  have htw : ¬ twd τ (i + 1) < 0 := by rw [twd_v h1b, h3b]; decide
  have hop : opW (τ 3 i) = true := by rw [h3]; rfl
  have h15 : τ 3 i = 15 := h3
  have harg : ∀ j, oArg τ P (τ 3 (i + 1)) j = (eb (pNum τ 0 (P 0 2 - 1) j) fun a => eb (pWord τ 6 a.2) fun j => eb (pCell τ (P 0 0) (P 0 1) j) fun c => .inr c.2.2) := fun j => by rw [h3b]; rfl
  have hargV : ∀ j, oArV τ P 16 j = (eb (pNum τ 0 (P 0 2 - 1) j) fun a => eb (pWord τ 6 a.2) fun j => eb (pCell τ (P 0 0) (P 0 1) j) fun c => .inr (a.1, c.2.1 * 8 + c.1, c.2.2)) := fun _ => rfl
  refine v_loadS (v := (0, x)) (hi_X6_readText_27 hT) rfl rfl ?_
  refine v_push (900) (hi_X6_readText_28 hT) rfl ?_
  refine v_ic (hi_X6_readText_31 hT) (fun _ => ?_) (fun hc1 => absurd (show x < 900 from hx.2) hc1)
  refine v_load (v := (2, 17)) (hi_X6_readText_34 hT) rfl rfl ?_
  refine v_getR (c := 10) (r := 17) (hi_X6_readText_35 hT) rfl rfl rfl ?_
  refine v_call (w := 1) [some (2, 10)] hO (hi_X6_readText_38 hT) rfl rfl (cx_isEnd hT hO hX ?_)
  show vP D T N 88 41 h [some (2, 17), some (2, 24), some (0, w), some (0, x), o] [(0, (bEn τ i))] _
  refine v_if (hi_X6_readText_41 hT) (fun _ => ?_) (fun hc2 => absurd (show (bEn τ i) = 0 from hEn) hc2)
  refine v_load (v := (2, 17)) (hi_X6_readText_44 hT) rfl rfl ?_
  refine v_getR (c := 10) (r := 17) (hi_X6_readText_45 hT) rfl rfl rfl ?_
  refine v_push (20) (hi_X6_readText_48 hT) rfl ?_
  refine v_call (w := 2) [some (2, 10), some (0, 20)] hO (hi_X6_readText_50 hT) rfl rfl (cx_isWord hT hO 20 hX ?_)
  show vP D T N 88 53 h [some (2, 17), some (2, 24), some (0, w), some (0, x), o] [(0, (bW τ 20 i))] _
  refine v_if (hi_X6_readText_53 hT) (fun _ => ?_) (fun hc3 => absurd (show (bW τ 20 i) = 0 from hE) hc3)
  refine v_load (v := (2, 17)) (hi_X6_readText_63 hT) rfl rfl ?_
  refine v_call (w := 3) [some (2, 17), none, none] hO (hi_X6_readText_64 hT) rfl rfl ?_
  refine v_load (v := (2, 17)) (hi_X6_mayBegin_0 hT) rfl rfl ?_
  refine v_getR (c := 10) (r := 17) (hi_X6_mayBegin_1 hT) rfl rfl rfl ?_
  refine v_call (w := 1) [some (2, 10)] hO (hi_X6_mayBegin_4 hT) rfl rfl (cx_wordK hT hO 15 hX h1 h3 ?_)
  show vP D T N 81 7 h [some (2, 17), none, none] [(0, 15)] _
  refine v_store1 [some (2, 17), some (0, 15), none] (hi_X6_mayBegin_7 hT) ⟨rfl, Nat.ne_of_beq_eq_false rfl⟩ (Nat.le_of_ble_eq_true rfl) rfl ?_
  refine v_load (v := (0, 15)) (hi_X6_mayBegin_8 hT) rfl rfl ?_
  refine v_push (15) (hi_X6_mayBegin_9 hT) rfl ?_
  refine v_ic (hi_X6_mayBegin_11 hT) (fun _ => ?_) (fun hc4 => absurd (show (15 : Int) = 15 from (by decide)) hc4)
  refine v_push (1) (hi_X6_mayBegin_20 hT) rfl ?_
  refine v_goto (hi_X6_mayBegin_21 hT) ?_
  refine v_store1 [some (2, 17), some (0, 15), some (0, 1)] (hi_X6_mayBegin_25 hT) ⟨rfl, Nat.ne_of_beq_eq_false rfl⟩ (Nat.le_of_ble_eq_true rfl) rfl ?_
  refine v_load (v := (0, 1)) (hi_X6_mayBegin_26 hT) rfl rfl ?_
  refine v_if (hi_X6_mayBegin_27 hT) (fun hc5 => absurd (show (1 : Int) = 0 from hc5) (by decide)) (fun _ => ?_)
  refine v_load (v := (2, 17)) (hi_X6_mayBegin_57 hT) rfl rfl ?_
  refine v_getR (c := 18) (r := 17) (hi_X6_mayBegin_58 hT) rfl rfl rfl ?_
  refine v_getf (v := (0, (s : Int))) (r := 18) (hi_X6_mayBegin_61 hT) rfl rfl (fun _ => hs) ?_
  refine v_push (30) (hi_X6_mayBegin_64 hT) rfl ?_
  refine v_ic (hi_X6_mayBegin_66 hT) (fun hc6 => ?_) (fun hc6 => ?_)
  · have hc6 : (s : Int) < 30 := hc6
    refine v_load (v := (0, 1)) (hi_X6_mayBegin_79 hT) rfl rfl ?_
    refine v_if (hi_X6_mayBegin_80 hT) (fun hc7 => absurd (show (1 : Int) = 0 from hc7) (by decide)) (fun _ => ?_)
    refine v_load (v := (2, 17)) (hi_X6_mayBegin_83 hT) rfl rfl ?_
    refine v_getf (v := (0, (d : Int))) (r := 17) (hi_X6_mayBegin_84 hT) rfl rfl (fun _ => hd) ?_
    refine v_push (3) (hi_X6_mayBegin_87 hT) rfl ?_
    refine v_ic (hi_X6_mayBegin_88 hT) (fun hc8 => ?_) (fun hc8 => ?_)
    · have hc8 : (d : Int) < 3 := hc8
      refine v_push (1) (hi_X6_mayBegin_101 hT) rfl ?_
      refine v_ret (hi_X6_mayBegin_102 hT) (Or.inl rfl) ?_
      show vP D T N 88 67 h [some (2, 17), some (2, 24), some (0, w), some (0, x), o] [(0, 1)] _
      refine v_if (hi_X6_readText_67 hT) (fun hc9 => absurd (show (1 : Int) = 0 from hc9) (by decide)) (fun _ => ?_)
      refine v_load (v := (2, 17)) (hi_X6_readText_70 hT) rfl rfl ?_
      refine v_load (v := (2, 17)) (hi_X6_readText_71 hT) rfl rfl ?_
      refine v_call (w := 3) [some (2, 17), none, none] hO (hi_X6_readText_72 hT) rfl rfl ?_
      refine v_load (v := (2, 17)) (hi_X6_beginStep_0 hT) rfl rfl ?_
      refine v_getR (c := 10) (r := 17) (hi_X6_beginStep_1 hT) rfl rfl rfl ?_
      refine v_call (w := 1) [some (2, 10)] hO (hi_X6_beginStep_4 hT) rfl rfl (cx_wordK hT hO 15 hX h1 h3 ?_)
      show vP D T N 80 7 h [some (2, 17), none, none] [(0, 15)] _
      refine v_store1 [some (2, 17), some (0, 15), none] (hi_X6_beginStep_7 hT) ⟨rfl, Nat.ne_of_beq_eq_false rfl⟩ (Nat.le_of_ble_eq_true rfl) rfl ?_
      refine v_load (v := (2, 17)) (hi_X6_beginStep_8 hT) rfl rfl ?_
      refine v_getR (c := 10) (r := 17) (hi_X6_beginStep_9 hT) rfl rfl rfl ?_
      refine v_call (w := 1) [some (2, 10)] hO (hi_X6_beginStep_12 hT) rfl rfl (cx_adv hT hO hX (ne_10 h1) (ne_14 h1) (fun g10 ft10 hX10 => ?_))
      · show vP D T N 80 15 g10 [some (2, 17), some (0, 15), none] [] _
        refine vP_hv (fun hv10 => ?_)
        refine v_load (v := (0, 15)) (hi_X6_beginStep_15 hT) rfl rfl ?_
        refine v_push (15) (hi_X6_beginStep_16 hT) rfl ?_
        refine v_ic (hi_X6_beginStep_18 hT) (fun _ => ?_) (fun hc11 => absurd (show (15 : Int) = 15 from (by decide)) hc11)
        refine v_load (v := (2, 17)) (hi_X6_beginStep_27 hT) rfl rfl ?_
        refine v_getf (v := (0, (d : Int))) (r := 17) (hi_X6_beginStep_28 hT) rfl rfl (fun _ => (Eq.trans (ft10 17 4 (by first | decide | exact fun c => by omega)) hd)) ?_
        refine v_push (3) (hi_X6_beginStep_31 hT) rfl ?_
        refine v_ic (hi_X6_beginStep_32 hT) (fun _ => ?_) (fun hc12 => absurd (show (d : Int) < 3 from hc8) hc12)
        refine v_load (v := (2, 17)) (hi_X6_beginStep_35 hT) rfl rfl ?_
        refine v_getR (c := 23) (r := 17) (hi_X6_beginStep_36 hT) rfl rfl rfl ?_
        refine v_load (v := (2, 17)) (hi_X6_beginStep_39 hT) rfl rfl ?_
        refine v_getf (v := (0, (d : Int))) (r := 17) (hi_X6_beginStep_40 hT) rfl rfl (fun _ => (Eq.trans (ft10 17 4 (by first | decide | exact fun c => by omega)) hd)) ?_
        refine v_load (v := (2, 17)) (hi_X6_beginStep_43 hT) rfl rfl ?_
        refine v_getR (c := 18) (r := 17) (hi_X6_beginStep_44 hT) rfl rfl rfl ?_
        refine v_getf (v := (0, z)) (r := 18) (hi_X6_beginStep_47 hT) rfl rfl (fun _ => (Eq.trans (ft10 18 0 (by first | decide | exact fun c => by omega)) hz)) ?_
        refine v_ast (r := 23) (hi_X6_beginStep_50 hT) rfl rfl (fun ha13 hb14 hf15 => ?_)
        refine v_load (v := (2, 17)) (hi_X6_beginStep_51 hT) rfl rfl ?_
        refine v_dup (hi_X6_beginStep_52 hT) (Nat.ne_of_beq_eq_false rfl) ?_
        refine v_getf (v := (0, (d : Int))) (r := 17) (hi_X6_beginStep_53 hT) rfl rfl (fun _ => Eq.trans (zset_ne (fun c => absurd c.1 (by decide))) ((Eq.trans (ft10 17 4 (by first | decide | exact fun c => by omega)) hd))) ?_
        refine v_push (1) (hi_X6_beginStep_56 hT) rfl ?_
        refine v_bin (w := ((d : Int) + 1)) (hi_X6_beginStep_57 hT) (hq_add (by omega) (by omega)) ?_
        refine v_putf (r := 17) hO (hi_X6_beginStep_58 hT) rfl (fun hf16 => ?_)
        refine v_load (v := (0, 15)) (hi_X6_beginStep_61 hT) rfl rfl ?_
        refine v_push (15) (hi_X6_beginStep_62 hT) rfl ?_
        refine v_ic (hi_X6_beginStep_64 hT) (fun _ => ?_) (fun hc17 => absurd (show (15 : Int) = 15 from (by decide)) hc17)
        refine v_load (v := (2, 17)) (hi_X6_beginStep_69 hT) rfl rfl ?_
        refine v_getR (c := 10) (r := 17) (hi_X6_beginStep_70 hT) rfl rfl rfl ?_
        refine v_call (w := 1) [some (2, 10)] hO (hi_X6_beginStep_73 hT) rfl rfl (cx_wordK hT hO 16 (cX.z (r := 17) (k := 4) (v := (0, ((d : Int) + 1))) (by decide) (cX.z (r := 23) (k := (((d : Int)).toNat)) (v := (0, z)) (by decide) hX10)) h1b h3b ?_)
        show vP D T N 80 76 (zset (zset g10 23 (((d : Int)).toNat) (0, z)) 17 4 (0, ((d : Int) + 1))) [some (2, 17), some (0, 15), none] [(0, 16)] _
        refine v_store1 [some (2, 17), some (0, 15), some (0, 16)] (hi_X6_beginStep_76 hT) ⟨rfl, Nat.ne_of_beq_eq_false rfl⟩ (Nat.le_of_ble_eq_true rfl) rfl ?_
        refine v_load (v := (0, 16)) (hi_X6_beginStep_77 hT) rfl rfl ?_
        refine v_push (16) (hi_X6_beginStep_78 hT) rfl ?_
        refine v_ic (hi_X6_beginStep_80 hT) (fun hc18 => absurd (show (16 : Int) < 16 from hc18) (by decide)) (fun _ => ?_)
        refine v_load (v := (0, 16)) (hi_X6_beginStep_83 hT) rfl rfl ?_
        refine v_push (18) (hi_X6_beginStep_84 hT) rfl ?_
        refine v_ic (hi_X6_beginStep_86 hT) (fun hc19 => absurd (show 18 < (16 : Int) from hc19) (by decide)) (fun _ => ?_)
        refine v_load (v := (2, 17)) (hi_X6_beginStep_100 hT) rfl rfl ?_
        refine v_getR (c := 10) (r := 17) (hi_X6_beginStep_101 hT) rfl rfl rfl ?_
        refine v_call (w := 1) [some (2, 10)] hO (hi_X6_beginStep_104 hT) rfl rfl (cx_adv hT hO (cX.z (r := 17) (k := 4) (v := (0, ((d : Int) + 1))) (by decide) (cX.z (r := 23) (k := (((d : Int)).toNat)) (v := (0, z)) (by decide) hX10)) (ne_10 h1b) (ne_14 h1b) (fun g20 ft20 hX20 => ?_))
        · show vP D T N 80 107 g20 [some (2, 17), some (0, 15), some (0, 16)] [] _
          refine vP_hv (fun hv20 => ?_)
          refine v_load (v := (0, 16)) (hi_X6_beginStep_107 hT) rfl rfl ?_
          refine v_ret (hi_X6_beginStep_108 hT) (Or.inl rfl) ?_
          show vP D T N 88 75 g20 [some (2, 17), some (2, 24), some (0, w), some (0, x), o] [(0, 16), (2, 17)] _
          refine v_call (w := 2) [some (2, 17), some (0, 16)] hO (hi_X6_readText_75 hT) rfl rfl ?_
          refine v_load (v := (0, 16)) (hi_X6_readStep_0 hT) rfl rfl ?_
          refine v_sw (hi_X6_readStep_1 hT) ?_
          refine ⟨fun c => absurd c (by decide), fun _ => ?_⟩
          refine ⟨fun c => absurd c (by decide), fun _ => ?_⟩
          refine ⟨fun c => absurd c (by decide), fun _ => ?_⟩
          refine ⟨fun c => absurd c (by decide), fun _ => ?_⟩
          refine ⟨fun c => absurd c (by decide), fun _ => ?_⟩
          refine ⟨fun c => absurd c (by decide), fun _ => ?_⟩
          refine ⟨fun c => absurd c (by decide), fun _ => ?_⟩
          refine ⟨fun c => absurd c (by decide), fun _ => ?_⟩
          refine ⟨fun c => absurd c (by decide), fun _ => ?_⟩
          refine ⟨fun c => absurd c (by decide), fun _ => ?_⟩
          refine ⟨fun c => absurd c (by decide), fun _ => ?_⟩
          refine ⟨fun c => absurd c (by decide), fun _ => ?_⟩
          refine ⟨fun c => absurd c (by decide), fun _ => ?_⟩
          refine ⟨fun c => absurd c (by decide), fun _ => ?_⟩
          refine ⟨fun c => absurd c (by decide), fun _ => ?_⟩
          refine ⟨fun c => absurd c (by decide), fun _ => ?_⟩
          refine ⟨fun c => absurd c (by decide), fun _ => ?_⟩
          refine ⟨fun _ => ?_, fun c => absurd rfl c⟩
          refine v_load (v := (2, 17)) (hi_X6_readStep_102 hT) rfl rfl ?_
          refine v_load (v := (0, 16)) (hi_X6_readStep_103 hT) rfl rfl ?_
          refine v_call (w := 3) [some (2, 17), some (0, 16), none] hO (hi_X6_readStep_104 hT) rfl rfl ?_
          refine v_load (v := (2, 17)) (hi_X6_readCopyCell_0 hT) rfl rfl ?_
          refine v_getR (c := 10) (r := 17) (hi_X6_readCopyCell_1 hT) rfl rfl rfl ?_
          refine v_push (0) (hi_X6_readCopyCell_4 hT) rfl ?_
          refine v_load (v := (2, 17)) (hi_X6_readCopyCell_5 hT) rfl rfl ?_
          refine v_getf (v := (2, 24)) (r := 17) (hi_X6_readCopyCell_6 hT) rfl rfl (fun _ => (Eq.trans (ft20 17 2 (by first | decide | exact fun c => by omega)) (Eq.trans (Eq.trans (zset_ne (fun c => absurd c.2 (by decide))) (zset_ne (fun c => absurd c.1 (by decide)))) ((Eq.trans (ft10 17 2 (by first | decide | exact fun c => by omega)) hl))))) ?_
          refine v_getf (v := (0, (P 0 2))) (r := 24) (hi_X6_readCopyCell_9 hT) rfl rfl (fun _ => (Eq.trans (ft20 24 2 (by first | decide | exact fun c => by omega)) (Eq.trans (Eq.trans (zset_ne (fun c => absurd c.1 (by decide))) (zset_ne (fun c => absurd c.1 (by decide)))) ((Eq.trans (ft10 24 2 (by first | decide | exact fun c => by omega)) hP.1.2.2.1))))) ?_
          refine v_push (1) (hi_X6_readCopyCell_12 hT) rfl ?_
          refine v_bin (w := ((P 0 2) - 1)) (hi_X6_readCopyCell_13 hT) (hq_sub (by omega) (by omega)) ?_
          refine v_call (w := 4) [some (2, 10), some (0, 0), some (0, ((P 0 2) - 1)), none] hO (hi_X6_readCopyCell_14 hT) rfl rfl (cx_num hT hO 0 (((P 0 2) - 1)) hX20 (fun g22 x21 ft22 q22 bux21 bvx21 hX22 => ?_) (fun g23 e23 ft23 q23 c23 => ?_))
          · show vP D T N 83 17 g22 [some (2, 17), some (0, 16), none] [(0, x21)] _
            refine vP_hv (fun hv22 => ?_)
            refine v_store1 [some (2, 17), some (0, 16), some (0, x21)] (hi_X6_readCopyCell_17 hT) ⟨rfl, Nat.ne_of_beq_eq_false rfl⟩ (Nat.le_of_ble_eq_true rfl) rfl ?_
            refine v_load (v := (0, x21)) (hi_X6_readCopyCell_18 hT) rfl rfl ?_
            refine v_push (-1) (hi_X6_readCopyCell_19 hT) rfl ?_
            refine v_ic (hi_X6_readCopyCell_20 hT) (fun hc24 => absurd (show x21 = -1 from hc24) (by omega)) (fun _ => ?_)
            refine v_load (v := (2, 17)) (hi_X6_readCopyCell_23 hT) rfl rfl ?_
            refine v_getR (c := 10) (r := 17) (hi_X6_readCopyCell_24 hT) rfl rfl rfl ?_
            refine v_push (6) (hi_X6_readCopyCell_27 hT) rfl ?_
            refine v_call (w := 2) [some (2, 10), some (0, 6)] hO (hi_X6_readCopyCell_29 hT) rfl rfl (cx_word hT hO 6 hX22 (fun g25 ft25 q25 hX25 => ?_) (fun g26 e26 ft26 q26 c26 => ?_))
            · show vP D T N 83 32 g25 [some (2, 17), some (0, 16), some (0, x21)] [(0, 1)] _
              refine vP_hv (fun hv25 => ?_)
              refine v_if (hi_X6_readCopyCell_32 hT) (fun hc27 => absurd (show (1 : Int) = 0 from hc27) (by decide)) (fun _ => ?_)
              refine v_load (v := (2, 17)) (hi_X6_readCopyCell_37 hT) rfl rfl ?_
              refine v_load (v := (0, 16)) (hi_X6_readCopyCell_38 hT) rfl rfl ?_
              refine v_load (v := (0, x21)) (hi_X6_readCopyCell_39 hT) rfl rfl ?_
              refine v_load (v := (2, 17)) (hi_X6_readCopyCell_40 hT) rfl rfl ?_
              refine v_getR (c := 10) (r := 17) (hi_X6_readCopyCell_41 hT) rfl rfl rfl ?_
              refine v_load (v := (2, 17)) (hi_X6_readCopyCell_44 hT) rfl rfl ?_
              refine v_getf (v := (2, 24)) (r := 17) (hi_X6_readCopyCell_45 hT) rfl rfl (fun _ => (Eq.trans (ft25 17 2 (by first | decide | exact fun c => by omega)) (Eq.trans (ft22 17 2 (by first | decide | exact fun c => by omega)) (Eq.trans (ft20 17 2 (by first | decide | exact fun c => by omega)) (Eq.trans (Eq.trans (zset_ne (fun c => absurd c.2 (by decide))) (zset_ne (fun c => absurd c.1 (by decide)))) ((Eq.trans (ft10 17 2 (by first | decide | exact fun c => by omega)) hl))))))) ?_
              refine v_call (w := 4) [some (2, 10), some (2, 24), none, none] hO (hi_X6_readCopyCell_48 hT) rfl rfl (cx_cell_24 hT hO ((P 0 0)) ((P 0 1)) hX25 (Eq.trans (ft25 24 0 (by first | decide | exact fun c => by omega)) (Eq.trans (ft22 24 0 (by first | decide | exact fun c => by omega)) (Eq.trans (ft20 24 0 (by first | decide | exact fun c => by omega)) (Eq.trans (Eq.trans (zset_ne (fun c => absurd c.1 (by decide))) (zset_ne (fun c => absurd c.1 (by decide)))) ((Eq.trans (ft10 24 0 (by first | decide | exact fun c => by omega)) hP.1.1)))))) (Eq.trans (ft25 24 1 (by first | decide | exact fun c => by omega)) (Eq.trans (ft22 24 1 (by first | decide | exact fun c => by omega)) (Eq.trans (ft20 24 1 (by first | decide | exact fun c => by omega)) (Eq.trans (Eq.trans (zset_ne (fun c => absurd c.1 (by decide))) (zset_ne (fun c => absurd c.1 (by decide)))) ((Eq.trans (ft10 24 1 (by first | decide | exact fun c => by omega)) hP.1.2.1)))))) (by omega) (by omega) (fun g29 x28 y28 ft29 q29 bax28 bbx28 bcx28 bdx28 hX29 => ?_) (fun g30 e30 ft30 q30 c30 => ?_))
              · show vP D T N 83 51 g29 [some (2, 17), some (0, 16), some (0, x21)] [(0, (y28 * 8 + x28)), (0, x21), (0, 16), (2, 17)] _
                refine vP_hv (fun hv29 => ?_)
                refine v_call (w := 4) [some (2, 17), some (0, 16), some (0, x21), some (0, (y28 * 8 + x28))] hO (hi_X6_readCopyCell_51 hT) rfl rfl ?_
                refine v_load (v := (0, x21)) (hi_X6_readTwo_0 hT) rfl rfl ?_
                refine v_push (-1) (hi_X6_readTwo_1 hT) rfl ?_
                refine v_ic (hi_X6_readTwo_2 hT) (fun hc31 => absurd (show x21 = -1 from hc31) (by omega)) (fun _ => ?_)
                refine v_load (v := (0, (y28 * 8 + x28))) (hi_X6_readTwo_5 hT) rfl rfl ?_
                refine v_push (-1) (hi_X6_readTwo_6 hT) rfl ?_
                refine v_ic (hi_X6_readTwo_7 hT) (fun hc32 => absurd (show (y28 * 8 + x28) = -1 from hc32) (by omega)) (fun _ => ?_)
                refine v_load (v := (2, 17)) (hi_X6_readTwo_10 hT) rfl rfl ?_
                refine v_getR (c := 18) (r := 17) (hi_X6_readTwo_11 hT) rfl rfl rfl ?_
                refine v_load (v := (0, 16)) (hi_X6_readTwo_14 hT) rfl rfl ?_
                refine v_load (v := (0, x21)) (hi_X6_readTwo_15 hT) rfl rfl ?_
                refine v_load (v := (0, (y28 * 8 + x28))) (hi_X6_readTwo_16 hT) rfl rfl ?_
                refine v_call (w := 4) [some (2, 18), some (0, 16), some (0, x21), some (0, (y28 * 8 + x28))] hO (hi_X6_readTwo_17 hT) rfl rfl ?_
                refine v_load (v := (2, 18)) (hi_X5_add_0 hT) rfl rfl ?_
                refine v_getf (v := (0, z)) (r := 18) (hi_X5_add_1 hT) rfl rfl (fun _ => (Eq.trans (ft29 18 0 (by first | decide | exact fun c => by omega)) (Eq.trans (ft25 18 0 (by first | decide | exact fun c => by omega)) (Eq.trans (ft22 18 0 (by first | decide | exact fun c => by omega)) (Eq.trans (ft20 18 0 (by first | decide | exact fun c => by omega)) (Eq.trans (Eq.trans (zset_ne (fun c => absurd c.1 (by decide))) (zset_ne (fun c => absurd c.1 (by decide)))) ((Eq.trans (ft10 18 0 (by first | decide | exact fun c => by omega)) hz)))))))) ?_
                refine v_if (hi_X5_add_4 hT) (fun hc33 => absurd (show z < 0 from hc33) (by omega)) (fun _ => ?_)
                refine v_load (v := (2, 18)) (hi_X5_add_7 hT) rfl rfl ?_
                refine v_getf (v := (0, z)) (r := 18) (hi_X5_add_8 hT) rfl rfl (fun _ => (Eq.trans (ft29 18 0 (by first | decide | exact fun c => by omega)) (Eq.trans (ft25 18 0 (by first | decide | exact fun c => by omega)) (Eq.trans (ft22 18 0 (by first | decide | exact fun c => by omega)) (Eq.trans (ft20 18 0 (by first | decide | exact fun c => by omega)) (Eq.trans (Eq.trans (zset_ne (fun c => absurd c.1 (by decide))) (zset_ne (fun c => absurd c.1 (by decide)))) ((Eq.trans (ft10 18 0 (by first | decide | exact fun c => by omega)) hz)))))))) ?_
                refine v_push (60) (hi_X5_add_11 hT) rfl ?_
                refine v_ic (hi_X5_add_13 hT) (fun _ => ?_) (fun hc34 => absurd (show z < 60 from (by omega)) hc34)
                refine v_load (v := (2, 18)) (hi_X5_add_18 hT) rfl rfl ?_
                refine v_getR (c := 19) (r := 18) (hi_X5_add_19 hT) rfl rfl rfl ?_
                refine v_load (v := (2, 18)) (hi_X5_add_22 hT) rfl rfl ?_
                refine v_getf (v := (0, z)) (r := 18) (hi_X5_add_23 hT) rfl rfl (fun _ => (Eq.trans (ft29 18 0 (by first | decide | exact fun c => by omega)) (Eq.trans (ft25 18 0 (by first | decide | exact fun c => by omega)) (Eq.trans (ft22 18 0 (by first | decide | exact fun c => by omega)) (Eq.trans (ft20 18 0 (by first | decide | exact fun c => by omega)) (Eq.trans (Eq.trans (zset_ne (fun c => absurd c.1 (by decide))) (zset_ne (fun c => absurd c.1 (by decide)))) ((Eq.trans (ft10 18 0 (by first | decide | exact fun c => by omega)) hz)))))))) ?_
                refine v_load (v := (0, 16)) (hi_X5_add_26 hT) rfl rfl ?_
                refine v_ast (r := 19) (hi_X5_add_27 hT) rfl rfl (fun ha35 hb36 hf37 => ?_)
                refine v_load (v := (2, 18)) (hi_X5_add_28 hT) rfl rfl ?_
                refine v_getR (c := 20) (r := 18) (hi_X5_add_29 hT) rfl rfl rfl ?_
                refine v_load (v := (2, 18)) (hi_X5_add_32 hT) rfl rfl ?_
                refine v_getf (v := (0, z)) (r := 18) (hi_X5_add_33 hT) rfl rfl (fun _ => Eq.trans (zset_ne (fun c => absurd c.1 (by decide))) ((Eq.trans (ft29 18 0 (by first | decide | exact fun c => by omega)) (Eq.trans (ft25 18 0 (by first | decide | exact fun c => by omega)) (Eq.trans (ft22 18 0 (by first | decide | exact fun c => by omega)) (Eq.trans (ft20 18 0 (by first | decide | exact fun c => by omega)) (Eq.trans (Eq.trans (zset_ne (fun c => absurd c.1 (by decide))) (zset_ne (fun c => absurd c.1 (by decide)))) ((Eq.trans (ft10 18 0 (by first | decide | exact fun c => by omega)) hz))))))))) ?_
                refine v_load (v := (0, x21)) (hi_X5_add_36 hT) rfl rfl ?_
                refine v_ast (r := 20) (hi_X5_add_37 hT) rfl rfl (fun ha38 hb39 hf40 => ?_)
                refine v_load (v := (2, 18)) (hi_X5_add_38 hT) rfl rfl ?_
                refine v_getR (c := 21) (r := 18) (hi_X5_add_39 hT) rfl rfl rfl ?_
                refine v_load (v := (2, 18)) (hi_X5_add_42 hT) rfl rfl ?_
                refine v_getf (v := (0, z)) (r := 18) (hi_X5_add_43 hT) rfl rfl (fun _ => Eq.trans (Eq.trans (zset_ne (fun c => absurd c.1 (by decide))) (zset_ne (fun c => absurd c.1 (by decide)))) ((Eq.trans (ft29 18 0 (by first | decide | exact fun c => by omega)) (Eq.trans (ft25 18 0 (by first | decide | exact fun c => by omega)) (Eq.trans (ft22 18 0 (by first | decide | exact fun c => by omega)) (Eq.trans (ft20 18 0 (by first | decide | exact fun c => by omega)) (Eq.trans (Eq.trans (zset_ne (fun c => absurd c.1 (by decide))) (zset_ne (fun c => absurd c.1 (by decide)))) ((Eq.trans (ft10 18 0 (by first | decide | exact fun c => by omega)) hz))))))))) ?_
                refine v_load (v := (0, (y28 * 8 + x28))) (hi_X5_add_46 hT) rfl rfl ?_
                refine v_ast (r := 21) (hi_X5_add_47 hT) rfl rfl (fun ha41 hb42 hf43 => ?_)
                refine v_load (v := (2, 18)) (hi_X5_add_48 hT) rfl rfl ?_
                refine v_getR (c := 22) (r := 18) (hi_X5_add_49 hT) rfl rfl rfl ?_
                refine v_load (v := (2, 18)) (hi_X5_add_52 hT) rfl rfl ?_
                refine v_getf (v := (0, z)) (r := 18) (hi_X5_add_53 hT) rfl rfl (fun _ => Eq.trans (Eq.trans (zset_ne (fun c => absurd c.1 (by decide))) (Eq.trans (zset_ne (fun c => absurd c.1 (by decide))) (zset_ne (fun c => absurd c.1 (by decide))))) ((Eq.trans (ft29 18 0 (by first | decide | exact fun c => by omega)) (Eq.trans (ft25 18 0 (by first | decide | exact fun c => by omega)) (Eq.trans (ft22 18 0 (by first | decide | exact fun c => by omega)) (Eq.trans (ft20 18 0 (by first | decide | exact fun c => by omega)) (Eq.trans (Eq.trans (zset_ne (fun c => absurd c.1 (by decide))) (zset_ne (fun c => absurd c.1 (by decide)))) ((Eq.trans (ft10 18 0 (by first | decide | exact fun c => by omega)) hz))))))))) ?_
                refine v_push (-1) (hi_X5_add_56 hT) rfl ?_
                refine v_ast (r := 22) (hi_X5_add_57 hT) rfl rfl (fun ha44 hb45 hf46 => ?_)
                refine v_load (v := (2, 18)) (hi_X5_add_58 hT) rfl rfl ?_
                refine v_dup (hi_X5_add_59 hT) (Nat.ne_of_beq_eq_false rfl) ?_
                refine v_getf (v := (0, z)) (r := 18) (hi_X5_add_60 hT) rfl rfl (fun _ => Eq.trans (Eq.trans (zset_ne (fun c => absurd c.1 (by decide))) (Eq.trans (zset_ne (fun c => absurd c.1 (by decide))) (Eq.trans (zset_ne (fun c => absurd c.1 (by decide))) (zset_ne (fun c => absurd c.1 (by decide)))))) ((Eq.trans (ft29 18 0 (by first | decide | exact fun c => by omega)) (Eq.trans (ft25 18 0 (by first | decide | exact fun c => by omega)) (Eq.trans (ft22 18 0 (by first | decide | exact fun c => by omega)) (Eq.trans (ft20 18 0 (by first | decide | exact fun c => by omega)) (Eq.trans (Eq.trans (zset_ne (fun c => absurd c.1 (by decide))) (zset_ne (fun c => absurd c.1 (by decide)))) ((Eq.trans (ft10 18 0 (by first | decide | exact fun c => by omega)) hz))))))))) ?_
                refine v_push (1) (hi_X5_add_63 hT) rfl ?_
                refine v_bin (w := (z + 1)) (hi_X5_add_64 hT) (hq_add (by omega) (by omega)) ?_
                refine v_putf (r := 18) hO (hi_X5_add_65 hT) rfl (fun hf47 => ?_)
                refine v_load (v := (2, 18)) (hi_X5_add_68 hT) rfl rfl ?_
                refine v_dup (hi_X5_add_69 hT) (Nat.ne_of_beq_eq_false rfl) ?_
                refine v_getf (v := (0, (s : Int))) (r := 18) (hi_X5_add_70 hT) rfl rfl (fun _ => Eq.trans (Eq.trans (zset_ne (fun c => absurd c.2 (by decide))) (Eq.trans (zset_ne (fun c => absurd c.1 (by decide))) (Eq.trans (zset_ne (fun c => absurd c.1 (by decide))) (Eq.trans (zset_ne (fun c => absurd c.1 (by decide))) (zset_ne (fun c => absurd c.1 (by decide))))))) ((Eq.trans (ft29 18 1 (by first | decide | exact fun c => by omega)) (Eq.trans (ft25 18 1 (by first | decide | exact fun c => by omega)) (Eq.trans (ft22 18 1 (by first | decide | exact fun c => by omega)) (Eq.trans (ft20 18 1 (by first | decide | exact fun c => by omega)) (Eq.trans (Eq.trans (zset_ne (fun c => absurd c.1 (by decide))) (zset_ne (fun c => absurd c.1 (by decide)))) ((Eq.trans (ft10 18 1 (by first | decide | exact fun c => by omega)) hs))))))))) ?_
                refine v_push (1) (hi_X5_add_73 hT) rfl ?_
                refine v_bin (w := ((s : Int) + 1)) (hi_X5_add_74 hT) (hq_add (by omega) (by omega)) ?_
                refine v_putf (r := 18) hO (hi_X5_add_75 hT) rfl (fun hf48 => ?_)
                refine v_push (1) (hi_X5_add_78 hT) rfl ?_
                refine v_ret (hi_X5_add_79 hT) (Or.inl rfl) ?_
                show vP D T N 89 20 (zset (zset (zset (zset (zset (zset g29 19 z.toNat (0, 16)) 20 z.toNat (0, x21)) 21 z.toNat (0, (y28 * 8 + x28))) 22 z.toNat (0, -1)) 18 0 (0, (z + 1))) 18 1 (0, ((s : Int) + 1))) [some (2, 17), some (0, 16), some (0, x21), some (0, (y28 * 8 + x28))] [(0, 1)] _
                refine v_if (hi_X6_readTwo_20 hT) (fun hc49 => absurd (show (1 : Int) = 0 from hc49) (by decide)) (fun _ => ?_)
                refine v_push (1) (hi_X6_readTwo_23 hT) rfl ?_
                refine v_goto (hi_X6_readTwo_24 hT) ?_
                refine v_ret (hi_X6_readTwo_28 hT) (Or.inl rfl) ?_
                show vP D T N 83 54 (zset (zset (zset (zset (zset (zset g29 19 z.toNat (0, 16)) 20 z.toNat (0, x21)) 21 z.toNat (0, (y28 * 8 + x28))) 22 z.toNat (0, -1)) 18 0 (0, (z + 1))) 18 1 (0, ((s : Int) + 1))) [some (2, 17), some (0, 16), some (0, x21)] [(0, 1)] _
                refine v_ret (hi_X6_readCopyCell_54 hT) (Or.inl rfl) ?_
                show vP D T N 87 107 (zset (zset (zset (zset (zset (zset g29 19 z.toNat (0, 16)) 20 z.toNat (0, x21)) 21 z.toNat (0, (y28 * 8 + x28))) 22 z.toNat (0, -1)) 18 0 (0, (z + 1))) 18 1 (0, ((s : Int) + 1))) [some (2, 17), some (0, 16)] [(0, 1)] _
                refine v_ret (hi_X6_readStep_107 hT) (Or.inl rfl) ?_
                show vP D T N 88 78 (zset (zset (zset (zset (zset (zset g29 19 z.toNat (0, 16)) 20 z.toNat (0, x21)) 21 z.toNat (0, (y28 * 8 + x28))) 22 z.toNat (0, -1)) 18 0 (0, (z + 1))) 18 1 (0, ((s : Int) + 1))) [some (2, 17), some (2, 24), some (0, w), some (0, x), o] [(0, 1)] _
                refine v_if (hi_X6_readText_78 hT) (fun hc50 => absurd (show (1 : Int) = 0 from hc50) (by decide)) (fun _ => ?_)
                refine v_push (1) (hi_X6_readText_81 hT) rfl ?_
                refine v_goto (hi_X6_readText_82 hT) ?_
                refine v_store1 [some (2, 17), some (2, 24), some (0, w), some (0, x), some (0, 1)] (hi_X6_readText_86 hT) ⟨rfl, Nat.ne_of_beq_eq_false rfl⟩ (Nat.le_of_ble_eq_true rfl) rfl ?_
                refine v_load (v := (0, 1)) (hi_X6_readText_88 hT) rfl rfl ?_
                refine v_if (hi_X6_readText_90 hT) (fun hc51 => absurd (show (1 : Int) = 0 from hc51) (by decide)) (fun _ => ?_)
                refine v_load (v := (2, 17)) (hi_X6_readText_93 hT) rfl rfl ?_
                refine v_getR (c := 10) (r := 17) (hi_X6_readText_94 hT) rfl rfl rfl ?_
                refine v_call (w := 1) [some (2, 10)] hO (hi_X6_readText_97 hT) rfl rfl (cx_stop hT hO (cX.z (r := 18) (k := 1) (v := (0, ((s : Int) + 1))) (by decide) (cX.z (r := 18) (k := 0) (v := (0, (z + 1))) (by decide) (cX.z (r := 22) (k := z.toNat) (v := (0, -1)) (by decide) (cX.z (r := 21) (k := z.toNat) (v := (0, (y28 * 8 + x28))) (by decide) (cX.z (r := 20) (k := z.toNat) (v := (0, x21)) (by decide) (cX.z (r := 19) (k := z.toNat) (v := (0, 16)) (by decide) hX29)))))) (fun g52 ft52 q52 hX52 => ?_) (fun g53 e53 ft53 q53 c53 => ?_))
                · show vP D T N 88 100 g52 [some (2, 17), some (2, 24), some (0, w), some (0, x), some (0, 1)] [(0, 1)] _
                  refine vP_hv (fun hv52 => ?_)
                  refine v_if (hi_X6_readText_100 hT) (fun hc54 => absurd (show (1 : Int) = 0 from hc54) (by decide)) (fun _ => ?_)
                  refine v_iinc (x := x) (u := 1) (w := (x + 1)) [some (2, 17), some (2, 24), some (0, w), some (0, (x + 1)), some (0, 1)] (hi_X6_readText_105 hT) rfl rfl (Nat.le_of_ble_eq_true rfl) (vz_inc (by omega) (by omega)) rfl ?_
                  refine v_goto (hi_X6_readText_108 hT) ?_
                  exact ih g52 (s + 1) (d + 1) (i + 1 + 1 + 1 + 1 + 1 + 1 + 1) _ _ _ (some (0, 1)) 16 x21 ((y28 * 8 + x28)) (i + 1 + 1 + 1 + 1 + 1 + 1) (by simp only [pStep, hE, hsw, htw, hop, h15, opW15, harg, pNm, (show ¬ 30 ≤ s from by omega), (show ¬ 3 ≤ d from by omega), q22, q25, q29, q52, ne_eq, not_true_eq_false, not_false_eq_true, if_true, if_false, eq_self, eb_l, eb_r, and_true, true_and, and_false, false_and]) hX52 ((cP.z (a := 18) (b := 1) (v := (0, ((s : Int) + 1))) (by decide) (cP.z (a := 18) (b := 0) (v := (0, (z + 1))) (by decide) (cP.z (a := 22) (b := z.toNat) (v := (0, -1)) (by decide) (cP.z (a := 21) (b := z.toNat) (v := (0, (y28 * 8 + x28))) (by decide) (cP.z (a := 20) (b := z.toNat) (v := (0, x21)) (by decide) (cP.z (a := 19) (b := z.toNat) (v := (0, 16)) (by decide) (((((cP.z (a := 17) (b := 4) (v := (0, ((d : Int) + 1))) (by decide) (cP.z (a := 23) (b := (((d : Int)).toNat)) (v := (0, z)) (by decide) (hP.tf ft10))).tf ft20).tf ft22).tf ft25).tf ft29))))))).tf ft52) (Eq.trans (ft52 17 2 (by first | decide | exact fun c => by omega)) (Eq.trans (Eq.trans (zset_ne (fun c => absurd c.1 (by decide))) (Eq.trans (zset_ne (fun c => absurd c.1 (by decide))) (Eq.trans (zset_ne (fun c => absurd c.1 (by decide))) (Eq.trans (zset_ne (fun c => absurd c.1 (by decide))) (Eq.trans (zset_ne (fun c => absurd c.1 (by decide))) (zset_ne (fun c => absurd c.1 (by decide)))))))) ((Eq.trans (ft29 17 2 (by first | decide | exact fun c => by omega)) (Eq.trans (ft25 17 2 (by first | decide | exact fun c => by omega)) (Eq.trans (ft22 17 2 (by first | decide | exact fun c => by omega)) (Eq.trans (ft20 17 2 (by first | decide | exact fun c => by omega)) (Eq.trans (Eq.trans (zset_ne (fun c => absurd c.2 (by decide))) (zset_ne (fun c => absurd c.1 (by decide)))) ((Eq.trans (ft10 17 2 (by first | decide | exact fun c => by omega)) hl)))))))))) (Eq.trans (ft52 18 1 (by first | decide | exact fun c => by omega)) (zset_same)) (by omega) (Eq.trans (ft52 17 4 (by first | decide | exact fun c => by omega)) (Eq.trans (Eq.trans (zset_ne (fun c => absurd c.1 (by decide))) (Eq.trans (zset_ne (fun c => absurd c.1 (by decide))) (Eq.trans (zset_ne (fun c => absurd c.1 (by decide))) (Eq.trans (zset_ne (fun c => absurd c.1 (by decide))) (Eq.trans (zset_ne (fun c => absurd c.1 (by decide))) (zset_ne (fun c => absurd c.1 (by decide)))))))) ((Eq.trans (ft29 17 4 (by first | decide | exact fun c => by omega)) (Eq.trans (ft25 17 4 (by first | decide | exact fun c => by omega)) (Eq.trans (ft22 17 4 (by first | decide | exact fun c => by omega)) (Eq.trans (ft20 17 4 (by first | decide | exact fun c => by omega)) (zset_same)))))))) (by omega) (Eq.trans (ft52 18 0 (by first | decide | exact fun c => by omega)) (Eq.trans (zset_ne (fun c => absurd c.2 (by decide))) zset_same)) (by omega) (ob_open (o23_t ft52 (o23_n (r := 18) (k := 1) (v := (0, ((s : Int) + 1))) (by decide) (o23_n (r := 18) (k := 0) (v := (0, (z + 1))) (by decide) (o23_n (r := 22) (k := z.toNat) (v := (0, -1)) (by decide) (o23_n (r := 21) (k := z.toNat) (v := (0, (y28 * 8 + x28))) (by decide) (o23_n (r := 20) (k := z.toNat) (v := (0, x21)) (by decide) (o23_n (r := 19) (k := z.toNat) (v := (0, 16)) (by decide) (o23_t ft29 (o23_t ft25 (o23_t ft22 (o23_t ft20 (o23_n (r := 17) (k := 4) (v := (0, ((d : Int) + 1))) (by decide) (o23_z (k := (((d : Int)).toNat)) (v := (0, z)) (o23_t ft10 (fun _ => Eq.refl _))))))))))))))) ho bz (by omega)) (oFr.t (oFr.z (a := 18) (b := 1) (v := (0, ((s : Int) + 1))) (by omega) (oFr.z (a := 18) (b := 0) (v := (0, (z + 1))) (by omega) (oFr.z (a := 22) (b := z.toNat) (v := (0, -1)) (by omega) (oFr.z (a := 21) (b := z.toNat) (v := (0, (y28 * 8 + x28))) (by omega) (oFr.z (a := 20) (b := z.toNat) (v := (0, x21)) (by omega) (oFr.z (a := 19) (b := z.toNat) (v := (0, 16)) (by omega) (oFr.t (oFr.t (oFr.t (oFr.t (oFr.z (a := 17) (b := 4) (v := (0, ((d : Int) + 1))) (by omega) (oFr.z (a := 23) (b := (((d : Int)).toNat)) (v := (0, z)) (by omega) (oFr.t oFr.rfl ft10))) ft20) ft22) ft25) ft29))))))) ft52) rfl (pItV_b h3 h3b (by simp only [hargV, (show ¬ 30 ≤ s from by omega), (show ¬ 3 ≤ d from by omega), q22, q25, q29, q52, ne_eq, not_true_eq_false, not_false_eq_true, if_true, if_false, eq_self, eb_l, eb_r, and_true, true_and, and_false, false_and])) ⟨(kr_f (fun e => ft52 19 e (fun c => by omega)) (kr_n (a := 18) (k := 1) (v := (0, ((s : Int) + 1))) (by decide) (kr_n (a := 18) (k := 0) (v := (0, (z + 1))) (by decide) (kr_n (a := 22) (k := z.toNat) (v := (0, -1)) (by decide) (kr_n (a := 21) (k := z.toNat) (v := (0, (y28 * 8 + x28))) (by decide) (kr_n (a := 20) (k := z.toNat) (v := (0, x21)) (by decide) (kr_z (k := z.toNat) (v := (0, 16)) (kr_f (fun e => ft29 19 e (fun c => by omega)) (kr_f (fun e => ft25 19 e (fun c => by omega)) (kr_f (fun e => ft22 19 e (fun c => by omega)) (kr_f (fun e => ft20 19 e (fun c => by omega)) (kr_n (a := 17) (k := 4) (v := (0, ((d : Int) + 1))) (by decide) (kr_n (a := 23) (k := (((d : Int)).toNat)) (v := (0, z)) (by decide) (kr_f (fun e => ft10 19 e (fun c => by omega)) (fun _ => Eq.refl _))))))))))))))), (kr_f (fun e => ft52 20 e (fun c => by omega)) (kr_n (a := 18) (k := 1) (v := (0, ((s : Int) + 1))) (by decide) (kr_n (a := 18) (k := 0) (v := (0, (z + 1))) (by decide) (kr_n (a := 22) (k := z.toNat) (v := (0, -1)) (by decide) (kr_n (a := 21) (k := z.toNat) (v := (0, (y28 * 8 + x28))) (by decide) (kr_z (k := z.toNat) (v := (0, x21)) (kr_n (a := 19) (k := z.toNat) (v := (0, 16)) (by decide) (kr_f (fun e => ft29 20 e (fun c => by omega)) (kr_f (fun e => ft25 20 e (fun c => by omega)) (kr_f (fun e => ft22 20 e (fun c => by omega)) (kr_f (fun e => ft20 20 e (fun c => by omega)) (kr_n (a := 17) (k := 4) (v := (0, ((d : Int) + 1))) (by decide) (kr_n (a := 23) (k := (((d : Int)).toNat)) (v := (0, z)) (by decide) (kr_f (fun e => ft10 20 e (fun c => by omega)) (fun _ => Eq.refl _))))))))))))))), (kr_f (fun e => ft52 21 e (fun c => by omega)) (kr_n (a := 18) (k := 1) (v := (0, ((s : Int) + 1))) (by decide) (kr_n (a := 18) (k := 0) (v := (0, (z + 1))) (by decide) (kr_n (a := 22) (k := z.toNat) (v := (0, -1)) (by decide) (kr_z (k := z.toNat) (v := (0, (y28 * 8 + x28))) (kr_n (a := 20) (k := z.toNat) (v := (0, x21)) (by decide) (kr_n (a := 19) (k := z.toNat) (v := (0, 16)) (by decide) (kr_f (fun e => ft29 21 e (fun c => by omega)) (kr_f (fun e => ft25 21 e (fun c => by omega)) (kr_f (fun e => ft22 21 e (fun c => by omega)) (kr_f (fun e => ft20 21 e (fun c => by omega)) (kr_n (a := 17) (k := 4) (v := (0, ((d : Int) + 1))) (by decide) (kr_n (a := 23) (k := (((d : Int)).toNat)) (v := (0, z)) (by decide) (kr_f (fun e => ft10 21 e (fun c => by omega)) (fun _ => Eq.refl _))))))))))))))), (kr_f (fun e => ft52 22 e (fun c => by omega)) (kr_n (a := 18) (k := 1) (v := (0, ((s : Int) + 1))) (by decide) (kr_n (a := 18) (k := 0) (v := (0, (z + 1))) (by decide) (kr_z (k := z.toNat) (v := (0, -1)) (kr_n (a := 21) (k := z.toNat) (v := (0, (y28 * 8 + x28))) (by decide) (kr_n (a := 20) (k := z.toNat) (v := (0, x21)) (by decide) (kr_n (a := 19) (k := z.toNat) (v := (0, 16)) (by decide) (kr_f (fun e => ft29 22 e (fun c => by omega)) (kr_f (fun e => ft25 22 e (fun c => by omega)) (kr_f (fun e => ft22 22 e (fun c => by omega)) (kr_f (fun e => ft20 22 e (fun c => by omega)) (kr_n (a := 17) (k := 4) (v := (0, ((d : Int) + 1))) (by decide) (kr_n (a := 23) (k := (((d : Int)).toNat)) (v := (0, z)) (by decide) (kr_f (fun e => ft10 22 e (fun c => by omega)) (fun _ => Eq.refl _)))))))))))))))⟩ (kr_f (fun e => ft52 23 e (fun c => by omega)) (kr_n (a := 18) (k := 1) (v := (0, ((s : Int) + 1))) (by decide) (kr_n (a := 18) (k := 0) (v := (0, (z + 1))) (by decide) (kr_n (a := 22) (k := z.toNat) (v := (0, -1)) (by decide) (kr_n (a := 21) (k := z.toNat) (v := (0, (y28 * 8 + x28))) (by decide) (kr_n (a := 20) (k := z.toNat) (v := (0, x21)) (by decide) (kr_n (a := 19) (k := z.toNat) (v := (0, 16)) (by decide) (kr_f (fun e => ft29 23 e (fun c => by omega)) (kr_f (fun e => ft25 23 e (fun c => by omega)) (kr_f (fun e => ft22 23 e (fun c => by omega)) (kr_f (fun e => ft20 23 e (fun c => by omega)) (kr_n (a := 17) (k := 4) (v := (0, ((d : Int) + 1))) (by decide) (kr_z (k := (((d : Int)).toNat)) (v := (0, z)) (kr_f (fun e => ft10 23 e (fun c => by omega)) (fun _ => Eq.refl _)))))))))))))))
                · show vP D T N 88 100 g53 [some (2, 17), some (2, 24), some (0, w), some (0, x), some (0, 1)] [(0, 0)] _
                  refine vP_hv (fun hv53 => ?_)
                  refine v_if (hi_X6_readText_100 hT) (fun _ => ?_) (fun hc55 => absurd (show (0 : Int) = 0 from (by decide)) hc55)
                  refine v_push (0) (hi_X6_readText_103 hT) rfl ?_
                  refine v_ret (hi_X6_readText_104 hT) (Or.inl rfl) ?_
                  exact er _ _ (by simp only [pStep, hE, hsw, htw, hop, h15, opW15, harg, pNm, (show ¬ 30 ≤ s from by omega), (show ¬ 3 ≤ d from by omega), q22, q25, q29, q53, ne_eq, not_true_eq_false, not_false_eq_true, if_true, if_false, eq_self, eb_l, eb_r, and_true, true_and, and_false, false_and]) c53 (oFr.t (oFr.z (a := 18) (b := 1) (v := (0, ((s : Int) + 1))) (by omega) (oFr.z (a := 18) (b := 0) (v := (0, (z + 1))) (by omega) (oFr.z (a := 22) (b := z.toNat) (v := (0, -1)) (by omega) (oFr.z (a := 21) (b := z.toNat) (v := (0, (y28 * 8 + x28))) (by omega) (oFr.z (a := 20) (b := z.toNat) (v := (0, x21)) (by omega) (oFr.z (a := 19) (b := z.toNat) (v := (0, 16)) (by omega) (oFr.t (oFr.t (oFr.t (oFr.t (oFr.z (a := 17) (b := 4) (v := (0, ((d : Int) + 1))) (by omega) (oFr.z (a := 23) (b := (((d : Int)).toNat)) (v := (0, z)) (by omega) (oFr.t oFr.rfl ft10))) ft20) ft22) ft25) ft29))))))) ft53)
              · show vP D T N 83 51 g30 [some (2, 17), some (0, 16), some (0, x21)] [(0, -1), (0, x21), (0, 16), (2, 17)] _
                refine vP_hv (fun hv30 => ?_)
                refine v_call (w := 4) [some (2, 17), some (0, 16), some (0, x21), some (0, -1)] hO (hi_X6_readCopyCell_51 hT) rfl rfl ?_
                refine v_load (v := (0, x21)) (hi_X6_readTwo_0 hT) rfl rfl ?_
                refine v_push (-1) (hi_X6_readTwo_1 hT) rfl ?_
                refine v_ic (hi_X6_readTwo_2 hT) (fun hc56 => absurd (show x21 = -1 from hc56) (by omega)) (fun _ => ?_)
                refine v_load (v := (0, -1)) (hi_X6_readTwo_5 hT) rfl rfl ?_
                refine v_push (-1) (hi_X6_readTwo_6 hT) rfl ?_
                refine v_ic (hi_X6_readTwo_7 hT) (fun _ => ?_) (fun hc57 => absurd (show (-1 : Int) = -1 from (by decide)) hc57)
                refine v_push (0) (hi_X6_readTwo_27 hT) rfl ?_
                refine v_ret (hi_X6_readTwo_28 hT) (Or.inl rfl) ?_
                show vP D T N 83 54 g30 [some (2, 17), some (0, 16), some (0, x21)] [(0, 0)] _
                refine v_ret (hi_X6_readCopyCell_54 hT) (Or.inl rfl) ?_
                show vP D T N 87 107 g30 [some (2, 17), some (0, 16)] [(0, 0)] _
                refine v_ret (hi_X6_readStep_107 hT) (Or.inl rfl) ?_
                show vP D T N 88 78 g30 [some (2, 17), some (2, 24), some (0, w), some (0, x), o] [(0, 0)] _
                refine v_if (hi_X6_readText_78 hT) (fun _ => ?_) (fun hc58 => absurd (show (0 : Int) = 0 from (by decide)) hc58)
                refine v_push (0) (hi_X6_readText_85 hT) rfl ?_
                refine v_store1 [some (2, 17), some (2, 24), some (0, w), some (0, x), some (0, 0)] (hi_X6_readText_86 hT) ⟨rfl, Nat.ne_of_beq_eq_false rfl⟩ (Nat.le_of_ble_eq_true rfl) rfl ?_
                refine v_load (v := (0, 0)) (hi_X6_readText_88 hT) rfl rfl ?_
                refine v_if (hi_X6_readText_90 hT) (fun _ => ?_) (fun hc59 => absurd (show (0 : Int) = 0 from (by decide)) hc59)
                refine v_push (0) (hi_X6_readText_103 hT) rfl ?_
                refine v_ret (hi_X6_readText_104 hT) (Or.inl rfl) ?_
                exact er _ _ (by simp only [pStep, hE, hsw, htw, hop, h15, opW15, harg, pNm, (show ¬ 30 ≤ s from by omega), (show ¬ 3 ≤ d from by omega), q22, q25, q30, ne_eq, not_true_eq_false, not_false_eq_true, if_true, if_false, eq_self, eb_l, eb_r, and_true, true_and, and_false, false_and]) c30 (oFr.t (oFr.t (oFr.t (oFr.t (oFr.z (a := 17) (b := 4) (v := (0, ((d : Int) + 1))) (by omega) (oFr.z (a := 23) (b := (((d : Int)).toNat)) (v := (0, z)) (by omega) (oFr.t oFr.rfl ft10))) ft20) ft22) ft25) ft30)
            · show vP D T N 83 32 g26 [some (2, 17), some (0, 16), some (0, x21)] [(0, 0)] _
              refine vP_hv (fun hv26 => ?_)
              refine v_if (hi_X6_readCopyCell_32 hT) (fun _ => ?_) (fun hc60 => absurd (show (0 : Int) = 0 from (by decide)) hc60)
              refine v_push (0) (hi_X6_readCopyCell_35 hT) rfl ?_
              refine v_ret (hi_X6_readCopyCell_36 hT) (Or.inl rfl) ?_
              show vP D T N 87 107 g26 [some (2, 17), some (0, 16)] [(0, 0)] _
              refine v_ret (hi_X6_readStep_107 hT) (Or.inl rfl) ?_
              show vP D T N 88 78 g26 [some (2, 17), some (2, 24), some (0, w), some (0, x), o] [(0, 0)] _
              refine v_if (hi_X6_readText_78 hT) (fun _ => ?_) (fun hc61 => absurd (show (0 : Int) = 0 from (by decide)) hc61)
              refine v_push (0) (hi_X6_readText_85 hT) rfl ?_
              refine v_store1 [some (2, 17), some (2, 24), some (0, w), some (0, x), some (0, 0)] (hi_X6_readText_86 hT) ⟨rfl, Nat.ne_of_beq_eq_false rfl⟩ (Nat.le_of_ble_eq_true rfl) rfl ?_
              refine v_load (v := (0, 0)) (hi_X6_readText_88 hT) rfl rfl ?_
              refine v_if (hi_X6_readText_90 hT) (fun _ => ?_) (fun hc62 => absurd (show (0 : Int) = 0 from (by decide)) hc62)
              refine v_push (0) (hi_X6_readText_103 hT) rfl ?_
              refine v_ret (hi_X6_readText_104 hT) (Or.inl rfl) ?_
              exact er _ _ (by simp only [pStep, hE, hsw, htw, hop, h15, opW15, harg, pNm, (show ¬ 30 ≤ s from by omega), (show ¬ 3 ≤ d from by omega), q22, q26, ne_eq, not_true_eq_false, not_false_eq_true, if_true, if_false, eq_self, eb_l, eb_r, and_true, true_and, and_false, false_and]) c26 (oFr.t (oFr.t (oFr.t (oFr.z (a := 17) (b := 4) (v := (0, ((d : Int) + 1))) (by omega) (oFr.z (a := 23) (b := (((d : Int)).toNat)) (v := (0, z)) (by omega) (oFr.t oFr.rfl ft10))) ft20) ft22) ft26)
          · show vP D T N 83 17 g23 [some (2, 17), some (0, 16), none] [(0, -1)] _
            refine vP_hv (fun hv23 => ?_)
            refine v_store1 [some (2, 17), some (0, 16), some (0, -1)] (hi_X6_readCopyCell_17 hT) ⟨rfl, Nat.ne_of_beq_eq_false rfl⟩ (Nat.le_of_ble_eq_true rfl) rfl ?_
            refine v_load (v := (0, -1)) (hi_X6_readCopyCell_18 hT) rfl rfl ?_
            refine v_push (-1) (hi_X6_readCopyCell_19 hT) rfl ?_
            refine v_ic (hi_X6_readCopyCell_20 hT) (fun _ => ?_) (fun hc63 => absurd (show (-1 : Int) = -1 from (by decide)) hc63)
            refine v_push (0) (hi_X6_readCopyCell_35 hT) rfl ?_
            refine v_ret (hi_X6_readCopyCell_36 hT) (Or.inl rfl) ?_
            show vP D T N 87 107 g23 [some (2, 17), some (0, 16)] [(0, 0)] _
            refine v_ret (hi_X6_readStep_107 hT) (Or.inl rfl) ?_
            show vP D T N 88 78 g23 [some (2, 17), some (2, 24), some (0, w), some (0, x), o] [(0, 0)] _
            refine v_if (hi_X6_readText_78 hT) (fun _ => ?_) (fun hc64 => absurd (show (0 : Int) = 0 from (by decide)) hc64)
            refine v_push (0) (hi_X6_readText_85 hT) rfl ?_
            refine v_store1 [some (2, 17), some (2, 24), some (0, w), some (0, x), some (0, 0)] (hi_X6_readText_86 hT) ⟨rfl, Nat.ne_of_beq_eq_false rfl⟩ (Nat.le_of_ble_eq_true rfl) rfl ?_
            refine v_load (v := (0, 0)) (hi_X6_readText_88 hT) rfl rfl ?_
            refine v_if (hi_X6_readText_90 hT) (fun _ => ?_) (fun hc65 => absurd (show (0 : Int) = 0 from (by decide)) hc65)
            refine v_push (0) (hi_X6_readText_103 hT) rfl ?_
            refine v_ret (hi_X6_readText_104 hT) (Or.inl rfl) ?_
            exact er _ _ (by simp only [pStep, hE, hsw, htw, hop, h15, opW15, harg, pNm, (show ¬ 30 ≤ s from by omega), (show ¬ 3 ≤ d from by omega), q23, ne_eq, not_true_eq_false, not_false_eq_true, if_true, if_false, eq_self, eb_l, eb_r, and_true, true_and, and_false, false_and]) c23 (oFr.t (oFr.t (oFr.z (a := 17) (b := 4) (v := (0, ((d : Int) + 1))) (by omega) (oFr.z (a := 23) (b := (((d : Int)).toNat)) (v := (0, z)) (by omega) (oFr.t oFr.rfl ft10))) ft20) ft23)
    · have hc8 : 3 ≤ (d : Int) := Int.not_lt.mp hc8
      refine v_load (v := (2, 17)) (hi_X6_mayBegin_91 hT) rfl rfl ?_
      refine v_getR (c := 10) (r := 17) (hi_X6_mayBegin_92 hT) rfl rfl rfl ?_
      refine v_push (7) (hi_X6_mayBegin_95 hT) rfl ?_
      refine v_call (w := 2) [some (2, 10), some (0, 7)] hO (hi_X6_mayBegin_97 hT) rfl rfl (cx_blame hT hO 7 hX (fun g66 ft66 c66 => ?_))
      · show vP D T N 81 100 g66 [some (2, 17), some (0, 15), some (0, 1)] [(0, 0)] _
        refine vP_hv (fun hv66 => ?_)
        refine v_ret (hi_X6_mayBegin_100 hT) (Or.inl rfl) ?_
        show vP D T N 88 67 g66 [some (2, 17), some (2, 24), some (0, w), some (0, x), o] [(0, 0)] _
        refine v_if (hi_X6_readText_67 hT) (fun _ => ?_) (fun hc67 => absurd (show (0 : Int) = 0 from (by decide)) hc67)
        refine v_push (0) (hi_X6_readText_85 hT) rfl ?_
        refine v_store1 [some (2, 17), some (2, 24), some (0, w), some (0, x), some (0, 0)] (hi_X6_readText_86 hT) ⟨rfl, Nat.ne_of_beq_eq_false rfl⟩ (Nat.le_of_ble_eq_true rfl) rfl ?_
        refine v_load (v := (0, 0)) (hi_X6_readText_88 hT) rfl rfl ?_
        refine v_if (hi_X6_readText_90 hT) (fun _ => ?_) (fun hc68 => absurd (show (0 : Int) = 0 from (by decide)) hc68)
        refine v_push (0) (hi_X6_readText_103 hT) rfl ?_
        refine v_ret (hi_X6_readText_104 hT) (Or.inl rfl) ?_
        exact er _ _ (by simp only [pStep, hE, hsw, htw, hop, h15, opW15, harg, pNm, (show ¬ 30 ≤ s from by omega), (show 3 ≤ d from by omega), ne_eq, not_true_eq_false, not_false_eq_true, if_true, if_false, eq_self, eb_l, eb_r, and_true, true_and, and_false, false_and]) c66 (oFr.t oFr.rfl ft66)
  · have hc6 : 30 ≤ (s : Int) := Int.not_lt.mp hc6
    refine v_load (v := (2, 17)) (hi_X6_mayBegin_69 hT) rfl rfl ?_
    refine v_getR (c := 10) (r := 17) (hi_X6_mayBegin_70 hT) rfl rfl rfl ?_
    refine v_push (6) (hi_X6_mayBegin_73 hT) rfl ?_
    refine v_call (w := 2) [some (2, 10), some (0, 6)] hO (hi_X6_mayBegin_75 hT) rfl rfl (cx_blame hT hO 6 hX (fun g69 ft69 c69 => ?_))
    · show vP D T N 81 78 g69 [some (2, 17), some (0, 15), some (0, 1)] [(0, 0)] _
      refine vP_hv (fun hv69 => ?_)
      refine v_ret (hi_X6_mayBegin_78 hT) (Or.inl rfl) ?_
      show vP D T N 88 67 g69 [some (2, 17), some (2, 24), some (0, w), some (0, x), o] [(0, 0)] _
      refine v_if (hi_X6_readText_67 hT) (fun _ => ?_) (fun hc70 => absurd (show (0 : Int) = 0 from (by decide)) hc70)
      refine v_push (0) (hi_X6_readText_85 hT) rfl ?_
      refine v_store1 [some (2, 17), some (2, 24), some (0, w), some (0, x), some (0, 0)] (hi_X6_readText_86 hT) ⟨rfl, Nat.ne_of_beq_eq_false rfl⟩ (Nat.le_of_ble_eq_true rfl) rfl ?_
      refine v_load (v := (0, 0)) (hi_X6_readText_88 hT) rfl rfl ?_
      refine v_if (hi_X6_readText_90 hT) (fun _ => ?_) (fun hc71 => absurd (show (0 : Int) = 0 from (by decide)) hc71)
      refine v_push (0) (hi_X6_readText_103 hT) rfl ?_
      refine v_ret (hi_X6_readText_104 hT) (Or.inl rfl) ?_
      exact er _ _ (by simp only [pStep, hE, hsw, htw, hop, h15, opW15, harg, pNm, (show 30 ≤ s from by omega), ne_eq, not_true_eq_false, not_false_eq_true, if_true, if_false, eq_self, eb_l, eb_r, and_true, true_and, and_false, false_and]) c69 (oFr.t oFr.rfl ft69)
theorem co7_15_17_24 {D : zD} {T : zT} (hT : hTab T) (hO : vOK T) {N : Nat} {h : zH} {Q : zR → Prop} {B : Nat → Int} {n m i s d : Nat} {τ P : PT} (w x z : Int) (o : Option zV) (hv0 : zHv h) (hX : cX B n m τ i h) (hK : Tks B n m τ) (hP : cP 24 P h) (hb : (0 ≤ P 0 0 ∧ P 0 0 ≤ 8) ∧ (0 ≤ P 0 1 ∧ P 0 1 ≤ 6) ∧ (0 ≤ P 0 2 ∧ P 0 2 ≤ 3) ∧ (0 ≤ P 0 3 ∧ P 0 3 ≤ 6)) (hl : h 17 2 = (2, 24)) (hs : h 18 1 = (0, (s : Int))) (hd : h 17 4 = (0, (d : Int))) (hz : h 18 0 = (0, z)) (bs : s ≤ 30) (bd : d ≤ 3) (bz : 0 ≤ z) (bzd : z + d ≤ 2 * s) (ho : ∀ e : Nat, e < d → 0 ≤ (h 23 e).2 ∧ (h 23 e).2 < z) (hx : 0 ≤ x ∧ x < 900) (h0 : τ 0 i ≠ 0) (h1 : τ 0 i = 1) (h3 : τ 3 i = 15) (h1b : τ 0 (i + 1) = 1) (h3b : τ 3 (i + 1) = 17) (ih : ∀ g s' d' i' a b z' o' K u v j, pStep τ P s d i = .inr (s', d', i') → cX B n m τ i' g → cP 24 P g → g 17 2 = (2, 24) → g 18 1 = (0, a) → a = (s' : Int) → g 17 4 = (0, b) → b = (d' : Int) → g 18 0 = (0, z') → s' ≤ 30 ∧ d' ≤ 3 ∧ 0 ≤ z' ∧ z' + d' ≤ 2 * s' → (∀ e : Nat, e < d' → 0 ≤ (g 23 e).2 ∧ (g 23 e).2 < z') → oFr h g → z' = z + 1 → pItV τ P i = .inr (K, u, v, j) → oW4 h g z K u v → (∀ e, g 23 e = zset h 23 ((d : Int)).toNat (0, z) 23 e) → vP D T N 88 27 g [some (2, 17), some (2, 24), some (0, w), some (0, (x + 1)), o'] [] Q) (er : ∀ g e, pStep τ P s d i = .inl e → cB e g → oFr h g → Q (g, some (0, 0))) :
    vP D T (N + 1) 88 27 h [some (2, 17), some (2, 24), some (0, w), some (0, x), o] [] Q := by
  have hEn : (bEn τ i) = 0 := bEn_n h0
  have hE : (bW τ 20 i) = 0 := bW_0.mpr (fun c => absurd (h3.symm.trans c.2) (by decide))
  have hsw : ¬ swd τ i < 0 := by rw [swd_v h1, h3]; decide
  have htw : ¬ twd τ (i + 1) < 0 := by rw [twd_v h1b, h3b]; decide
  have hop : opW (τ 3 i) = true := by rw [h3]; rfl
  have h15 : τ 3 i = 15 := h3
  have harg : ∀ j, oArg τ P (τ 3 (i + 1)) j = (eb (pNm τ P j) fun a => .inr a.2) := fun j => by rw [h3b]; rfl
  have hargV : ∀ j, oArV τ P 17 j = (eb (pNm τ P j) fun a => .inr (a.1, 0, a.2)) := fun _ => rfl
  refine v_loadS (v := (0, x)) (hi_X6_readText_27 hT) rfl rfl ?_
  refine v_push (900) (hi_X6_readText_28 hT) rfl ?_
  refine v_ic (hi_X6_readText_31 hT) (fun _ => ?_) (fun hc1 => absurd (show x < 900 from hx.2) hc1)
  refine v_load (v := (2, 17)) (hi_X6_readText_34 hT) rfl rfl ?_
  refine v_getR (c := 10) (r := 17) (hi_X6_readText_35 hT) rfl rfl rfl ?_
  refine v_call (w := 1) [some (2, 10)] hO (hi_X6_readText_38 hT) rfl rfl (cx_isEnd hT hO hX ?_)
  show vP D T N 88 41 h [some (2, 17), some (2, 24), some (0, w), some (0, x), o] [(0, (bEn τ i))] _
  refine v_if (hi_X6_readText_41 hT) (fun _ => ?_) (fun hc2 => absurd (show (bEn τ i) = 0 from hEn) hc2)
  refine v_load (v := (2, 17)) (hi_X6_readText_44 hT) rfl rfl ?_
  refine v_getR (c := 10) (r := 17) (hi_X6_readText_45 hT) rfl rfl rfl ?_
  refine v_push (20) (hi_X6_readText_48 hT) rfl ?_
  refine v_call (w := 2) [some (2, 10), some (0, 20)] hO (hi_X6_readText_50 hT) rfl rfl (cx_isWord hT hO 20 hX ?_)
  show vP D T N 88 53 h [some (2, 17), some (2, 24), some (0, w), some (0, x), o] [(0, (bW τ 20 i))] _
  refine v_if (hi_X6_readText_53 hT) (fun _ => ?_) (fun hc3 => absurd (show (bW τ 20 i) = 0 from hE) hc3)
  refine v_load (v := (2, 17)) (hi_X6_readText_63 hT) rfl rfl ?_
  refine v_call (w := 3) [some (2, 17), none, none] hO (hi_X6_readText_64 hT) rfl rfl ?_
  refine v_load (v := (2, 17)) (hi_X6_mayBegin_0 hT) rfl rfl ?_
  refine v_getR (c := 10) (r := 17) (hi_X6_mayBegin_1 hT) rfl rfl rfl ?_
  refine v_call (w := 1) [some (2, 10)] hO (hi_X6_mayBegin_4 hT) rfl rfl (cx_wordK hT hO 15 hX h1 h3 ?_)
  show vP D T N 81 7 h [some (2, 17), none, none] [(0, 15)] _
  refine v_store1 [some (2, 17), some (0, 15), none] (hi_X6_mayBegin_7 hT) ⟨rfl, Nat.ne_of_beq_eq_false rfl⟩ (Nat.le_of_ble_eq_true rfl) rfl ?_
  refine v_load (v := (0, 15)) (hi_X6_mayBegin_8 hT) rfl rfl ?_
  refine v_push (15) (hi_X6_mayBegin_9 hT) rfl ?_
  refine v_ic (hi_X6_mayBegin_11 hT) (fun _ => ?_) (fun hc4 => absurd (show (15 : Int) = 15 from (by decide)) hc4)
  refine v_push (1) (hi_X6_mayBegin_20 hT) rfl ?_
  refine v_goto (hi_X6_mayBegin_21 hT) ?_
  refine v_store1 [some (2, 17), some (0, 15), some (0, 1)] (hi_X6_mayBegin_25 hT) ⟨rfl, Nat.ne_of_beq_eq_false rfl⟩ (Nat.le_of_ble_eq_true rfl) rfl ?_
  refine v_load (v := (0, 1)) (hi_X6_mayBegin_26 hT) rfl rfl ?_
  refine v_if (hi_X6_mayBegin_27 hT) (fun hc5 => absurd (show (1 : Int) = 0 from hc5) (by decide)) (fun _ => ?_)
  refine v_load (v := (2, 17)) (hi_X6_mayBegin_57 hT) rfl rfl ?_
  refine v_getR (c := 18) (r := 17) (hi_X6_mayBegin_58 hT) rfl rfl rfl ?_
  refine v_getf (v := (0, (s : Int))) (r := 18) (hi_X6_mayBegin_61 hT) rfl rfl (fun _ => hs) ?_
  refine v_push (30) (hi_X6_mayBegin_64 hT) rfl ?_
  refine v_ic (hi_X6_mayBegin_66 hT) (fun hc6 => ?_) (fun hc6 => ?_)
  · have hc6 : (s : Int) < 30 := hc6
    refine v_load (v := (0, 1)) (hi_X6_mayBegin_79 hT) rfl rfl ?_
    refine v_if (hi_X6_mayBegin_80 hT) (fun hc7 => absurd (show (1 : Int) = 0 from hc7) (by decide)) (fun _ => ?_)
    refine v_load (v := (2, 17)) (hi_X6_mayBegin_83 hT) rfl rfl ?_
    refine v_getf (v := (0, (d : Int))) (r := 17) (hi_X6_mayBegin_84 hT) rfl rfl (fun _ => hd) ?_
    refine v_push (3) (hi_X6_mayBegin_87 hT) rfl ?_
    refine v_ic (hi_X6_mayBegin_88 hT) (fun hc8 => ?_) (fun hc8 => ?_)
    · have hc8 : (d : Int) < 3 := hc8
      refine v_push (1) (hi_X6_mayBegin_101 hT) rfl ?_
      refine v_ret (hi_X6_mayBegin_102 hT) (Or.inl rfl) ?_
      show vP D T N 88 67 h [some (2, 17), some (2, 24), some (0, w), some (0, x), o] [(0, 1)] _
      refine v_if (hi_X6_readText_67 hT) (fun hc9 => absurd (show (1 : Int) = 0 from hc9) (by decide)) (fun _ => ?_)
      refine v_load (v := (2, 17)) (hi_X6_readText_70 hT) rfl rfl ?_
      refine v_load (v := (2, 17)) (hi_X6_readText_71 hT) rfl rfl ?_
      refine v_call (w := 3) [some (2, 17), none, none] hO (hi_X6_readText_72 hT) rfl rfl ?_
      refine v_load (v := (2, 17)) (hi_X6_beginStep_0 hT) rfl rfl ?_
      refine v_getR (c := 10) (r := 17) (hi_X6_beginStep_1 hT) rfl rfl rfl ?_
      refine v_call (w := 1) [some (2, 10)] hO (hi_X6_beginStep_4 hT) rfl rfl (cx_wordK hT hO 15 hX h1 h3 ?_)
      show vP D T N 80 7 h [some (2, 17), none, none] [(0, 15)] _
      refine v_store1 [some (2, 17), some (0, 15), none] (hi_X6_beginStep_7 hT) ⟨rfl, Nat.ne_of_beq_eq_false rfl⟩ (Nat.le_of_ble_eq_true rfl) rfl ?_
      refine v_load (v := (2, 17)) (hi_X6_beginStep_8 hT) rfl rfl ?_
      refine v_getR (c := 10) (r := 17) (hi_X6_beginStep_9 hT) rfl rfl rfl ?_
      refine v_call (w := 1) [some (2, 10)] hO (hi_X6_beginStep_12 hT) rfl rfl (cx_adv hT hO hX (ne_10 h1) (ne_14 h1) (fun g10 ft10 hX10 => ?_))
      · show vP D T N 80 15 g10 [some (2, 17), some (0, 15), none] [] _
        refine vP_hv (fun hv10 => ?_)
        refine v_load (v := (0, 15)) (hi_X6_beginStep_15 hT) rfl rfl ?_
        refine v_push (15) (hi_X6_beginStep_16 hT) rfl ?_
        refine v_ic (hi_X6_beginStep_18 hT) (fun _ => ?_) (fun hc11 => absurd (show (15 : Int) = 15 from (by decide)) hc11)
        refine v_load (v := (2, 17)) (hi_X6_beginStep_27 hT) rfl rfl ?_
        refine v_getf (v := (0, (d : Int))) (r := 17) (hi_X6_beginStep_28 hT) rfl rfl (fun _ => (Eq.trans (ft10 17 4 (by first | decide | exact fun c => by omega)) hd)) ?_
        refine v_push (3) (hi_X6_beginStep_31 hT) rfl ?_
        refine v_ic (hi_X6_beginStep_32 hT) (fun _ => ?_) (fun hc12 => absurd (show (d : Int) < 3 from hc8) hc12)
        refine v_load (v := (2, 17)) (hi_X6_beginStep_35 hT) rfl rfl ?_
        refine v_getR (c := 23) (r := 17) (hi_X6_beginStep_36 hT) rfl rfl rfl ?_
        refine v_load (v := (2, 17)) (hi_X6_beginStep_39 hT) rfl rfl ?_
        refine v_getf (v := (0, (d : Int))) (r := 17) (hi_X6_beginStep_40 hT) rfl rfl (fun _ => (Eq.trans (ft10 17 4 (by first | decide | exact fun c => by omega)) hd)) ?_
        refine v_load (v := (2, 17)) (hi_X6_beginStep_43 hT) rfl rfl ?_
        refine v_getR (c := 18) (r := 17) (hi_X6_beginStep_44 hT) rfl rfl rfl ?_
        refine v_getf (v := (0, z)) (r := 18) (hi_X6_beginStep_47 hT) rfl rfl (fun _ => (Eq.trans (ft10 18 0 (by first | decide | exact fun c => by omega)) hz)) ?_
        refine v_ast (r := 23) (hi_X6_beginStep_50 hT) rfl rfl (fun ha13 hb14 hf15 => ?_)
        refine v_load (v := (2, 17)) (hi_X6_beginStep_51 hT) rfl rfl ?_
        refine v_dup (hi_X6_beginStep_52 hT) (Nat.ne_of_beq_eq_false rfl) ?_
        refine v_getf (v := (0, (d : Int))) (r := 17) (hi_X6_beginStep_53 hT) rfl rfl (fun _ => Eq.trans (zset_ne (fun c => absurd c.1 (by decide))) ((Eq.trans (ft10 17 4 (by first | decide | exact fun c => by omega)) hd))) ?_
        refine v_push (1) (hi_X6_beginStep_56 hT) rfl ?_
        refine v_bin (w := ((d : Int) + 1)) (hi_X6_beginStep_57 hT) (hq_add (by omega) (by omega)) ?_
        refine v_putf (r := 17) hO (hi_X6_beginStep_58 hT) rfl (fun hf16 => ?_)
        refine v_load (v := (0, 15)) (hi_X6_beginStep_61 hT) rfl rfl ?_
        refine v_push (15) (hi_X6_beginStep_62 hT) rfl ?_
        refine v_ic (hi_X6_beginStep_64 hT) (fun _ => ?_) (fun hc17 => absurd (show (15 : Int) = 15 from (by decide)) hc17)
        refine v_load (v := (2, 17)) (hi_X6_beginStep_69 hT) rfl rfl ?_
        refine v_getR (c := 10) (r := 17) (hi_X6_beginStep_70 hT) rfl rfl rfl ?_
        refine v_call (w := 1) [some (2, 10)] hO (hi_X6_beginStep_73 hT) rfl rfl (cx_wordK hT hO 17 (cX.z (r := 17) (k := 4) (v := (0, ((d : Int) + 1))) (by decide) (cX.z (r := 23) (k := (((d : Int)).toNat)) (v := (0, z)) (by decide) hX10)) h1b h3b ?_)
        show vP D T N 80 76 (zset (zset g10 23 (((d : Int)).toNat) (0, z)) 17 4 (0, ((d : Int) + 1))) [some (2, 17), some (0, 15), none] [(0, 17)] _
        refine v_store1 [some (2, 17), some (0, 15), some (0, 17)] (hi_X6_beginStep_76 hT) ⟨rfl, Nat.ne_of_beq_eq_false rfl⟩ (Nat.le_of_ble_eq_true rfl) rfl ?_
        refine v_load (v := (0, 17)) (hi_X6_beginStep_77 hT) rfl rfl ?_
        refine v_push (16) (hi_X6_beginStep_78 hT) rfl ?_
        refine v_ic (hi_X6_beginStep_80 hT) (fun hc18 => absurd (show (17 : Int) < 16 from hc18) (by decide)) (fun _ => ?_)
        refine v_load (v := (0, 17)) (hi_X6_beginStep_83 hT) rfl rfl ?_
        refine v_push (18) (hi_X6_beginStep_84 hT) rfl ?_
        refine v_ic (hi_X6_beginStep_86 hT) (fun hc19 => absurd (show 18 < (17 : Int) from hc19) (by decide)) (fun _ => ?_)
        refine v_load (v := (2, 17)) (hi_X6_beginStep_100 hT) rfl rfl ?_
        refine v_getR (c := 10) (r := 17) (hi_X6_beginStep_101 hT) rfl rfl rfl ?_
        refine v_call (w := 1) [some (2, 10)] hO (hi_X6_beginStep_104 hT) rfl rfl (cx_adv hT hO (cX.z (r := 17) (k := 4) (v := (0, ((d : Int) + 1))) (by decide) (cX.z (r := 23) (k := (((d : Int)).toNat)) (v := (0, z)) (by decide) hX10)) (ne_10 h1b) (ne_14 h1b) (fun g20 ft20 hX20 => ?_))
        · show vP D T N 80 107 g20 [some (2, 17), some (0, 15), some (0, 17)] [] _
          refine vP_hv (fun hv20 => ?_)
          refine v_load (v := (0, 17)) (hi_X6_beginStep_107 hT) rfl rfl ?_
          refine v_ret (hi_X6_beginStep_108 hT) (Or.inl rfl) ?_
          show vP D T N 88 75 g20 [some (2, 17), some (2, 24), some (0, w), some (0, x), o] [(0, 17), (2, 17)] _
          refine v_call (w := 2) [some (2, 17), some (0, 17)] hO (hi_X6_readText_75 hT) rfl rfl ?_
          refine v_load (v := (0, 17)) (hi_X6_readStep_0 hT) rfl rfl ?_
          refine v_sw (hi_X6_readStep_1 hT) ?_
          refine ⟨fun c => absurd c (by decide), fun _ => ?_⟩
          refine ⟨fun c => absurd c (by decide), fun _ => ?_⟩
          refine ⟨fun c => absurd c (by decide), fun _ => ?_⟩
          refine ⟨fun c => absurd c (by decide), fun _ => ?_⟩
          refine ⟨fun c => absurd c (by decide), fun _ => ?_⟩
          refine ⟨fun c => absurd c (by decide), fun _ => ?_⟩
          refine ⟨fun c => absurd c (by decide), fun _ => ?_⟩
          refine ⟨fun c => absurd c (by decide), fun _ => ?_⟩
          refine ⟨fun c => absurd c (by decide), fun _ => ?_⟩
          refine ⟨fun c => absurd c (by decide), fun _ => ?_⟩
          refine ⟨fun c => absurd c (by decide), fun _ => ?_⟩
          refine ⟨fun c => absurd c (by decide), fun _ => ?_⟩
          refine ⟨fun c => absurd c (by decide), fun _ => ?_⟩
          refine ⟨fun c => absurd c (by decide), fun _ => ?_⟩
          refine ⟨fun c => absurd c (by decide), fun _ => ?_⟩
          refine ⟨fun c => absurd c (by decide), fun _ => ?_⟩
          refine ⟨fun c => absurd c (by decide), fun _ => ?_⟩
          refine ⟨fun c => absurd c (by decide), fun _ => ?_⟩
          refine ⟨fun _ => ?_, fun c => absurd rfl c⟩
          refine v_load (v := (2, 17)) (hi_X6_readStep_158 hT) rfl rfl ?_
          refine v_load (v := (0, 17)) (hi_X6_readStep_159 hT) rfl rfl ?_
          refine v_call (w := 3) [some (2, 17), some (0, 17), none] hO (hi_X6_readStep_160 hT) rfl rfl ?_
          refine v_load (v := (2, 17)) (hi_X6_readName_0 hT) rfl rfl ?_
          refine v_getR (c := 10) (r := 17) (hi_X6_readName_1 hT) rfl rfl rfl ?_
          refine v_call (w := 1) [some (2, 10)] hO (hi_X6_readName_4 hT) rfl rfl (cx_isName hT hO hX20 hK ?_)
          show vP D T N 86 7 g20 [some (2, 17), some (0, 17), none] [(0, (bN τ (i + 1 + 1)))] _
          refine v_if (hi_X6_readName_7 hT) (fun hc21 => ?_) (fun hc21 => ?_)
          · have hc21 : (bN τ (i + 1 + 1)) = 0 := hc21
            refine v_load (v := (2, 17)) (hi_X6_readName_10 hT) rfl rfl ?_
            refine v_getR (c := 10) (r := 17) (hi_X6_readName_11 hT) rfl rfl rfl ?_
            refine v_push (2) (hi_X6_readName_14 hT) rfl ?_
            refine v_call (w := 2) [some (2, 10), some (0, 2)] hO (hi_X6_readName_15 hT) rfl rfl (cx_blame hT hO 2 hX20 (fun g22 ft22 c22 => ?_))
            · show vP D T N 86 18 g22 [some (2, 17), some (0, 17), none] [(0, 0)] _
              refine vP_hv (fun hv22 => ?_)
              refine v_ret (hi_X6_readName_18 hT) (Or.inl rfl) ?_
              show vP D T N 87 163 g22 [some (2, 17), some (0, 17)] [(0, 0)] _
              refine v_ret (hi_X6_readStep_163 hT) (Or.inl rfl) ?_
              show vP D T N 88 78 g22 [some (2, 17), some (2, 24), some (0, w), some (0, x), o] [(0, 0)] _
              refine v_if (hi_X6_readText_78 hT) (fun _ => ?_) (fun hc23 => absurd (show (0 : Int) = 0 from (by decide)) hc23)
              refine v_push (0) (hi_X6_readText_85 hT) rfl ?_
              refine v_store1 [some (2, 17), some (2, 24), some (0, w), some (0, x), some (0, 0)] (hi_X6_readText_86 hT) ⟨rfl, Nat.ne_of_beq_eq_false rfl⟩ (Nat.le_of_ble_eq_true rfl) rfl ?_
              refine v_load (v := (0, 0)) (hi_X6_readText_88 hT) rfl rfl ?_
              refine v_if (hi_X6_readText_90 hT) (fun _ => ?_) (fun hc24 => absurd (show (0 : Int) = 0 from (by decide)) hc24)
              refine v_push (0) (hi_X6_readText_103 hT) rfl ?_
              refine v_ret (hi_X6_readText_104 hT) (Or.inl rfl) ?_
              exact er _ _ (by simp only [pStep, hE, hsw, htw, hop, h15, opW15, harg, pNm, (show ¬ 30 ≤ s from by omega), (show ¬ 3 ≤ d from by omega), hc21, ne_eq, not_true_eq_false, not_false_eq_true, if_true, if_false, eq_self, eb_l, eb_r, and_true, true_and, and_false, false_and]) c22 (oFr.t (oFr.t (oFr.z (a := 17) (b := 4) (v := (0, ((d : Int) + 1))) (by omega) (oFr.z (a := 23) (b := (((d : Int)).toNat)) (v := (0, z)) (by omega) (oFr.t oFr.rfl ft10))) ft20) ft22)
          · have hc21 : (bN τ (i + 1 + 1)) ≠ 0 := hc21
            refine v_load (v := (2, 17)) (hi_X6_readName_19 hT) rfl rfl ?_
            refine v_getf (v := (2, 24)) (r := 17) (hi_X6_readName_20 hT) rfl rfl (fun _ => (Eq.trans (ft20 17 2 (by first | decide | exact fun c => by omega)) (Eq.trans (Eq.trans (zset_ne (fun c => absurd c.2 (by decide))) (zset_ne (fun c => absurd c.1 (by decide)))) ((Eq.trans (ft10 17 2 (by first | decide | exact fun c => by omega)) hl))))) ?_
            refine v_load (v := (2, 17)) (hi_X6_readName_23 hT) rfl rfl ?_
            refine v_getR (c := 10) (r := 17) (hi_X6_readName_24 hT) rfl rfl rfl ?_
            refine v_call (w := 4) [some (2, 10), none, none, none] hO (hi_X6_readName_27 hT) rfl rfl (cx_name hT hO hX20 hK hc21 ?_)
            show vP D T N 86 30 g20 [some (2, 17), some (0, 17), none] [(1, (τ 4 (i + 1 + 1))), (2, 24)] _
            refine v_call (w := 4) [some (2, 24), some (1, (τ 4 (i + 1 + 1))), none, none] hO (hi_X6_readName_30 hT) rfl rfl (cx_named_24 hT hO ((τ 4 (i + 1 + 1))) ((cP.z (a := 17) (b := 4) (v := (0, ((d : Int) + 1))) (by decide) (cP.z (a := 23) (b := (((d : Int)).toNat)) (v := (0, z)) (by decide) (hP.tf ft10))).tf ft20) (by omega) ?_)
            show vP D T N 86 33 g20 [some (2, 17), some (0, 17), none] [(0, (pIx (P 4) ((τ 4 (i + 1 + 1))) (P 0 3).toNat 0))] _
            refine v_store1 [some (2, 17), some (0, 17), some (0, (pIx (P 4) ((τ 4 (i + 1 + 1))) (P 0 3).toNat 0))] (hi_X6_readName_33 hT) ⟨rfl, Nat.ne_of_beq_eq_false rfl⟩ (Nat.le_of_ble_eq_true rfl) rfl ?_
            refine v_load (v := (0, (pIx (P 4) ((τ 4 (i + 1 + 1))) (P 0 3).toNat 0))) (hi_X6_readName_34 hT) rfl rfl ?_
            refine v_push (-1) (hi_X6_readName_35 hT) rfl ?_
            refine v_ic (hi_X6_readName_36 hT) (fun hc25 => ?_) (fun hc25 => ?_)
            · have hc25 : (pIx (P 4) ((τ 4 (i + 1 + 1))) (P 0 3).toNat 0) = -1 := hc25
              refine v_load (v := (2, 17)) (hi_X6_readName_39 hT) rfl rfl ?_
              refine v_getR (c := 10) (r := 17) (hi_X6_readName_40 hT) rfl rfl rfl ?_
              refine v_push (3) (hi_X6_readName_43 hT) rfl ?_
              refine v_call (w := 2) [some (2, 10), some (0, 3)] hO (hi_X6_readName_44 hT) rfl rfl (cx_blame hT hO 3 hX20 (fun g26 ft26 c26 => ?_))
              · show vP D T N 86 47 g26 [some (2, 17), some (0, 17), some (0, (pIx (P 4) ((τ 4 (i + 1 + 1))) (P 0 3).toNat 0))] [(0, 0)] _
                refine vP_hv (fun hv26 => ?_)
                refine v_ret (hi_X6_readName_47 hT) (Or.inl rfl) ?_
                show vP D T N 87 163 g26 [some (2, 17), some (0, 17)] [(0, 0)] _
                refine v_ret (hi_X6_readStep_163 hT) (Or.inl rfl) ?_
                show vP D T N 88 78 g26 [some (2, 17), some (2, 24), some (0, w), some (0, x), o] [(0, 0)] _
                refine v_if (hi_X6_readText_78 hT) (fun _ => ?_) (fun hc27 => absurd (show (0 : Int) = 0 from (by decide)) hc27)
                refine v_push (0) (hi_X6_readText_85 hT) rfl ?_
                refine v_store1 [some (2, 17), some (2, 24), some (0, w), some (0, x), some (0, 0)] (hi_X6_readText_86 hT) ⟨rfl, Nat.ne_of_beq_eq_false rfl⟩ (Nat.le_of_ble_eq_true rfl) rfl ?_
                refine v_load (v := (0, 0)) (hi_X6_readText_88 hT) rfl rfl ?_
                refine v_if (hi_X6_readText_90 hT) (fun _ => ?_) (fun hc28 => absurd (show (0 : Int) = 0 from (by decide)) hc28)
                refine v_push (0) (hi_X6_readText_103 hT) rfl ?_
                refine v_ret (hi_X6_readText_104 hT) (Or.inl rfl) ?_
                exact er _ _ (by simp only [pStep, hE, hsw, htw, hop, h15, opW15, harg, pNm, (show ¬ 30 ≤ s from by omega), (show ¬ 3 ≤ d from by omega), hc21, hc25, ne_eq, not_true_eq_false, not_false_eq_true, if_true, if_false, eq_self, eb_l, eb_r, and_true, true_and, and_false, false_and]) c26 (oFr.t (oFr.t (oFr.z (a := 17) (b := 4) (v := (0, ((d : Int) + 1))) (by omega) (oFr.z (a := 23) (b := (((d : Int)).toNat)) (v := (0, z)) (by omega) (oFr.t oFr.rfl ft10))) ft20) ft26)
            · have hc25 : (pIx (P 4) ((τ 4 (i + 1 + 1))) (P 0 3).toNat 0) ≠ -1 := hc25
              refine v_load (v := (2, 17)) (hi_X6_readName_48 hT) rfl rfl ?_
              refine v_getR (c := 10) (r := 17) (hi_X6_readName_49 hT) rfl rfl rfl ?_
              refine v_call (w := 1) [some (2, 10)] hO (hi_X6_readName_52 hT) rfl rfl (cx_adv hT hO hX20 (ne_10 (bN_y.mp hc21).1) (ne_14 (bN_y.mp hc21).1) (fun g29 ft29 hX29 => ?_))
              · show vP D T N 86 55 g29 [some (2, 17), some (0, 17), some (0, (pIx (P 4) ((τ 4 (i + 1 + 1))) (P 0 3).toNat 0))] [] _
                refine vP_hv (fun hv29 => ?_)
                refine v_load (v := (2, 17)) (hi_X6_readName_55 hT) rfl rfl ?_
                refine v_getR (c := 18) (r := 17) (hi_X6_readName_56 hT) rfl rfl rfl ?_
                refine v_load (v := (0, 17)) (hi_X6_readName_59 hT) rfl rfl ?_
                refine v_load (v := (0, (pIx (P 4) ((τ 4 (i + 1 + 1))) (P 0 3).toNat 0))) (hi_X6_readName_60 hT) rfl rfl ?_
                refine v_push (0) (hi_X6_readName_61 hT) rfl ?_
                refine v_call (w := 4) [some (2, 18), some (0, 17), some (0, (pIx (P 4) ((τ 4 (i + 1 + 1))) (P 0 3).toNat 0)), some (0, 0)] hO (hi_X6_readName_62 hT) rfl rfl ?_
                refine v_load (v := (2, 18)) (hi_X5_add_0 hT) rfl rfl ?_
                refine v_getf (v := (0, z)) (r := 18) (hi_X5_add_1 hT) rfl rfl (fun _ => (Eq.trans (ft29 18 0 (by first | decide | exact fun c => by omega)) (Eq.trans (ft20 18 0 (by first | decide | exact fun c => by omega)) (Eq.trans (Eq.trans (zset_ne (fun c => absurd c.1 (by decide))) (zset_ne (fun c => absurd c.1 (by decide)))) ((Eq.trans (ft10 18 0 (by first | decide | exact fun c => by omega)) hz)))))) ?_
                refine v_if (hi_X5_add_4 hT) (fun hc30 => absurd (show z < 0 from hc30) (by omega)) (fun _ => ?_)
                refine v_load (v := (2, 18)) (hi_X5_add_7 hT) rfl rfl ?_
                refine v_getf (v := (0, z)) (r := 18) (hi_X5_add_8 hT) rfl rfl (fun _ => (Eq.trans (ft29 18 0 (by first | decide | exact fun c => by omega)) (Eq.trans (ft20 18 0 (by first | decide | exact fun c => by omega)) (Eq.trans (Eq.trans (zset_ne (fun c => absurd c.1 (by decide))) (zset_ne (fun c => absurd c.1 (by decide)))) ((Eq.trans (ft10 18 0 (by first | decide | exact fun c => by omega)) hz)))))) ?_
                refine v_push (60) (hi_X5_add_11 hT) rfl ?_
                refine v_ic (hi_X5_add_13 hT) (fun _ => ?_) (fun hc31 => absurd (show z < 60 from (by omega)) hc31)
                refine v_load (v := (2, 18)) (hi_X5_add_18 hT) rfl rfl ?_
                refine v_getR (c := 19) (r := 18) (hi_X5_add_19 hT) rfl rfl rfl ?_
                refine v_load (v := (2, 18)) (hi_X5_add_22 hT) rfl rfl ?_
                refine v_getf (v := (0, z)) (r := 18) (hi_X5_add_23 hT) rfl rfl (fun _ => (Eq.trans (ft29 18 0 (by first | decide | exact fun c => by omega)) (Eq.trans (ft20 18 0 (by first | decide | exact fun c => by omega)) (Eq.trans (Eq.trans (zset_ne (fun c => absurd c.1 (by decide))) (zset_ne (fun c => absurd c.1 (by decide)))) ((Eq.trans (ft10 18 0 (by first | decide | exact fun c => by omega)) hz)))))) ?_
                refine v_load (v := (0, 17)) (hi_X5_add_26 hT) rfl rfl ?_
                refine v_ast (r := 19) (hi_X5_add_27 hT) rfl rfl (fun ha32 hb33 hf34 => ?_)
                refine v_load (v := (2, 18)) (hi_X5_add_28 hT) rfl rfl ?_
                refine v_getR (c := 20) (r := 18) (hi_X5_add_29 hT) rfl rfl rfl ?_
                refine v_load (v := (2, 18)) (hi_X5_add_32 hT) rfl rfl ?_
                refine v_getf (v := (0, z)) (r := 18) (hi_X5_add_33 hT) rfl rfl (fun _ => Eq.trans (zset_ne (fun c => absurd c.1 (by decide))) ((Eq.trans (ft29 18 0 (by first | decide | exact fun c => by omega)) (Eq.trans (ft20 18 0 (by first | decide | exact fun c => by omega)) (Eq.trans (Eq.trans (zset_ne (fun c => absurd c.1 (by decide))) (zset_ne (fun c => absurd c.1 (by decide)))) ((Eq.trans (ft10 18 0 (by first | decide | exact fun c => by omega)) hz))))))) ?_
                refine v_load (v := (0, (pIx (P 4) ((τ 4 (i + 1 + 1))) (P 0 3).toNat 0))) (hi_X5_add_36 hT) rfl rfl ?_
                refine v_ast (r := 20) (hi_X5_add_37 hT) rfl rfl (fun ha35 hb36 hf37 => ?_)
                refine v_load (v := (2, 18)) (hi_X5_add_38 hT) rfl rfl ?_
                refine v_getR (c := 21) (r := 18) (hi_X5_add_39 hT) rfl rfl rfl ?_
                refine v_load (v := (2, 18)) (hi_X5_add_42 hT) rfl rfl ?_
                refine v_getf (v := (0, z)) (r := 18) (hi_X5_add_43 hT) rfl rfl (fun _ => Eq.trans (Eq.trans (zset_ne (fun c => absurd c.1 (by decide))) (zset_ne (fun c => absurd c.1 (by decide)))) ((Eq.trans (ft29 18 0 (by first | decide | exact fun c => by omega)) (Eq.trans (ft20 18 0 (by first | decide | exact fun c => by omega)) (Eq.trans (Eq.trans (zset_ne (fun c => absurd c.1 (by decide))) (zset_ne (fun c => absurd c.1 (by decide)))) ((Eq.trans (ft10 18 0 (by first | decide | exact fun c => by omega)) hz))))))) ?_
                refine v_load (v := (0, 0)) (hi_X5_add_46 hT) rfl rfl ?_
                refine v_ast (r := 21) (hi_X5_add_47 hT) rfl rfl (fun ha38 hb39 hf40 => ?_)
                refine v_load (v := (2, 18)) (hi_X5_add_48 hT) rfl rfl ?_
                refine v_getR (c := 22) (r := 18) (hi_X5_add_49 hT) rfl rfl rfl ?_
                refine v_load (v := (2, 18)) (hi_X5_add_52 hT) rfl rfl ?_
                refine v_getf (v := (0, z)) (r := 18) (hi_X5_add_53 hT) rfl rfl (fun _ => Eq.trans (Eq.trans (zset_ne (fun c => absurd c.1 (by decide))) (Eq.trans (zset_ne (fun c => absurd c.1 (by decide))) (zset_ne (fun c => absurd c.1 (by decide))))) ((Eq.trans (ft29 18 0 (by first | decide | exact fun c => by omega)) (Eq.trans (ft20 18 0 (by first | decide | exact fun c => by omega)) (Eq.trans (Eq.trans (zset_ne (fun c => absurd c.1 (by decide))) (zset_ne (fun c => absurd c.1 (by decide)))) ((Eq.trans (ft10 18 0 (by first | decide | exact fun c => by omega)) hz))))))) ?_
                refine v_push (-1) (hi_X5_add_56 hT) rfl ?_
                refine v_ast (r := 22) (hi_X5_add_57 hT) rfl rfl (fun ha41 hb42 hf43 => ?_)
                refine v_load (v := (2, 18)) (hi_X5_add_58 hT) rfl rfl ?_
                refine v_dup (hi_X5_add_59 hT) (Nat.ne_of_beq_eq_false rfl) ?_
                refine v_getf (v := (0, z)) (r := 18) (hi_X5_add_60 hT) rfl rfl (fun _ => Eq.trans (Eq.trans (zset_ne (fun c => absurd c.1 (by decide))) (Eq.trans (zset_ne (fun c => absurd c.1 (by decide))) (Eq.trans (zset_ne (fun c => absurd c.1 (by decide))) (zset_ne (fun c => absurd c.1 (by decide)))))) ((Eq.trans (ft29 18 0 (by first | decide | exact fun c => by omega)) (Eq.trans (ft20 18 0 (by first | decide | exact fun c => by omega)) (Eq.trans (Eq.trans (zset_ne (fun c => absurd c.1 (by decide))) (zset_ne (fun c => absurd c.1 (by decide)))) ((Eq.trans (ft10 18 0 (by first | decide | exact fun c => by omega)) hz))))))) ?_
                refine v_push (1) (hi_X5_add_63 hT) rfl ?_
                refine v_bin (w := (z + 1)) (hi_X5_add_64 hT) (hq_add (by omega) (by omega)) ?_
                refine v_putf (r := 18) hO (hi_X5_add_65 hT) rfl (fun hf44 => ?_)
                refine v_load (v := (2, 18)) (hi_X5_add_68 hT) rfl rfl ?_
                refine v_dup (hi_X5_add_69 hT) (Nat.ne_of_beq_eq_false rfl) ?_
                refine v_getf (v := (0, (s : Int))) (r := 18) (hi_X5_add_70 hT) rfl rfl (fun _ => Eq.trans (Eq.trans (zset_ne (fun c => absurd c.2 (by decide))) (Eq.trans (zset_ne (fun c => absurd c.1 (by decide))) (Eq.trans (zset_ne (fun c => absurd c.1 (by decide))) (Eq.trans (zset_ne (fun c => absurd c.1 (by decide))) (zset_ne (fun c => absurd c.1 (by decide))))))) ((Eq.trans (ft29 18 1 (by first | decide | exact fun c => by omega)) (Eq.trans (ft20 18 1 (by first | decide | exact fun c => by omega)) (Eq.trans (Eq.trans (zset_ne (fun c => absurd c.1 (by decide))) (zset_ne (fun c => absurd c.1 (by decide)))) ((Eq.trans (ft10 18 1 (by first | decide | exact fun c => by omega)) hs))))))) ?_
                refine v_push (1) (hi_X5_add_73 hT) rfl ?_
                refine v_bin (w := ((s : Int) + 1)) (hi_X5_add_74 hT) (hq_add (by omega) (by omega)) ?_
                refine v_putf (r := 18) hO (hi_X5_add_75 hT) rfl (fun hf45 => ?_)
                refine v_push (1) (hi_X5_add_78 hT) rfl ?_
                refine v_ret (hi_X5_add_79 hT) (Or.inl rfl) ?_
                show vP D T N 86 65 (zset (zset (zset (zset (zset (zset g29 19 z.toNat (0, 17)) 20 z.toNat (0, (pIx (P 4) ((τ 4 (i + 1 + 1))) (P 0 3).toNat 0))) 21 z.toNat (0, 0)) 22 z.toNat (0, -1)) 18 0 (0, (z + 1))) 18 1 (0, ((s : Int) + 1))) [some (2, 17), some (0, 17), some (0, (pIx (P 4) ((τ 4 (i + 1 + 1))) (P 0 3).toNat 0))] [(0, 1)] _
                refine v_ret (hi_X6_readName_65 hT) (Or.inl rfl) ?_
                show vP D T N 87 163 (zset (zset (zset (zset (zset (zset g29 19 z.toNat (0, 17)) 20 z.toNat (0, (pIx (P 4) ((τ 4 (i + 1 + 1))) (P 0 3).toNat 0))) 21 z.toNat (0, 0)) 22 z.toNat (0, -1)) 18 0 (0, (z + 1))) 18 1 (0, ((s : Int) + 1))) [some (2, 17), some (0, 17)] [(0, 1)] _
                refine v_ret (hi_X6_readStep_163 hT) (Or.inl rfl) ?_
                show vP D T N 88 78 (zset (zset (zset (zset (zset (zset g29 19 z.toNat (0, 17)) 20 z.toNat (0, (pIx (P 4) ((τ 4 (i + 1 + 1))) (P 0 3).toNat 0))) 21 z.toNat (0, 0)) 22 z.toNat (0, -1)) 18 0 (0, (z + 1))) 18 1 (0, ((s : Int) + 1))) [some (2, 17), some (2, 24), some (0, w), some (0, x), o] [(0, 1)] _
                refine v_if (hi_X6_readText_78 hT) (fun hc46 => absurd (show (1 : Int) = 0 from hc46) (by decide)) (fun _ => ?_)
                refine v_push (1) (hi_X6_readText_81 hT) rfl ?_
                refine v_goto (hi_X6_readText_82 hT) ?_
                refine v_store1 [some (2, 17), some (2, 24), some (0, w), some (0, x), some (0, 1)] (hi_X6_readText_86 hT) ⟨rfl, Nat.ne_of_beq_eq_false rfl⟩ (Nat.le_of_ble_eq_true rfl) rfl ?_
                refine v_load (v := (0, 1)) (hi_X6_readText_88 hT) rfl rfl ?_
                refine v_if (hi_X6_readText_90 hT) (fun hc47 => absurd (show (1 : Int) = 0 from hc47) (by decide)) (fun _ => ?_)
                refine v_load (v := (2, 17)) (hi_X6_readText_93 hT) rfl rfl ?_
                refine v_getR (c := 10) (r := 17) (hi_X6_readText_94 hT) rfl rfl rfl ?_
                refine v_call (w := 1) [some (2, 10)] hO (hi_X6_readText_97 hT) rfl rfl (cx_stop hT hO (cX.z (r := 18) (k := 1) (v := (0, ((s : Int) + 1))) (by decide) (cX.z (r := 18) (k := 0) (v := (0, (z + 1))) (by decide) (cX.z (r := 22) (k := z.toNat) (v := (0, -1)) (by decide) (cX.z (r := 21) (k := z.toNat) (v := (0, 0)) (by decide) (cX.z (r := 20) (k := z.toNat) (v := (0, (pIx (P 4) ((τ 4 (i + 1 + 1))) (P 0 3).toNat 0))) (by decide) (cX.z (r := 19) (k := z.toNat) (v := (0, 17)) (by decide) hX29)))))) (fun g48 ft48 q48 hX48 => ?_) (fun g49 e49 ft49 q49 c49 => ?_))
                · show vP D T N 88 100 g48 [some (2, 17), some (2, 24), some (0, w), some (0, x), some (0, 1)] [(0, 1)] _
                  refine vP_hv (fun hv48 => ?_)
                  refine v_if (hi_X6_readText_100 hT) (fun hc50 => absurd (show (1 : Int) = 0 from hc50) (by decide)) (fun _ => ?_)
                  refine v_iinc (x := x) (u := 1) (w := (x + 1)) [some (2, 17), some (2, 24), some (0, w), some (0, (x + 1)), some (0, 1)] (hi_X6_readText_105 hT) rfl rfl (Nat.le_of_ble_eq_true rfl) (vz_inc (by omega) (by omega)) rfl ?_
                  refine v_goto (hi_X6_readText_108 hT) ?_
                  exact ih g48 (s + 1) (d + 1) (i + 1 + 1 + 1 + 1) _ _ _ (some (0, 1)) 17 ((pIx (P 4) ((τ 4 (i + 1 + 1))) (P 0 3).toNat 0)) 0 (i + 1 + 1 + 1) (by simp only [pStep, hE, hsw, htw, hop, h15, opW15, harg, pNm, (show ¬ 30 ≤ s from by omega), (show ¬ 3 ≤ d from by omega), hc21, hc25, q48, ne_eq, not_true_eq_false, not_false_eq_true, if_true, if_false, eq_self, eb_l, eb_r, and_true, true_and, and_false, false_and]) hX48 ((cP.z (a := 18) (b := 1) (v := (0, ((s : Int) + 1))) (by decide) (cP.z (a := 18) (b := 0) (v := (0, (z + 1))) (by decide) (cP.z (a := 22) (b := z.toNat) (v := (0, -1)) (by decide) (cP.z (a := 21) (b := z.toNat) (v := (0, 0)) (by decide) (cP.z (a := 20) (b := z.toNat) (v := (0, (pIx (P 4) ((τ 4 (i + 1 + 1))) (P 0 3).toNat 0))) (by decide) (cP.z (a := 19) (b := z.toNat) (v := (0, 17)) (by decide) (((cP.z (a := 17) (b := 4) (v := (0, ((d : Int) + 1))) (by decide) (cP.z (a := 23) (b := (((d : Int)).toNat)) (v := (0, z)) (by decide) (hP.tf ft10))).tf ft20).tf ft29))))))).tf ft48) (Eq.trans (ft48 17 2 (by first | decide | exact fun c => by omega)) (Eq.trans (Eq.trans (zset_ne (fun c => absurd c.1 (by decide))) (Eq.trans (zset_ne (fun c => absurd c.1 (by decide))) (Eq.trans (zset_ne (fun c => absurd c.1 (by decide))) (Eq.trans (zset_ne (fun c => absurd c.1 (by decide))) (Eq.trans (zset_ne (fun c => absurd c.1 (by decide))) (zset_ne (fun c => absurd c.1 (by decide)))))))) ((Eq.trans (ft29 17 2 (by first | decide | exact fun c => by omega)) (Eq.trans (ft20 17 2 (by first | decide | exact fun c => by omega)) (Eq.trans (Eq.trans (zset_ne (fun c => absurd c.2 (by decide))) (zset_ne (fun c => absurd c.1 (by decide)))) ((Eq.trans (ft10 17 2 (by first | decide | exact fun c => by omega)) hl)))))))) (Eq.trans (ft48 18 1 (by first | decide | exact fun c => by omega)) (zset_same)) (by omega) (Eq.trans (ft48 17 4 (by first | decide | exact fun c => by omega)) (Eq.trans (Eq.trans (zset_ne (fun c => absurd c.1 (by decide))) (Eq.trans (zset_ne (fun c => absurd c.1 (by decide))) (Eq.trans (zset_ne (fun c => absurd c.1 (by decide))) (Eq.trans (zset_ne (fun c => absurd c.1 (by decide))) (Eq.trans (zset_ne (fun c => absurd c.1 (by decide))) (zset_ne (fun c => absurd c.1 (by decide)))))))) ((Eq.trans (ft29 17 4 (by first | decide | exact fun c => by omega)) (Eq.trans (ft20 17 4 (by first | decide | exact fun c => by omega)) (zset_same)))))) (by omega) (Eq.trans (ft48 18 0 (by first | decide | exact fun c => by omega)) (Eq.trans (zset_ne (fun c => absurd c.2 (by decide))) zset_same)) (by omega) (ob_open (o23_t ft48 (o23_n (r := 18) (k := 1) (v := (0, ((s : Int) + 1))) (by decide) (o23_n (r := 18) (k := 0) (v := (0, (z + 1))) (by decide) (o23_n (r := 22) (k := z.toNat) (v := (0, -1)) (by decide) (o23_n (r := 21) (k := z.toNat) (v := (0, 0)) (by decide) (o23_n (r := 20) (k := z.toNat) (v := (0, (pIx (P 4) ((τ 4 (i + 1 + 1))) (P 0 3).toNat 0))) (by decide) (o23_n (r := 19) (k := z.toNat) (v := (0, 17)) (by decide) (o23_t ft29 (o23_t ft20 (o23_n (r := 17) (k := 4) (v := (0, ((d : Int) + 1))) (by decide) (o23_z (k := (((d : Int)).toNat)) (v := (0, z)) (o23_t ft10 (fun _ => Eq.refl _))))))))))))) ho bz (by omega)) (oFr.t (oFr.z (a := 18) (b := 1) (v := (0, ((s : Int) + 1))) (by omega) (oFr.z (a := 18) (b := 0) (v := (0, (z + 1))) (by omega) (oFr.z (a := 22) (b := z.toNat) (v := (0, -1)) (by omega) (oFr.z (a := 21) (b := z.toNat) (v := (0, 0)) (by omega) (oFr.z (a := 20) (b := z.toNat) (v := (0, (pIx (P 4) ((τ 4 (i + 1 + 1))) (P 0 3).toNat 0))) (by omega) (oFr.z (a := 19) (b := z.toNat) (v := (0, 17)) (by omega) (oFr.t (oFr.t (oFr.z (a := 17) (b := 4) (v := (0, ((d : Int) + 1))) (by omega) (oFr.z (a := 23) (b := (((d : Int)).toNat)) (v := (0, z)) (by omega) (oFr.t oFr.rfl ft10))) ft20) ft29))))))) ft48) rfl (pItV_b h3 h3b (by simp only [hargV, pNm, (show ¬ 30 ≤ s from by omega), (show ¬ 3 ≤ d from by omega), hc21, hc25, q48, ne_eq, not_true_eq_false, not_false_eq_true, if_true, if_false, eq_self, eb_l, eb_r, and_true, true_and, and_false, false_and])) ⟨(kr_f (fun e => ft48 19 e (fun c => by omega)) (kr_n (a := 18) (k := 1) (v := (0, ((s : Int) + 1))) (by decide) (kr_n (a := 18) (k := 0) (v := (0, (z + 1))) (by decide) (kr_n (a := 22) (k := z.toNat) (v := (0, -1)) (by decide) (kr_n (a := 21) (k := z.toNat) (v := (0, 0)) (by decide) (kr_n (a := 20) (k := z.toNat) (v := (0, (pIx (P 4) ((τ 4 (i + 1 + 1))) (P 0 3).toNat 0))) (by decide) (kr_z (k := z.toNat) (v := (0, 17)) (kr_f (fun e => ft29 19 e (fun c => by omega)) (kr_f (fun e => ft20 19 e (fun c => by omega)) (kr_n (a := 17) (k := 4) (v := (0, ((d : Int) + 1))) (by decide) (kr_n (a := 23) (k := (((d : Int)).toNat)) (v := (0, z)) (by decide) (kr_f (fun e => ft10 19 e (fun c => by omega)) (fun _ => Eq.refl _))))))))))))), (kr_f (fun e => ft48 20 e (fun c => by omega)) (kr_n (a := 18) (k := 1) (v := (0, ((s : Int) + 1))) (by decide) (kr_n (a := 18) (k := 0) (v := (0, (z + 1))) (by decide) (kr_n (a := 22) (k := z.toNat) (v := (0, -1)) (by decide) (kr_n (a := 21) (k := z.toNat) (v := (0, 0)) (by decide) (kr_z (k := z.toNat) (v := (0, (pIx (P 4) ((τ 4 (i + 1 + 1))) (P 0 3).toNat 0))) (kr_n (a := 19) (k := z.toNat) (v := (0, 17)) (by decide) (kr_f (fun e => ft29 20 e (fun c => by omega)) (kr_f (fun e => ft20 20 e (fun c => by omega)) (kr_n (a := 17) (k := 4) (v := (0, ((d : Int) + 1))) (by decide) (kr_n (a := 23) (k := (((d : Int)).toNat)) (v := (0, z)) (by decide) (kr_f (fun e => ft10 20 e (fun c => by omega)) (fun _ => Eq.refl _))))))))))))), (kr_f (fun e => ft48 21 e (fun c => by omega)) (kr_n (a := 18) (k := 1) (v := (0, ((s : Int) + 1))) (by decide) (kr_n (a := 18) (k := 0) (v := (0, (z + 1))) (by decide) (kr_n (a := 22) (k := z.toNat) (v := (0, -1)) (by decide) (kr_z (k := z.toNat) (v := (0, 0)) (kr_n (a := 20) (k := z.toNat) (v := (0, (pIx (P 4) ((τ 4 (i + 1 + 1))) (P 0 3).toNat 0))) (by decide) (kr_n (a := 19) (k := z.toNat) (v := (0, 17)) (by decide) (kr_f (fun e => ft29 21 e (fun c => by omega)) (kr_f (fun e => ft20 21 e (fun c => by omega)) (kr_n (a := 17) (k := 4) (v := (0, ((d : Int) + 1))) (by decide) (kr_n (a := 23) (k := (((d : Int)).toNat)) (v := (0, z)) (by decide) (kr_f (fun e => ft10 21 e (fun c => by omega)) (fun _ => Eq.refl _))))))))))))), (kr_f (fun e => ft48 22 e (fun c => by omega)) (kr_n (a := 18) (k := 1) (v := (0, ((s : Int) + 1))) (by decide) (kr_n (a := 18) (k := 0) (v := (0, (z + 1))) (by decide) (kr_z (k := z.toNat) (v := (0, -1)) (kr_n (a := 21) (k := z.toNat) (v := (0, 0)) (by decide) (kr_n (a := 20) (k := z.toNat) (v := (0, (pIx (P 4) ((τ 4 (i + 1 + 1))) (P 0 3).toNat 0))) (by decide) (kr_n (a := 19) (k := z.toNat) (v := (0, 17)) (by decide) (kr_f (fun e => ft29 22 e (fun c => by omega)) (kr_f (fun e => ft20 22 e (fun c => by omega)) (kr_n (a := 17) (k := 4) (v := (0, ((d : Int) + 1))) (by decide) (kr_n (a := 23) (k := (((d : Int)).toNat)) (v := (0, z)) (by decide) (kr_f (fun e => ft10 22 e (fun c => by omega)) (fun _ => Eq.refl _)))))))))))))⟩ (kr_f (fun e => ft48 23 e (fun c => by omega)) (kr_n (a := 18) (k := 1) (v := (0, ((s : Int) + 1))) (by decide) (kr_n (a := 18) (k := 0) (v := (0, (z + 1))) (by decide) (kr_n (a := 22) (k := z.toNat) (v := (0, -1)) (by decide) (kr_n (a := 21) (k := z.toNat) (v := (0, 0)) (by decide) (kr_n (a := 20) (k := z.toNat) (v := (0, (pIx (P 4) ((τ 4 (i + 1 + 1))) (P 0 3).toNat 0))) (by decide) (kr_n (a := 19) (k := z.toNat) (v := (0, 17)) (by decide) (kr_f (fun e => ft29 23 e (fun c => by omega)) (kr_f (fun e => ft20 23 e (fun c => by omega)) (kr_n (a := 17) (k := 4) (v := (0, ((d : Int) + 1))) (by decide) (kr_z (k := (((d : Int)).toNat)) (v := (0, z)) (kr_f (fun e => ft10 23 e (fun c => by omega)) (fun _ => Eq.refl _)))))))))))))
                · show vP D T N 88 100 g49 [some (2, 17), some (2, 24), some (0, w), some (0, x), some (0, 1)] [(0, 0)] _
                  refine vP_hv (fun hv49 => ?_)
                  refine v_if (hi_X6_readText_100 hT) (fun _ => ?_) (fun hc51 => absurd (show (0 : Int) = 0 from (by decide)) hc51)
                  refine v_push (0) (hi_X6_readText_103 hT) rfl ?_
                  refine v_ret (hi_X6_readText_104 hT) (Or.inl rfl) ?_
                  exact er _ _ (by simp only [pStep, hE, hsw, htw, hop, h15, opW15, harg, pNm, (show ¬ 30 ≤ s from by omega), (show ¬ 3 ≤ d from by omega), hc21, hc25, q49, ne_eq, not_true_eq_false, not_false_eq_true, if_true, if_false, eq_self, eb_l, eb_r, and_true, true_and, and_false, false_and]) c49 (oFr.t (oFr.z (a := 18) (b := 1) (v := (0, ((s : Int) + 1))) (by omega) (oFr.z (a := 18) (b := 0) (v := (0, (z + 1))) (by omega) (oFr.z (a := 22) (b := z.toNat) (v := (0, -1)) (by omega) (oFr.z (a := 21) (b := z.toNat) (v := (0, 0)) (by omega) (oFr.z (a := 20) (b := z.toNat) (v := (0, (pIx (P 4) ((τ 4 (i + 1 + 1))) (P 0 3).toNat 0))) (by omega) (oFr.z (a := 19) (b := z.toNat) (v := (0, 17)) (by omega) (oFr.t (oFr.t (oFr.z (a := 17) (b := 4) (v := (0, ((d : Int) + 1))) (by omega) (oFr.z (a := 23) (b := (((d : Int)).toNat)) (v := (0, z)) (by omega) (oFr.t oFr.rfl ft10))) ft20) ft29))))))) ft49)
    · have hc8 : 3 ≤ (d : Int) := Int.not_lt.mp hc8
      refine v_load (v := (2, 17)) (hi_X6_mayBegin_91 hT) rfl rfl ?_
      refine v_getR (c := 10) (r := 17) (hi_X6_mayBegin_92 hT) rfl rfl rfl ?_
      refine v_push (7) (hi_X6_mayBegin_95 hT) rfl ?_
      refine v_call (w := 2) [some (2, 10), some (0, 7)] hO (hi_X6_mayBegin_97 hT) rfl rfl (cx_blame hT hO 7 hX (fun g52 ft52 c52 => ?_))
      · show vP D T N 81 100 g52 [some (2, 17), some (0, 15), some (0, 1)] [(0, 0)] _
        refine vP_hv (fun hv52 => ?_)
        refine v_ret (hi_X6_mayBegin_100 hT) (Or.inl rfl) ?_
        show vP D T N 88 67 g52 [some (2, 17), some (2, 24), some (0, w), some (0, x), o] [(0, 0)] _
        refine v_if (hi_X6_readText_67 hT) (fun _ => ?_) (fun hc53 => absurd (show (0 : Int) = 0 from (by decide)) hc53)
        refine v_push (0) (hi_X6_readText_85 hT) rfl ?_
        refine v_store1 [some (2, 17), some (2, 24), some (0, w), some (0, x), some (0, 0)] (hi_X6_readText_86 hT) ⟨rfl, Nat.ne_of_beq_eq_false rfl⟩ (Nat.le_of_ble_eq_true rfl) rfl ?_
        refine v_load (v := (0, 0)) (hi_X6_readText_88 hT) rfl rfl ?_
        refine v_if (hi_X6_readText_90 hT) (fun _ => ?_) (fun hc54 => absurd (show (0 : Int) = 0 from (by decide)) hc54)
        refine v_push (0) (hi_X6_readText_103 hT) rfl ?_
        refine v_ret (hi_X6_readText_104 hT) (Or.inl rfl) ?_
        exact er _ _ (by simp only [pStep, hE, hsw, htw, hop, h15, opW15, harg, pNm, (show ¬ 30 ≤ s from by omega), (show 3 ≤ d from by omega), ne_eq, not_true_eq_false, not_false_eq_true, if_true, if_false, eq_self, eb_l, eb_r, and_true, true_and, and_false, false_and]) c52 (oFr.t oFr.rfl ft52)
  · have hc6 : 30 ≤ (s : Int) := Int.not_lt.mp hc6
    refine v_load (v := (2, 17)) (hi_X6_mayBegin_69 hT) rfl rfl ?_
    refine v_getR (c := 10) (r := 17) (hi_X6_mayBegin_70 hT) rfl rfl rfl ?_
    refine v_push (6) (hi_X6_mayBegin_73 hT) rfl ?_
    refine v_call (w := 2) [some (2, 10), some (0, 6)] hO (hi_X6_mayBegin_75 hT) rfl rfl (cx_blame hT hO 6 hX (fun g55 ft55 c55 => ?_))
    · show vP D T N 81 78 g55 [some (2, 17), some (0, 15), some (0, 1)] [(0, 0)] _
      refine vP_hv (fun hv55 => ?_)
      refine v_ret (hi_X6_mayBegin_78 hT) (Or.inl rfl) ?_
      show vP D T N 88 67 g55 [some (2, 17), some (2, 24), some (0, w), some (0, x), o] [(0, 0)] _
      refine v_if (hi_X6_readText_67 hT) (fun _ => ?_) (fun hc56 => absurd (show (0 : Int) = 0 from (by decide)) hc56)
      refine v_push (0) (hi_X6_readText_85 hT) rfl ?_
      refine v_store1 [some (2, 17), some (2, 24), some (0, w), some (0, x), some (0, 0)] (hi_X6_readText_86 hT) ⟨rfl, Nat.ne_of_beq_eq_false rfl⟩ (Nat.le_of_ble_eq_true rfl) rfl ?_
      refine v_load (v := (0, 0)) (hi_X6_readText_88 hT) rfl rfl ?_
      refine v_if (hi_X6_readText_90 hT) (fun _ => ?_) (fun hc57 => absurd (show (0 : Int) = 0 from (by decide)) hc57)
      refine v_push (0) (hi_X6_readText_103 hT) rfl ?_
      refine v_ret (hi_X6_readText_104 hT) (Or.inl rfl) ?_
      exact er _ _ (by simp only [pStep, hE, hsw, htw, hop, h15, opW15, harg, pNm, (show 30 ≤ s from by omega), ne_eq, not_true_eq_false, not_false_eq_true, if_true, if_false, eq_self, eb_l, eb_r, and_true, true_and, and_false, false_and]) c55 (oFr.t oFr.rfl ft55)
theorem co7_15_18_24 {D : zD} {T : zT} (hT : hTab T) (hO : vOK T) {N : Nat} {h : zH} {Q : zR → Prop} {B : Nat → Int} {n m i s d : Nat} {τ P : PT} (w x z : Int) (o : Option zV) (hv0 : zHv h) (hX : cX B n m τ i h) (hK : Tks B n m τ) (hP : cP 24 P h) (hb : (0 ≤ P 0 0 ∧ P 0 0 ≤ 8) ∧ (0 ≤ P 0 1 ∧ P 0 1 ≤ 6) ∧ (0 ≤ P 0 2 ∧ P 0 2 ≤ 3) ∧ (0 ≤ P 0 3 ∧ P 0 3 ≤ 6)) (hl : h 17 2 = (2, 24)) (hs : h 18 1 = (0, (s : Int))) (hd : h 17 4 = (0, (d : Int))) (hz : h 18 0 = (0, z)) (bs : s ≤ 30) (bd : d ≤ 3) (bz : 0 ≤ z) (bzd : z + d ≤ 2 * s) (ho : ∀ e : Nat, e < d → 0 ≤ (h 23 e).2 ∧ (h 23 e).2 < z) (hx : 0 ≤ x ∧ x < 900) (h0 : τ 0 i ≠ 0) (h1 : τ 0 i = 1) (h3 : τ 3 i = 15) (h1b : τ 0 (i + 1) = 1) (h3b : τ 3 (i + 1) = 18) (ih : ∀ g s' d' i' a b z' o' K u v j, pStep τ P s d i = .inr (s', d', i') → cX B n m τ i' g → cP 24 P g → g 17 2 = (2, 24) → g 18 1 = (0, a) → a = (s' : Int) → g 17 4 = (0, b) → b = (d' : Int) → g 18 0 = (0, z') → s' ≤ 30 ∧ d' ≤ 3 ∧ 0 ≤ z' ∧ z' + d' ≤ 2 * s' → (∀ e : Nat, e < d' → 0 ≤ (g 23 e).2 ∧ (g 23 e).2 < z') → oFr h g → z' = z + 1 → pItV τ P i = .inr (K, u, v, j) → oW4 h g z K u v → (∀ e, g 23 e = zset h 23 ((d : Int)).toNat (0, z) 23 e) → vP D T N 88 27 g [some (2, 17), some (2, 24), some (0, w), some (0, (x + 1)), o'] [] Q) (er : ∀ g e, pStep τ P s d i = .inl e → cB e g → oFr h g → Q (g, some (0, 0))) :
    vP D T (N + 1) 88 27 h [some (2, 17), some (2, 24), some (0, w), some (0, x), o] [] Q := by
  have hEn : (bEn τ i) = 0 := bEn_n h0
  have hE : (bW τ 20 i) = 0 := bW_0.mpr (fun c => absurd (h3.symm.trans c.2) (by decide))
  have hsw : ¬ swd τ i < 0 := by rw [swd_v h1, h3]; decide
  have htw : ¬ twd τ (i + 1) < 0 := by rw [twd_v h1b, h3b]; decide
  have hop : opW (τ 3 i) = true := by rw [h3]; rfl
  have h15 : τ 3 i = 15 := h3
  have harg : ∀ j, oArg τ P (τ 3 (i + 1)) j = (eb (pCm τ j) fun a => eb (pNum τ 0 9999 a.2) fun b => .inr b.2) := fun j => by rw [h3b]; rfl
  have hargV : ∀ j, oArV τ P 18 j = (eb (pCm τ j) fun a => eb (pNum τ 0 9999 a.2) fun b => .inr (a.1, b.1, b.2)) := fun _ => rfl
  refine v_loadS (v := (0, x)) (hi_X6_readText_27 hT) rfl rfl ?_
  refine v_push (900) (hi_X6_readText_28 hT) rfl ?_
  refine v_ic (hi_X6_readText_31 hT) (fun _ => ?_) (fun hc1 => absurd (show x < 900 from hx.2) hc1)
  refine v_load (v := (2, 17)) (hi_X6_readText_34 hT) rfl rfl ?_
  refine v_getR (c := 10) (r := 17) (hi_X6_readText_35 hT) rfl rfl rfl ?_
  refine v_call (w := 1) [some (2, 10)] hO (hi_X6_readText_38 hT) rfl rfl (cx_isEnd hT hO hX ?_)
  show vP D T N 88 41 h [some (2, 17), some (2, 24), some (0, w), some (0, x), o] [(0, (bEn τ i))] _
  refine v_if (hi_X6_readText_41 hT) (fun _ => ?_) (fun hc2 => absurd (show (bEn τ i) = 0 from hEn) hc2)
  refine v_load (v := (2, 17)) (hi_X6_readText_44 hT) rfl rfl ?_
  refine v_getR (c := 10) (r := 17) (hi_X6_readText_45 hT) rfl rfl rfl ?_
  refine v_push (20) (hi_X6_readText_48 hT) rfl ?_
  refine v_call (w := 2) [some (2, 10), some (0, 20)] hO (hi_X6_readText_50 hT) rfl rfl (cx_isWord hT hO 20 hX ?_)
  show vP D T N 88 53 h [some (2, 17), some (2, 24), some (0, w), some (0, x), o] [(0, (bW τ 20 i))] _
  refine v_if (hi_X6_readText_53 hT) (fun _ => ?_) (fun hc3 => absurd (show (bW τ 20 i) = 0 from hE) hc3)
  refine v_load (v := (2, 17)) (hi_X6_readText_63 hT) rfl rfl ?_
  refine v_call (w := 3) [some (2, 17), none, none] hO (hi_X6_readText_64 hT) rfl rfl ?_
  refine v_load (v := (2, 17)) (hi_X6_mayBegin_0 hT) rfl rfl ?_
  refine v_getR (c := 10) (r := 17) (hi_X6_mayBegin_1 hT) rfl rfl rfl ?_
  refine v_call (w := 1) [some (2, 10)] hO (hi_X6_mayBegin_4 hT) rfl rfl (cx_wordK hT hO 15 hX h1 h3 ?_)
  show vP D T N 81 7 h [some (2, 17), none, none] [(0, 15)] _
  refine v_store1 [some (2, 17), some (0, 15), none] (hi_X6_mayBegin_7 hT) ⟨rfl, Nat.ne_of_beq_eq_false rfl⟩ (Nat.le_of_ble_eq_true rfl) rfl ?_
  refine v_load (v := (0, 15)) (hi_X6_mayBegin_8 hT) rfl rfl ?_
  refine v_push (15) (hi_X6_mayBegin_9 hT) rfl ?_
  refine v_ic (hi_X6_mayBegin_11 hT) (fun _ => ?_) (fun hc4 => absurd (show (15 : Int) = 15 from (by decide)) hc4)
  refine v_push (1) (hi_X6_mayBegin_20 hT) rfl ?_
  refine v_goto (hi_X6_mayBegin_21 hT) ?_
  refine v_store1 [some (2, 17), some (0, 15), some (0, 1)] (hi_X6_mayBegin_25 hT) ⟨rfl, Nat.ne_of_beq_eq_false rfl⟩ (Nat.le_of_ble_eq_true rfl) rfl ?_
  refine v_load (v := (0, 1)) (hi_X6_mayBegin_26 hT) rfl rfl ?_
  refine v_if (hi_X6_mayBegin_27 hT) (fun hc5 => absurd (show (1 : Int) = 0 from hc5) (by decide)) (fun _ => ?_)
  refine v_load (v := (2, 17)) (hi_X6_mayBegin_57 hT) rfl rfl ?_
  refine v_getR (c := 18) (r := 17) (hi_X6_mayBegin_58 hT) rfl rfl rfl ?_
  refine v_getf (v := (0, (s : Int))) (r := 18) (hi_X6_mayBegin_61 hT) rfl rfl (fun _ => hs) ?_
  refine v_push (30) (hi_X6_mayBegin_64 hT) rfl ?_
  refine v_ic (hi_X6_mayBegin_66 hT) (fun hc6 => ?_) (fun hc6 => ?_)
  · have hc6 : (s : Int) < 30 := hc6
    refine v_load (v := (0, 1)) (hi_X6_mayBegin_79 hT) rfl rfl ?_
    refine v_if (hi_X6_mayBegin_80 hT) (fun hc7 => absurd (show (1 : Int) = 0 from hc7) (by decide)) (fun _ => ?_)
    refine v_load (v := (2, 17)) (hi_X6_mayBegin_83 hT) rfl rfl ?_
    refine v_getf (v := (0, (d : Int))) (r := 17) (hi_X6_mayBegin_84 hT) rfl rfl (fun _ => hd) ?_
    refine v_push (3) (hi_X6_mayBegin_87 hT) rfl ?_
    refine v_ic (hi_X6_mayBegin_88 hT) (fun hc8 => ?_) (fun hc8 => ?_)
    · have hc8 : (d : Int) < 3 := hc8
      refine v_push (1) (hi_X6_mayBegin_101 hT) rfl ?_
      refine v_ret (hi_X6_mayBegin_102 hT) (Or.inl rfl) ?_
      show vP D T N 88 67 h [some (2, 17), some (2, 24), some (0, w), some (0, x), o] [(0, 1)] _
      refine v_if (hi_X6_readText_67 hT) (fun hc9 => absurd (show (1 : Int) = 0 from hc9) (by decide)) (fun _ => ?_)
      refine v_load (v := (2, 17)) (hi_X6_readText_70 hT) rfl rfl ?_
      refine v_load (v := (2, 17)) (hi_X6_readText_71 hT) rfl rfl ?_
      refine v_call (w := 3) [some (2, 17), none, none] hO (hi_X6_readText_72 hT) rfl rfl ?_
      refine v_load (v := (2, 17)) (hi_X6_beginStep_0 hT) rfl rfl ?_
      refine v_getR (c := 10) (r := 17) (hi_X6_beginStep_1 hT) rfl rfl rfl ?_
      refine v_call (w := 1) [some (2, 10)] hO (hi_X6_beginStep_4 hT) rfl rfl (cx_wordK hT hO 15 hX h1 h3 ?_)
      show vP D T N 80 7 h [some (2, 17), none, none] [(0, 15)] _
      refine v_store1 [some (2, 17), some (0, 15), none] (hi_X6_beginStep_7 hT) ⟨rfl, Nat.ne_of_beq_eq_false rfl⟩ (Nat.le_of_ble_eq_true rfl) rfl ?_
      refine v_load (v := (2, 17)) (hi_X6_beginStep_8 hT) rfl rfl ?_
      refine v_getR (c := 10) (r := 17) (hi_X6_beginStep_9 hT) rfl rfl rfl ?_
      refine v_call (w := 1) [some (2, 10)] hO (hi_X6_beginStep_12 hT) rfl rfl (cx_adv hT hO hX (ne_10 h1) (ne_14 h1) (fun g10 ft10 hX10 => ?_))
      · show vP D T N 80 15 g10 [some (2, 17), some (0, 15), none] [] _
        refine vP_hv (fun hv10 => ?_)
        refine v_load (v := (0, 15)) (hi_X6_beginStep_15 hT) rfl rfl ?_
        refine v_push (15) (hi_X6_beginStep_16 hT) rfl ?_
        refine v_ic (hi_X6_beginStep_18 hT) (fun _ => ?_) (fun hc11 => absurd (show (15 : Int) = 15 from (by decide)) hc11)
        refine v_load (v := (2, 17)) (hi_X6_beginStep_27 hT) rfl rfl ?_
        refine v_getf (v := (0, (d : Int))) (r := 17) (hi_X6_beginStep_28 hT) rfl rfl (fun _ => (Eq.trans (ft10 17 4 (by first | decide | exact fun c => by omega)) hd)) ?_
        refine v_push (3) (hi_X6_beginStep_31 hT) rfl ?_
        refine v_ic (hi_X6_beginStep_32 hT) (fun _ => ?_) (fun hc12 => absurd (show (d : Int) < 3 from hc8) hc12)
        refine v_load (v := (2, 17)) (hi_X6_beginStep_35 hT) rfl rfl ?_
        refine v_getR (c := 23) (r := 17) (hi_X6_beginStep_36 hT) rfl rfl rfl ?_
        refine v_load (v := (2, 17)) (hi_X6_beginStep_39 hT) rfl rfl ?_
        refine v_getf (v := (0, (d : Int))) (r := 17) (hi_X6_beginStep_40 hT) rfl rfl (fun _ => (Eq.trans (ft10 17 4 (by first | decide | exact fun c => by omega)) hd)) ?_
        refine v_load (v := (2, 17)) (hi_X6_beginStep_43 hT) rfl rfl ?_
        refine v_getR (c := 18) (r := 17) (hi_X6_beginStep_44 hT) rfl rfl rfl ?_
        refine v_getf (v := (0, z)) (r := 18) (hi_X6_beginStep_47 hT) rfl rfl (fun _ => (Eq.trans (ft10 18 0 (by first | decide | exact fun c => by omega)) hz)) ?_
        refine v_ast (r := 23) (hi_X6_beginStep_50 hT) rfl rfl (fun ha13 hb14 hf15 => ?_)
        refine v_load (v := (2, 17)) (hi_X6_beginStep_51 hT) rfl rfl ?_
        refine v_dup (hi_X6_beginStep_52 hT) (Nat.ne_of_beq_eq_false rfl) ?_
        refine v_getf (v := (0, (d : Int))) (r := 17) (hi_X6_beginStep_53 hT) rfl rfl (fun _ => Eq.trans (zset_ne (fun c => absurd c.1 (by decide))) ((Eq.trans (ft10 17 4 (by first | decide | exact fun c => by omega)) hd))) ?_
        refine v_push (1) (hi_X6_beginStep_56 hT) rfl ?_
        refine v_bin (w := ((d : Int) + 1)) (hi_X6_beginStep_57 hT) (hq_add (by omega) (by omega)) ?_
        refine v_putf (r := 17) hO (hi_X6_beginStep_58 hT) rfl (fun hf16 => ?_)
        refine v_load (v := (0, 15)) (hi_X6_beginStep_61 hT) rfl rfl ?_
        refine v_push (15) (hi_X6_beginStep_62 hT) rfl ?_
        refine v_ic (hi_X6_beginStep_64 hT) (fun _ => ?_) (fun hc17 => absurd (show (15 : Int) = 15 from (by decide)) hc17)
        refine v_load (v := (2, 17)) (hi_X6_beginStep_69 hT) rfl rfl ?_
        refine v_getR (c := 10) (r := 17) (hi_X6_beginStep_70 hT) rfl rfl rfl ?_
        refine v_call (w := 1) [some (2, 10)] hO (hi_X6_beginStep_73 hT) rfl rfl (cx_wordK hT hO 18 (cX.z (r := 17) (k := 4) (v := (0, ((d : Int) + 1))) (by decide) (cX.z (r := 23) (k := (((d : Int)).toNat)) (v := (0, z)) (by decide) hX10)) h1b h3b ?_)
        show vP D T N 80 76 (zset (zset g10 23 (((d : Int)).toNat) (0, z)) 17 4 (0, ((d : Int) + 1))) [some (2, 17), some (0, 15), none] [(0, 18)] _
        refine v_store1 [some (2, 17), some (0, 15), some (0, 18)] (hi_X6_beginStep_76 hT) ⟨rfl, Nat.ne_of_beq_eq_false rfl⟩ (Nat.le_of_ble_eq_true rfl) rfl ?_
        refine v_load (v := (0, 18)) (hi_X6_beginStep_77 hT) rfl rfl ?_
        refine v_push (16) (hi_X6_beginStep_78 hT) rfl ?_
        refine v_ic (hi_X6_beginStep_80 hT) (fun hc18 => absurd (show (18 : Int) < 16 from hc18) (by decide)) (fun _ => ?_)
        refine v_load (v := (0, 18)) (hi_X6_beginStep_83 hT) rfl rfl ?_
        refine v_push (18) (hi_X6_beginStep_84 hT) rfl ?_
        refine v_ic (hi_X6_beginStep_86 hT) (fun hc19 => absurd (show 18 < (18 : Int) from hc19) (by decide)) (fun _ => ?_)
        refine v_load (v := (2, 17)) (hi_X6_beginStep_100 hT) rfl rfl ?_
        refine v_getR (c := 10) (r := 17) (hi_X6_beginStep_101 hT) rfl rfl rfl ?_
        refine v_call (w := 1) [some (2, 10)] hO (hi_X6_beginStep_104 hT) rfl rfl (cx_adv hT hO (cX.z (r := 17) (k := 4) (v := (0, ((d : Int) + 1))) (by decide) (cX.z (r := 23) (k := (((d : Int)).toNat)) (v := (0, z)) (by decide) hX10)) (ne_10 h1b) (ne_14 h1b) (fun g20 ft20 hX20 => ?_))
        · show vP D T N 80 107 g20 [some (2, 17), some (0, 15), some (0, 18)] [] _
          refine vP_hv (fun hv20 => ?_)
          refine v_load (v := (0, 18)) (hi_X6_beginStep_107 hT) rfl rfl ?_
          refine v_ret (hi_X6_beginStep_108 hT) (Or.inl rfl) ?_
          show vP D T N 88 75 g20 [some (2, 17), some (2, 24), some (0, w), some (0, x), o] [(0, 18), (2, 17)] _
          refine v_call (w := 2) [some (2, 17), some (0, 18)] hO (hi_X6_readText_75 hT) rfl rfl ?_
          refine v_load (v := (0, 18)) (hi_X6_readStep_0 hT) rfl rfl ?_
          refine v_sw (hi_X6_readStep_1 hT) ?_
          refine ⟨fun c => absurd c (by decide), fun _ => ?_⟩
          refine ⟨fun c => absurd c (by decide), fun _ => ?_⟩
          refine ⟨fun c => absurd c (by decide), fun _ => ?_⟩
          refine ⟨fun c => absurd c (by decide), fun _ => ?_⟩
          refine ⟨fun c => absurd c (by decide), fun _ => ?_⟩
          refine ⟨fun c => absurd c (by decide), fun _ => ?_⟩
          refine ⟨fun c => absurd c (by decide), fun _ => ?_⟩
          refine ⟨fun c => absurd c (by decide), fun _ => ?_⟩
          refine ⟨fun c => absurd c (by decide), fun _ => ?_⟩
          refine ⟨fun c => absurd c (by decide), fun _ => ?_⟩
          refine ⟨fun c => absurd c (by decide), fun _ => ?_⟩
          refine ⟨fun c => absurd c (by decide), fun _ => ?_⟩
          refine ⟨fun c => absurd c (by decide), fun _ => ?_⟩
          refine ⟨fun c => absurd c (by decide), fun _ => ?_⟩
          refine ⟨fun c => absurd c (by decide), fun _ => ?_⟩
          refine ⟨fun c => absurd c (by decide), fun _ => ?_⟩
          refine ⟨fun c => absurd c (by decide), fun _ => ?_⟩
          refine ⟨fun c => absurd c (by decide), fun _ => ?_⟩
          refine ⟨fun c => absurd c (by decide), fun _ => ?_⟩
          refine ⟨fun _ => ?_, fun c => absurd rfl c⟩
          refine v_load (v := (2, 17)) (hz_X6_readStep hT _ _ rfl) rfl rfl ?_
          refine v_call (w := 2) [some (2, 17), none] hO (hz_X6_readStep hT _ _ rfl) rfl rfl ?_
          refine v_load (v := (2, 17)) (hz_X6_readCrumbs hT _ _ rfl) rfl rfl ?_
          refine v_getR (c := 10) (r := 17) (hz_X6_readCrumbs hT _ _ rfl) rfl rfl rfl ?_
          refine v_call (w := 2) [some (2, 10), none] hO (hz_X6_readCrumbs hT _ _ rfl) rfl rfl (cx_cmp hT hO hX20 (fun g22 x21 ft22 q22 bux21 hX22 => ?_) (fun g23 e23 ft23 q23 c23 => ?_))
          · show vP D T N 84 7 g22 [some (2, 17), none] [(0, x21)] _
            refine vP_hv (fun hv22 => ?_)
            refine v_store1 [some (2, 17), some (0, x21)] (hi_X6_readCrumbs_7 hT) ⟨rfl, Nat.ne_of_beq_eq_false rfl⟩ (Nat.le_of_ble_eq_true rfl) rfl ?_
            refine v_load (v := (0, x21)) (hi_X6_readCrumbs_8 hT) rfl rfl ?_
            refine v_push (-1) (hi_X6_readCrumbs_9 hT) rfl ?_
            refine v_ic (hi_X6_readCrumbs_10 hT) (fun hc24 => absurd (show x21 = -1 from hc24) (by omega)) (fun _ => ?_)
            refine v_load (v := (2, 17)) (hz_X6_readCrumbs hT _ _ rfl) rfl rfl ?_
            refine v_push (18) (hz_X6_readCrumbs hT _ _ rfl) rfl ?_
            refine v_load (v := (0, x21)) (hz_X6_readCrumbs hT _ _ rfl) rfl rfl ?_
            refine v_load (v := (2, 17)) (hz_X6_readCrumbs hT _ _ rfl) rfl rfl ?_
            refine v_getR (c := 10) (r := 17) (hz_X6_readCrumbs hT _ _ rfl) rfl rfl rfl ?_
            refine v_push (0) (hz_X6_readCrumbs hT _ _ rfl) rfl ?_
            refine v_push (9999) (hz_X6_readCrumbs hT _ _ rfl) rfl ?_
            refine v_call (w := 4) [some (2, 10), some (0, 0), some (0, 9999), none] hO (hz_X6_readCrumbs hT _ _ rfl) rfl rfl (cx_num hT hO 0 9999 hX22 (fun g26 x25 ft26 q26 bux25 bvx25 hX26 => ?_) (fun g27 e27 ft27 q27 c27 => ?_))
            · show vP D T N 84 30 g26 [some (2, 17), some (0, x21)] [(0, x25), (0, x21), (0, 18), (2, 17)] _
              refine vP_hv (fun hv26 => ?_)
              refine v_call (w := 4) [some (2, 17), some (0, 18), some (0, x21), some (0, x25)] hO (hi_X6_readCrumbs_30 hT) rfl rfl ?_
              refine v_load (v := (0, x21)) (hi_X6_readTwo_0 hT) rfl rfl ?_
              refine v_push (-1) (hi_X6_readTwo_1 hT) rfl ?_
              refine v_ic (hi_X6_readTwo_2 hT) (fun hc28 => absurd (show x21 = -1 from hc28) (by omega)) (fun _ => ?_)
              refine v_load (v := (0, x25)) (hi_X6_readTwo_5 hT) rfl rfl ?_
              refine v_push (-1) (hi_X6_readTwo_6 hT) rfl ?_
              refine v_ic (hi_X6_readTwo_7 hT) (fun hc29 => absurd (show x25 = -1 from hc29) (by omega)) (fun _ => ?_)
              refine v_load (v := (2, 17)) (hi_X6_readTwo_10 hT) rfl rfl ?_
              refine v_getR (c := 18) (r := 17) (hi_X6_readTwo_11 hT) rfl rfl rfl ?_
              refine v_load (v := (0, 18)) (hi_X6_readTwo_14 hT) rfl rfl ?_
              refine v_load (v := (0, x21)) (hi_X6_readTwo_15 hT) rfl rfl ?_
              refine v_load (v := (0, x25)) (hi_X6_readTwo_16 hT) rfl rfl ?_
              refine v_call (w := 4) [some (2, 18), some (0, 18), some (0, x21), some (0, x25)] hO (hi_X6_readTwo_17 hT) rfl rfl ?_
              refine v_load (v := (2, 18)) (hi_X5_add_0 hT) rfl rfl ?_
              refine v_getf (v := (0, z)) (r := 18) (hi_X5_add_1 hT) rfl rfl (fun _ => (Eq.trans (ft26 18 0 (by first | decide | exact fun c => by omega)) (Eq.trans (ft22 18 0 (by first | decide | exact fun c => by omega)) (Eq.trans (ft20 18 0 (by first | decide | exact fun c => by omega)) (Eq.trans (Eq.trans (zset_ne (fun c => absurd c.1 (by decide))) (zset_ne (fun c => absurd c.1 (by decide)))) ((Eq.trans (ft10 18 0 (by first | decide | exact fun c => by omega)) hz))))))) ?_
              refine v_if (hi_X5_add_4 hT) (fun hc30 => absurd (show z < 0 from hc30) (by omega)) (fun _ => ?_)
              refine v_load (v := (2, 18)) (hi_X5_add_7 hT) rfl rfl ?_
              refine v_getf (v := (0, z)) (r := 18) (hi_X5_add_8 hT) rfl rfl (fun _ => (Eq.trans (ft26 18 0 (by first | decide | exact fun c => by omega)) (Eq.trans (ft22 18 0 (by first | decide | exact fun c => by omega)) (Eq.trans (ft20 18 0 (by first | decide | exact fun c => by omega)) (Eq.trans (Eq.trans (zset_ne (fun c => absurd c.1 (by decide))) (zset_ne (fun c => absurd c.1 (by decide)))) ((Eq.trans (ft10 18 0 (by first | decide | exact fun c => by omega)) hz))))))) ?_
              refine v_push (60) (hi_X5_add_11 hT) rfl ?_
              refine v_ic (hi_X5_add_13 hT) (fun _ => ?_) (fun hc31 => absurd (show z < 60 from (by omega)) hc31)
              refine v_load (v := (2, 18)) (hi_X5_add_18 hT) rfl rfl ?_
              refine v_getR (c := 19) (r := 18) (hi_X5_add_19 hT) rfl rfl rfl ?_
              refine v_load (v := (2, 18)) (hi_X5_add_22 hT) rfl rfl ?_
              refine v_getf (v := (0, z)) (r := 18) (hi_X5_add_23 hT) rfl rfl (fun _ => (Eq.trans (ft26 18 0 (by first | decide | exact fun c => by omega)) (Eq.trans (ft22 18 0 (by first | decide | exact fun c => by omega)) (Eq.trans (ft20 18 0 (by first | decide | exact fun c => by omega)) (Eq.trans (Eq.trans (zset_ne (fun c => absurd c.1 (by decide))) (zset_ne (fun c => absurd c.1 (by decide)))) ((Eq.trans (ft10 18 0 (by first | decide | exact fun c => by omega)) hz))))))) ?_
              refine v_load (v := (0, 18)) (hi_X5_add_26 hT) rfl rfl ?_
              refine v_ast (r := 19) (hi_X5_add_27 hT) rfl rfl (fun ha32 hb33 hf34 => ?_)
              refine v_load (v := (2, 18)) (hi_X5_add_28 hT) rfl rfl ?_
              refine v_getR (c := 20) (r := 18) (hi_X5_add_29 hT) rfl rfl rfl ?_
              refine v_load (v := (2, 18)) (hi_X5_add_32 hT) rfl rfl ?_
              refine v_getf (v := (0, z)) (r := 18) (hi_X5_add_33 hT) rfl rfl (fun _ => Eq.trans (zset_ne (fun c => absurd c.1 (by decide))) ((Eq.trans (ft26 18 0 (by first | decide | exact fun c => by omega)) (Eq.trans (ft22 18 0 (by first | decide | exact fun c => by omega)) (Eq.trans (ft20 18 0 (by first | decide | exact fun c => by omega)) (Eq.trans (Eq.trans (zset_ne (fun c => absurd c.1 (by decide))) (zset_ne (fun c => absurd c.1 (by decide)))) ((Eq.trans (ft10 18 0 (by first | decide | exact fun c => by omega)) hz)))))))) ?_
              refine v_load (v := (0, x21)) (hi_X5_add_36 hT) rfl rfl ?_
              refine v_ast (r := 20) (hi_X5_add_37 hT) rfl rfl (fun ha35 hb36 hf37 => ?_)
              refine v_load (v := (2, 18)) (hi_X5_add_38 hT) rfl rfl ?_
              refine v_getR (c := 21) (r := 18) (hi_X5_add_39 hT) rfl rfl rfl ?_
              refine v_load (v := (2, 18)) (hi_X5_add_42 hT) rfl rfl ?_
              refine v_getf (v := (0, z)) (r := 18) (hi_X5_add_43 hT) rfl rfl (fun _ => Eq.trans (Eq.trans (zset_ne (fun c => absurd c.1 (by decide))) (zset_ne (fun c => absurd c.1 (by decide)))) ((Eq.trans (ft26 18 0 (by first | decide | exact fun c => by omega)) (Eq.trans (ft22 18 0 (by first | decide | exact fun c => by omega)) (Eq.trans (ft20 18 0 (by first | decide | exact fun c => by omega)) (Eq.trans (Eq.trans (zset_ne (fun c => absurd c.1 (by decide))) (zset_ne (fun c => absurd c.1 (by decide)))) ((Eq.trans (ft10 18 0 (by first | decide | exact fun c => by omega)) hz)))))))) ?_
              refine v_load (v := (0, x25)) (hi_X5_add_46 hT) rfl rfl ?_
              refine v_ast (r := 21) (hi_X5_add_47 hT) rfl rfl (fun ha38 hb39 hf40 => ?_)
              refine v_load (v := (2, 18)) (hi_X5_add_48 hT) rfl rfl ?_
              refine v_getR (c := 22) (r := 18) (hi_X5_add_49 hT) rfl rfl rfl ?_
              refine v_load (v := (2, 18)) (hi_X5_add_52 hT) rfl rfl ?_
              refine v_getf (v := (0, z)) (r := 18) (hi_X5_add_53 hT) rfl rfl (fun _ => Eq.trans (Eq.trans (zset_ne (fun c => absurd c.1 (by decide))) (Eq.trans (zset_ne (fun c => absurd c.1 (by decide))) (zset_ne (fun c => absurd c.1 (by decide))))) ((Eq.trans (ft26 18 0 (by first | decide | exact fun c => by omega)) (Eq.trans (ft22 18 0 (by first | decide | exact fun c => by omega)) (Eq.trans (ft20 18 0 (by first | decide | exact fun c => by omega)) (Eq.trans (Eq.trans (zset_ne (fun c => absurd c.1 (by decide))) (zset_ne (fun c => absurd c.1 (by decide)))) ((Eq.trans (ft10 18 0 (by first | decide | exact fun c => by omega)) hz)))))))) ?_
              refine v_push (-1) (hi_X5_add_56 hT) rfl ?_
              refine v_ast (r := 22) (hi_X5_add_57 hT) rfl rfl (fun ha41 hb42 hf43 => ?_)
              refine v_load (v := (2, 18)) (hi_X5_add_58 hT) rfl rfl ?_
              refine v_dup (hi_X5_add_59 hT) (Nat.ne_of_beq_eq_false rfl) ?_
              refine v_getf (v := (0, z)) (r := 18) (hi_X5_add_60 hT) rfl rfl (fun _ => Eq.trans (Eq.trans (zset_ne (fun c => absurd c.1 (by decide))) (Eq.trans (zset_ne (fun c => absurd c.1 (by decide))) (Eq.trans (zset_ne (fun c => absurd c.1 (by decide))) (zset_ne (fun c => absurd c.1 (by decide)))))) ((Eq.trans (ft26 18 0 (by first | decide | exact fun c => by omega)) (Eq.trans (ft22 18 0 (by first | decide | exact fun c => by omega)) (Eq.trans (ft20 18 0 (by first | decide | exact fun c => by omega)) (Eq.trans (Eq.trans (zset_ne (fun c => absurd c.1 (by decide))) (zset_ne (fun c => absurd c.1 (by decide)))) ((Eq.trans (ft10 18 0 (by first | decide | exact fun c => by omega)) hz)))))))) ?_
              refine v_push (1) (hi_X5_add_63 hT) rfl ?_
              refine v_bin (w := (z + 1)) (hi_X5_add_64 hT) (hq_add (by omega) (by omega)) ?_
              refine v_putf (r := 18) hO (hi_X5_add_65 hT) rfl (fun hf44 => ?_)
              refine v_load (v := (2, 18)) (hi_X5_add_68 hT) rfl rfl ?_
              refine v_dup (hi_X5_add_69 hT) (Nat.ne_of_beq_eq_false rfl) ?_
              refine v_getf (v := (0, (s : Int))) (r := 18) (hi_X5_add_70 hT) rfl rfl (fun _ => Eq.trans (Eq.trans (zset_ne (fun c => absurd c.2 (by decide))) (Eq.trans (zset_ne (fun c => absurd c.1 (by decide))) (Eq.trans (zset_ne (fun c => absurd c.1 (by decide))) (Eq.trans (zset_ne (fun c => absurd c.1 (by decide))) (zset_ne (fun c => absurd c.1 (by decide))))))) ((Eq.trans (ft26 18 1 (by first | decide | exact fun c => by omega)) (Eq.trans (ft22 18 1 (by first | decide | exact fun c => by omega)) (Eq.trans (ft20 18 1 (by first | decide | exact fun c => by omega)) (Eq.trans (Eq.trans (zset_ne (fun c => absurd c.1 (by decide))) (zset_ne (fun c => absurd c.1 (by decide)))) ((Eq.trans (ft10 18 1 (by first | decide | exact fun c => by omega)) hs)))))))) ?_
              refine v_push (1) (hi_X5_add_73 hT) rfl ?_
              refine v_bin (w := ((s : Int) + 1)) (hi_X5_add_74 hT) (hq_add (by omega) (by omega)) ?_
              refine v_putf (r := 18) hO (hi_X5_add_75 hT) rfl (fun hf45 => ?_)
              refine v_push (1) (hi_X5_add_78 hT) rfl ?_
              refine v_ret (hi_X5_add_79 hT) (Or.inl rfl) ?_
              show vP D T N 89 20 (zset (zset (zset (zset (zset (zset g26 19 z.toNat (0, 18)) 20 z.toNat (0, x21)) 21 z.toNat (0, x25)) 22 z.toNat (0, -1)) 18 0 (0, (z + 1))) 18 1 (0, ((s : Int) + 1))) [some (2, 17), some (0, 18), some (0, x21), some (0, x25)] [(0, 1)] _
              refine v_if (hi_X6_readTwo_20 hT) (fun hc46 => absurd (show (1 : Int) = 0 from hc46) (by decide)) (fun _ => ?_)
              refine v_push (1) (hi_X6_readTwo_23 hT) rfl ?_
              refine v_goto (hi_X6_readTwo_24 hT) ?_
              refine v_ret (hi_X6_readTwo_28 hT) (Or.inl rfl) ?_
              show vP D T N 84 33 (zset (zset (zset (zset (zset (zset g26 19 z.toNat (0, 18)) 20 z.toNat (0, x21)) 21 z.toNat (0, x25)) 22 z.toNat (0, -1)) 18 0 (0, (z + 1))) 18 1 (0, ((s : Int) + 1))) [some (2, 17), some (0, x21)] [(0, 1)] _
              refine v_ret (hi_X6_readCrumbs_33 hT) (Or.inl rfl) ?_
              show vP D T N 87 185 (zset (zset (zset (zset (zset (zset g26 19 z.toNat (0, 18)) 20 z.toNat (0, x21)) 21 z.toNat (0, x25)) 22 z.toNat (0, -1)) 18 0 (0, (z + 1))) 18 1 (0, ((s : Int) + 1))) [some (2, 17), some (0, 18)] [(0, 1)] _
              refine v_ret (hi_X6_readStep_185 hT) (Or.inl rfl) ?_
              show vP D T N 88 78 (zset (zset (zset (zset (zset (zset g26 19 z.toNat (0, 18)) 20 z.toNat (0, x21)) 21 z.toNat (0, x25)) 22 z.toNat (0, -1)) 18 0 (0, (z + 1))) 18 1 (0, ((s : Int) + 1))) [some (2, 17), some (2, 24), some (0, w), some (0, x), o] [(0, 1)] _
              refine v_if (hi_X6_readText_78 hT) (fun hc47 => absurd (show (1 : Int) = 0 from hc47) (by decide)) (fun _ => ?_)
              refine v_push (1) (hi_X6_readText_81 hT) rfl ?_
              refine v_goto (hi_X6_readText_82 hT) ?_
              refine v_store1 [some (2, 17), some (2, 24), some (0, w), some (0, x), some (0, 1)] (hi_X6_readText_86 hT) ⟨rfl, Nat.ne_of_beq_eq_false rfl⟩ (Nat.le_of_ble_eq_true rfl) rfl ?_
              refine v_load (v := (0, 1)) (hi_X6_readText_88 hT) rfl rfl ?_
              refine v_if (hi_X6_readText_90 hT) (fun hc48 => absurd (show (1 : Int) = 0 from hc48) (by decide)) (fun _ => ?_)
              refine v_load (v := (2, 17)) (hi_X6_readText_93 hT) rfl rfl ?_
              refine v_getR (c := 10) (r := 17) (hi_X6_readText_94 hT) rfl rfl rfl ?_
              refine v_call (w := 1) [some (2, 10)] hO (hi_X6_readText_97 hT) rfl rfl (cx_stop hT hO (cX.z (r := 18) (k := 1) (v := (0, ((s : Int) + 1))) (by decide) (cX.z (r := 18) (k := 0) (v := (0, (z + 1))) (by decide) (cX.z (r := 22) (k := z.toNat) (v := (0, -1)) (by decide) (cX.z (r := 21) (k := z.toNat) (v := (0, x25)) (by decide) (cX.z (r := 20) (k := z.toNat) (v := (0, x21)) (by decide) (cX.z (r := 19) (k := z.toNat) (v := (0, 18)) (by decide) hX26)))))) (fun g49 ft49 q49 hX49 => ?_) (fun g50 e50 ft50 q50 c50 => ?_))
              · show vP D T N 88 100 g49 [some (2, 17), some (2, 24), some (0, w), some (0, x), some (0, 1)] [(0, 1)] _
                refine vP_hv (fun hv49 => ?_)
                refine v_if (hi_X6_readText_100 hT) (fun hc51 => absurd (show (1 : Int) = 0 from hc51) (by decide)) (fun _ => ?_)
                refine v_iinc (x := x) (u := 1) (w := (x + 1)) [some (2, 17), some (2, 24), some (0, w), some (0, (x + 1)), some (0, 1)] (hi_X6_readText_105 hT) rfl rfl (Nat.le_of_ble_eq_true rfl) (vz_inc (by omega) (by omega)) rfl ?_
                refine v_goto (hi_X6_readText_108 hT) ?_
                exact ih g49 (s + 1) (d + 1) (i + 1 + 1 + 1 + 1 + 1) _ _ _ (some (0, 1)) 18 x21 x25 (i + 1 + 1 + 1 + 1) (by simp only [pStep, hE, hsw, htw, hop, h15, opW15, harg, pNm, (show ¬ 30 ≤ s from by omega), (show ¬ 3 ≤ d from by omega), q22, q26, q49, ne_eq, not_true_eq_false, not_false_eq_true, if_true, if_false, eq_self, eb_l, eb_r, and_true, true_and, and_false, false_and]) hX49 ((cP.z (a := 18) (b := 1) (v := (0, ((s : Int) + 1))) (by decide) (cP.z (a := 18) (b := 0) (v := (0, (z + 1))) (by decide) (cP.z (a := 22) (b := z.toNat) (v := (0, -1)) (by decide) (cP.z (a := 21) (b := z.toNat) (v := (0, x25)) (by decide) (cP.z (a := 20) (b := z.toNat) (v := (0, x21)) (by decide) (cP.z (a := 19) (b := z.toNat) (v := (0, 18)) (by decide) ((((cP.z (a := 17) (b := 4) (v := (0, ((d : Int) + 1))) (by decide) (cP.z (a := 23) (b := (((d : Int)).toNat)) (v := (0, z)) (by decide) (hP.tf ft10))).tf ft20).tf ft22).tf ft26))))))).tf ft49) (Eq.trans (ft49 17 2 (by first | decide | exact fun c => by omega)) (Eq.trans (Eq.trans (zset_ne (fun c => absurd c.1 (by decide))) (Eq.trans (zset_ne (fun c => absurd c.1 (by decide))) (Eq.trans (zset_ne (fun c => absurd c.1 (by decide))) (Eq.trans (zset_ne (fun c => absurd c.1 (by decide))) (Eq.trans (zset_ne (fun c => absurd c.1 (by decide))) (zset_ne (fun c => absurd c.1 (by decide)))))))) ((Eq.trans (ft26 17 2 (by first | decide | exact fun c => by omega)) (Eq.trans (ft22 17 2 (by first | decide | exact fun c => by omega)) (Eq.trans (ft20 17 2 (by first | decide | exact fun c => by omega)) (Eq.trans (Eq.trans (zset_ne (fun c => absurd c.2 (by decide))) (zset_ne (fun c => absurd c.1 (by decide)))) ((Eq.trans (ft10 17 2 (by first | decide | exact fun c => by omega)) hl))))))))) (Eq.trans (ft49 18 1 (by first | decide | exact fun c => by omega)) (zset_same)) (by omega) (Eq.trans (ft49 17 4 (by first | decide | exact fun c => by omega)) (Eq.trans (Eq.trans (zset_ne (fun c => absurd c.1 (by decide))) (Eq.trans (zset_ne (fun c => absurd c.1 (by decide))) (Eq.trans (zset_ne (fun c => absurd c.1 (by decide))) (Eq.trans (zset_ne (fun c => absurd c.1 (by decide))) (Eq.trans (zset_ne (fun c => absurd c.1 (by decide))) (zset_ne (fun c => absurd c.1 (by decide)))))))) ((Eq.trans (ft26 17 4 (by first | decide | exact fun c => by omega)) (Eq.trans (ft22 17 4 (by first | decide | exact fun c => by omega)) (Eq.trans (ft20 17 4 (by first | decide | exact fun c => by omega)) (zset_same))))))) (by omega) (Eq.trans (ft49 18 0 (by first | decide | exact fun c => by omega)) (Eq.trans (zset_ne (fun c => absurd c.2 (by decide))) zset_same)) (by omega) (ob_open (o23_t ft49 (o23_n (r := 18) (k := 1) (v := (0, ((s : Int) + 1))) (by decide) (o23_n (r := 18) (k := 0) (v := (0, (z + 1))) (by decide) (o23_n (r := 22) (k := z.toNat) (v := (0, -1)) (by decide) (o23_n (r := 21) (k := z.toNat) (v := (0, x25)) (by decide) (o23_n (r := 20) (k := z.toNat) (v := (0, x21)) (by decide) (o23_n (r := 19) (k := z.toNat) (v := (0, 18)) (by decide) (o23_t ft26 (o23_t ft22 (o23_t ft20 (o23_n (r := 17) (k := 4) (v := (0, ((d : Int) + 1))) (by decide) (o23_z (k := (((d : Int)).toNat)) (v := (0, z)) (o23_t ft10 (fun _ => Eq.refl _)))))))))))))) ho bz (by omega)) (oFr.t (oFr.z (a := 18) (b := 1) (v := (0, ((s : Int) + 1))) (by omega) (oFr.z (a := 18) (b := 0) (v := (0, (z + 1))) (by omega) (oFr.z (a := 22) (b := z.toNat) (v := (0, -1)) (by omega) (oFr.z (a := 21) (b := z.toNat) (v := (0, x25)) (by omega) (oFr.z (a := 20) (b := z.toNat) (v := (0, x21)) (by omega) (oFr.z (a := 19) (b := z.toNat) (v := (0, 18)) (by omega) (oFr.t (oFr.t (oFr.t (oFr.z (a := 17) (b := 4) (v := (0, ((d : Int) + 1))) (by omega) (oFr.z (a := 23) (b := (((d : Int)).toNat)) (v := (0, z)) (by omega) (oFr.t oFr.rfl ft10))) ft20) ft22) ft26))))))) ft49) rfl (pItV_b h3 h3b (by simp only [hargV, (show ¬ 30 ≤ s from by omega), (show ¬ 3 ≤ d from by omega), q22, q26, q49, ne_eq, not_true_eq_false, not_false_eq_true, if_true, if_false, eq_self, eb_l, eb_r, and_true, true_and, and_false, false_and])) ⟨(kr_f (fun e => ft49 19 e (fun c => by omega)) (kr_n (a := 18) (k := 1) (v := (0, ((s : Int) + 1))) (by decide) (kr_n (a := 18) (k := 0) (v := (0, (z + 1))) (by decide) (kr_n (a := 22) (k := z.toNat) (v := (0, -1)) (by decide) (kr_n (a := 21) (k := z.toNat) (v := (0, x25)) (by decide) (kr_n (a := 20) (k := z.toNat) (v := (0, x21)) (by decide) (kr_z (k := z.toNat) (v := (0, 18)) (kr_f (fun e => ft26 19 e (fun c => by omega)) (kr_f (fun e => ft22 19 e (fun c => by omega)) (kr_f (fun e => ft20 19 e (fun c => by omega)) (kr_n (a := 17) (k := 4) (v := (0, ((d : Int) + 1))) (by decide) (kr_n (a := 23) (k := (((d : Int)).toNat)) (v := (0, z)) (by decide) (kr_f (fun e => ft10 19 e (fun c => by omega)) (fun _ => Eq.refl _)))))))))))))), (kr_f (fun e => ft49 20 e (fun c => by omega)) (kr_n (a := 18) (k := 1) (v := (0, ((s : Int) + 1))) (by decide) (kr_n (a := 18) (k := 0) (v := (0, (z + 1))) (by decide) (kr_n (a := 22) (k := z.toNat) (v := (0, -1)) (by decide) (kr_n (a := 21) (k := z.toNat) (v := (0, x25)) (by decide) (kr_z (k := z.toNat) (v := (0, x21)) (kr_n (a := 19) (k := z.toNat) (v := (0, 18)) (by decide) (kr_f (fun e => ft26 20 e (fun c => by omega)) (kr_f (fun e => ft22 20 e (fun c => by omega)) (kr_f (fun e => ft20 20 e (fun c => by omega)) (kr_n (a := 17) (k := 4) (v := (0, ((d : Int) + 1))) (by decide) (kr_n (a := 23) (k := (((d : Int)).toNat)) (v := (0, z)) (by decide) (kr_f (fun e => ft10 20 e (fun c => by omega)) (fun _ => Eq.refl _)))))))))))))), (kr_f (fun e => ft49 21 e (fun c => by omega)) (kr_n (a := 18) (k := 1) (v := (0, ((s : Int) + 1))) (by decide) (kr_n (a := 18) (k := 0) (v := (0, (z + 1))) (by decide) (kr_n (a := 22) (k := z.toNat) (v := (0, -1)) (by decide) (kr_z (k := z.toNat) (v := (0, x25)) (kr_n (a := 20) (k := z.toNat) (v := (0, x21)) (by decide) (kr_n (a := 19) (k := z.toNat) (v := (0, 18)) (by decide) (kr_f (fun e => ft26 21 e (fun c => by omega)) (kr_f (fun e => ft22 21 e (fun c => by omega)) (kr_f (fun e => ft20 21 e (fun c => by omega)) (kr_n (a := 17) (k := 4) (v := (0, ((d : Int) + 1))) (by decide) (kr_n (a := 23) (k := (((d : Int)).toNat)) (v := (0, z)) (by decide) (kr_f (fun e => ft10 21 e (fun c => by omega)) (fun _ => Eq.refl _)))))))))))))), (kr_f (fun e => ft49 22 e (fun c => by omega)) (kr_n (a := 18) (k := 1) (v := (0, ((s : Int) + 1))) (by decide) (kr_n (a := 18) (k := 0) (v := (0, (z + 1))) (by decide) (kr_z (k := z.toNat) (v := (0, -1)) (kr_n (a := 21) (k := z.toNat) (v := (0, x25)) (by decide) (kr_n (a := 20) (k := z.toNat) (v := (0, x21)) (by decide) (kr_n (a := 19) (k := z.toNat) (v := (0, 18)) (by decide) (kr_f (fun e => ft26 22 e (fun c => by omega)) (kr_f (fun e => ft22 22 e (fun c => by omega)) (kr_f (fun e => ft20 22 e (fun c => by omega)) (kr_n (a := 17) (k := 4) (v := (0, ((d : Int) + 1))) (by decide) (kr_n (a := 23) (k := (((d : Int)).toNat)) (v := (0, z)) (by decide) (kr_f (fun e => ft10 22 e (fun c => by omega)) (fun _ => Eq.refl _))))))))))))))⟩ (kr_f (fun e => ft49 23 e (fun c => by omega)) (kr_n (a := 18) (k := 1) (v := (0, ((s : Int) + 1))) (by decide) (kr_n (a := 18) (k := 0) (v := (0, (z + 1))) (by decide) (kr_n (a := 22) (k := z.toNat) (v := (0, -1)) (by decide) (kr_n (a := 21) (k := z.toNat) (v := (0, x25)) (by decide) (kr_n (a := 20) (k := z.toNat) (v := (0, x21)) (by decide) (kr_n (a := 19) (k := z.toNat) (v := (0, 18)) (by decide) (kr_f (fun e => ft26 23 e (fun c => by omega)) (kr_f (fun e => ft22 23 e (fun c => by omega)) (kr_f (fun e => ft20 23 e (fun c => by omega)) (kr_n (a := 17) (k := 4) (v := (0, ((d : Int) + 1))) (by decide) (kr_z (k := (((d : Int)).toNat)) (v := (0, z)) (kr_f (fun e => ft10 23 e (fun c => by omega)) (fun _ => Eq.refl _))))))))))))))
              · show vP D T N 88 100 g50 [some (2, 17), some (2, 24), some (0, w), some (0, x), some (0, 1)] [(0, 0)] _
                refine vP_hv (fun hv50 => ?_)
                refine v_if (hi_X6_readText_100 hT) (fun _ => ?_) (fun hc52 => absurd (show (0 : Int) = 0 from (by decide)) hc52)
                refine v_push (0) (hi_X6_readText_103 hT) rfl ?_
                refine v_ret (hi_X6_readText_104 hT) (Or.inl rfl) ?_
                exact er _ _ (by simp only [pStep, hE, hsw, htw, hop, h15, opW15, harg, pNm, (show ¬ 30 ≤ s from by omega), (show ¬ 3 ≤ d from by omega), q22, q26, q50, ne_eq, not_true_eq_false, not_false_eq_true, if_true, if_false, eq_self, eb_l, eb_r, and_true, true_and, and_false, false_and]) c50 (oFr.t (oFr.z (a := 18) (b := 1) (v := (0, ((s : Int) + 1))) (by omega) (oFr.z (a := 18) (b := 0) (v := (0, (z + 1))) (by omega) (oFr.z (a := 22) (b := z.toNat) (v := (0, -1)) (by omega) (oFr.z (a := 21) (b := z.toNat) (v := (0, x25)) (by omega) (oFr.z (a := 20) (b := z.toNat) (v := (0, x21)) (by omega) (oFr.z (a := 19) (b := z.toNat) (v := (0, 18)) (by omega) (oFr.t (oFr.t (oFr.t (oFr.z (a := 17) (b := 4) (v := (0, ((d : Int) + 1))) (by omega) (oFr.z (a := 23) (b := (((d : Int)).toNat)) (v := (0, z)) (by omega) (oFr.t oFr.rfl ft10))) ft20) ft22) ft26))))))) ft50)
            · show vP D T N 84 30 g27 [some (2, 17), some (0, x21)] [(0, -1), (0, x21), (0, 18), (2, 17)] _
              refine vP_hv (fun hv27 => ?_)
              refine v_call (w := 4) [some (2, 17), some (0, 18), some (0, x21), some (0, -1)] hO (hi_X6_readCrumbs_30 hT) rfl rfl ?_
              refine v_load (v := (0, x21)) (hi_X6_readTwo_0 hT) rfl rfl ?_
              refine v_push (-1) (hi_X6_readTwo_1 hT) rfl ?_
              refine v_ic (hi_X6_readTwo_2 hT) (fun hc53 => absurd (show x21 = -1 from hc53) (by omega)) (fun _ => ?_)
              refine v_load (v := (0, -1)) (hi_X6_readTwo_5 hT) rfl rfl ?_
              refine v_push (-1) (hi_X6_readTwo_6 hT) rfl ?_
              refine v_ic (hi_X6_readTwo_7 hT) (fun _ => ?_) (fun hc54 => absurd (show (-1 : Int) = -1 from (by decide)) hc54)
              refine v_push (0) (hi_X6_readTwo_27 hT) rfl ?_
              refine v_ret (hi_X6_readTwo_28 hT) (Or.inl rfl) ?_
              show vP D T N 84 33 g27 [some (2, 17), some (0, x21)] [(0, 0)] _
              refine v_ret (hi_X6_readCrumbs_33 hT) (Or.inl rfl) ?_
              show vP D T N 87 185 g27 [some (2, 17), some (0, 18)] [(0, 0)] _
              refine v_ret (hi_X6_readStep_185 hT) (Or.inl rfl) ?_
              show vP D T N 88 78 g27 [some (2, 17), some (2, 24), some (0, w), some (0, x), o] [(0, 0)] _
              refine v_if (hi_X6_readText_78 hT) (fun _ => ?_) (fun hc55 => absurd (show (0 : Int) = 0 from (by decide)) hc55)
              refine v_push (0) (hi_X6_readText_85 hT) rfl ?_
              refine v_store1 [some (2, 17), some (2, 24), some (0, w), some (0, x), some (0, 0)] (hi_X6_readText_86 hT) ⟨rfl, Nat.ne_of_beq_eq_false rfl⟩ (Nat.le_of_ble_eq_true rfl) rfl ?_
              refine v_load (v := (0, 0)) (hi_X6_readText_88 hT) rfl rfl ?_
              refine v_if (hi_X6_readText_90 hT) (fun _ => ?_) (fun hc56 => absurd (show (0 : Int) = 0 from (by decide)) hc56)
              refine v_push (0) (hi_X6_readText_103 hT) rfl ?_
              refine v_ret (hi_X6_readText_104 hT) (Or.inl rfl) ?_
              exact er _ _ (by simp only [pStep, hE, hsw, htw, hop, h15, opW15, harg, pNm, (show ¬ 30 ≤ s from by omega), (show ¬ 3 ≤ d from by omega), q22, q27, ne_eq, not_true_eq_false, not_false_eq_true, if_true, if_false, eq_self, eb_l, eb_r, and_true, true_and, and_false, false_and]) c27 (oFr.t (oFr.t (oFr.t (oFr.z (a := 17) (b := 4) (v := (0, ((d : Int) + 1))) (by omega) (oFr.z (a := 23) (b := (((d : Int)).toNat)) (v := (0, z)) (by omega) (oFr.t oFr.rfl ft10))) ft20) ft22) ft27)
          · show vP D T N 84 7 g23 [some (2, 17), none] [(0, -1)] _
            refine vP_hv (fun hv23 => ?_)
            refine v_store1 [some (2, 17), some (0, -1)] (hi_X6_readCrumbs_7 hT) ⟨rfl, Nat.ne_of_beq_eq_false rfl⟩ (Nat.le_of_ble_eq_true rfl) rfl ?_
            refine v_load (v := (0, -1)) (hi_X6_readCrumbs_8 hT) rfl rfl ?_
            refine v_push (-1) (hi_X6_readCrumbs_9 hT) rfl ?_
            refine v_ic (hi_X6_readCrumbs_10 hT) (fun _ => ?_) (fun hc57 => absurd (show (-1 : Int) = -1 from (by decide)) hc57)
            refine v_push (0) (hz_X6_readCrumbs hT _ _ rfl) rfl ?_
            refine v_ret (hz_X6_readCrumbs hT _ _ rfl) (Or.inl rfl) ?_
            show vP D T N 87 185 g23 [some (2, 17), some (0, 18)] [(0, 0)] _
            refine v_ret (hi_X6_readStep_185 hT) (Or.inl rfl) ?_
            show vP D T N 88 78 g23 [some (2, 17), some (2, 24), some (0, w), some (0, x), o] [(0, 0)] _
            refine v_if (hi_X6_readText_78 hT) (fun _ => ?_) (fun hc58 => absurd (show (0 : Int) = 0 from (by decide)) hc58)
            refine v_push (0) (hi_X6_readText_85 hT) rfl ?_
            refine v_store1 [some (2, 17), some (2, 24), some (0, w), some (0, x), some (0, 0)] (hi_X6_readText_86 hT) ⟨rfl, Nat.ne_of_beq_eq_false rfl⟩ (Nat.le_of_ble_eq_true rfl) rfl ?_
            refine v_load (v := (0, 0)) (hi_X6_readText_88 hT) rfl rfl ?_
            refine v_if (hi_X6_readText_90 hT) (fun _ => ?_) (fun hc59 => absurd (show (0 : Int) = 0 from (by decide)) hc59)
            refine v_push (0) (hi_X6_readText_103 hT) rfl ?_
            refine v_ret (hi_X6_readText_104 hT) (Or.inl rfl) ?_
            exact er _ _ (by simp only [pStep, hE, hsw, htw, hop, h15, opW15, harg, pNm, (show ¬ 30 ≤ s from by omega), (show ¬ 3 ≤ d from by omega), q23, ne_eq, not_true_eq_false, not_false_eq_true, if_true, if_false, eq_self, eb_l, eb_r, and_true, true_and, and_false, false_and]) c23 (oFr.t (oFr.t (oFr.z (a := 17) (b := 4) (v := (0, ((d : Int) + 1))) (by omega) (oFr.z (a := 23) (b := (((d : Int)).toNat)) (v := (0, z)) (by omega) (oFr.t oFr.rfl ft10))) ft20) ft23)
    · have hc8 : 3 ≤ (d : Int) := Int.not_lt.mp hc8
      refine v_load (v := (2, 17)) (hi_X6_mayBegin_91 hT) rfl rfl ?_
      refine v_getR (c := 10) (r := 17) (hi_X6_mayBegin_92 hT) rfl rfl rfl ?_
      refine v_push (7) (hi_X6_mayBegin_95 hT) rfl ?_
      refine v_call (w := 2) [some (2, 10), some (0, 7)] hO (hi_X6_mayBegin_97 hT) rfl rfl (cx_blame hT hO 7 hX (fun g60 ft60 c60 => ?_))
      · show vP D T N 81 100 g60 [some (2, 17), some (0, 15), some (0, 1)] [(0, 0)] _
        refine vP_hv (fun hv60 => ?_)
        refine v_ret (hi_X6_mayBegin_100 hT) (Or.inl rfl) ?_
        show vP D T N 88 67 g60 [some (2, 17), some (2, 24), some (0, w), some (0, x), o] [(0, 0)] _
        refine v_if (hi_X6_readText_67 hT) (fun _ => ?_) (fun hc61 => absurd (show (0 : Int) = 0 from (by decide)) hc61)
        refine v_push (0) (hi_X6_readText_85 hT) rfl ?_
        refine v_store1 [some (2, 17), some (2, 24), some (0, w), some (0, x), some (0, 0)] (hi_X6_readText_86 hT) ⟨rfl, Nat.ne_of_beq_eq_false rfl⟩ (Nat.le_of_ble_eq_true rfl) rfl ?_
        refine v_load (v := (0, 0)) (hi_X6_readText_88 hT) rfl rfl ?_
        refine v_if (hi_X6_readText_90 hT) (fun _ => ?_) (fun hc62 => absurd (show (0 : Int) = 0 from (by decide)) hc62)
        refine v_push (0) (hi_X6_readText_103 hT) rfl ?_
        refine v_ret (hi_X6_readText_104 hT) (Or.inl rfl) ?_
        exact er _ _ (by simp only [pStep, hE, hsw, htw, hop, h15, opW15, harg, pNm, (show ¬ 30 ≤ s from by omega), (show 3 ≤ d from by omega), ne_eq, not_true_eq_false, not_false_eq_true, if_true, if_false, eq_self, eb_l, eb_r, and_true, true_and, and_false, false_and]) c60 (oFr.t oFr.rfl ft60)
  · have hc6 : 30 ≤ (s : Int) := Int.not_lt.mp hc6
    refine v_load (v := (2, 17)) (hi_X6_mayBegin_69 hT) rfl rfl ?_
    refine v_getR (c := 10) (r := 17) (hi_X6_mayBegin_70 hT) rfl rfl rfl ?_
    refine v_push (6) (hi_X6_mayBegin_73 hT) rfl ?_
    refine v_call (w := 2) [some (2, 10), some (0, 6)] hO (hi_X6_mayBegin_75 hT) rfl rfl (cx_blame hT hO 6 hX (fun g63 ft63 c63 => ?_))
    · show vP D T N 81 78 g63 [some (2, 17), some (0, 15), some (0, 1)] [(0, 0)] _
      refine vP_hv (fun hv63 => ?_)
      refine v_ret (hi_X6_mayBegin_78 hT) (Or.inl rfl) ?_
      show vP D T N 88 67 g63 [some (2, 17), some (2, 24), some (0, w), some (0, x), o] [(0, 0)] _
      refine v_if (hi_X6_readText_67 hT) (fun _ => ?_) (fun hc64 => absurd (show (0 : Int) = 0 from (by decide)) hc64)
      refine v_push (0) (hi_X6_readText_85 hT) rfl ?_
      refine v_store1 [some (2, 17), some (2, 24), some (0, w), some (0, x), some (0, 0)] (hi_X6_readText_86 hT) ⟨rfl, Nat.ne_of_beq_eq_false rfl⟩ (Nat.le_of_ble_eq_true rfl) rfl ?_
      refine v_load (v := (0, 0)) (hi_X6_readText_88 hT) rfl rfl ?_
      refine v_if (hi_X6_readText_90 hT) (fun _ => ?_) (fun hc65 => absurd (show (0 : Int) = 0 from (by decide)) hc65)
      refine v_push (0) (hi_X6_readText_103 hT) rfl ?_
      refine v_ret (hi_X6_readText_104 hT) (Or.inl rfl) ?_
      exact er _ _ (by simp only [pStep, hE, hsw, htw, hop, h15, opW15, harg, pNm, (show 30 ≤ s from by omega), ne_eq, not_true_eq_false, not_false_eq_true, if_true, if_false, eq_self, eb_l, eb_r, and_true, true_and, and_false, false_and]) c63 (oFr.t oFr.rfl ft63)
theorem co7_20_24 {D : zD} {T : zT} (hT : hTab T) (hO : vOK T) {N : Nat} {h : zH} {Q : zR → Prop} {B : Nat → Int} {n m i s d : Nat} {τ P : PT} (w x z : Int) (o : Option zV) (hv0 : zHv h) (hX : cX B n m τ i h) (hK : Tks B n m τ) (hP : cP 24 P h) (hb : (0 ≤ P 0 0 ∧ P 0 0 ≤ 8) ∧ (0 ≤ P 0 1 ∧ P 0 1 ≤ 6) ∧ (0 ≤ P 0 2 ∧ P 0 2 ≤ 3) ∧ (0 ≤ P 0 3 ∧ P 0 3 ≤ 6)) (hl : h 17 2 = (2, 24)) (hs : h 18 1 = (0, (s : Int))) (hd : h 17 4 = (0, (d : Int))) (hz : h 18 0 = (0, z)) (bs : s ≤ 30) (bd : d ≤ 3) (bz : 0 ≤ z) (bzd : z + d ≤ 2 * s) (ho : ∀ e : Nat, e < d → 0 ≤ (h 23 e).2 ∧ (h 23 e).2 < z) (hx : 0 ≤ x ∧ x < 900) (h0 : τ 0 i ≠ 0) (hE : bW τ 20 i ≠ 0) (ih : ∀ g s' d' i' a b z' o' f, pStep τ P s d i = .inr (s', d', i') → cX B n m τ i' g → cP 24 P g → g 17 2 = (2, 24) → g 18 1 = (0, a) → a = (s' : Int) → g 17 4 = (0, b) → b = (d' : Int) → g 18 0 = (0, z') → s' ≤ 30 ∧ d' ≤ 3 ∧ 0 ≤ z' ∧ z' + d' ≤ 2 * s' → (∀ e : Nat, e < d' → 0 ≤ (g 23 e).2 ∧ (g 23 e).2 < z') → oFr h g → z' = z + 1 → f = (h 23 (((d : Int) - 1)).toNat).2 → oE4 h g z f → (∀ e, g 23 e = h 23 e) → vP D T N 88 27 g [some (2, 17), some (2, 24), some (0, w), some (0, (x + 1)), o'] [] Q) (er : ∀ g e, pStep τ P s d i = .inl e → cB e g → oFr h g → Q (g, some (0, 0))) :
    vP D T (N + 1) 88 27 h [some (2, 17), some (2, 24), some (0, w), some (0, x), o] [] Q := by
  have hEn : (bEn τ i) = 0 := bEn_n h0
  refine v_loadS (v := (0, x)) (hi_X6_readText_27 hT) rfl rfl ?_
  refine v_push (900) (hi_X6_readText_28 hT) rfl ?_
  refine v_ic (hi_X6_readText_31 hT) (fun _ => ?_) (fun hc1 => absurd (show x < 900 from hx.2) hc1)
  refine v_load (v := (2, 17)) (hi_X6_readText_34 hT) rfl rfl ?_
  refine v_getR (c := 10) (r := 17) (hi_X6_readText_35 hT) rfl rfl rfl ?_
  refine v_call (w := 1) [some (2, 10)] hO (hi_X6_readText_38 hT) rfl rfl (cx_isEnd hT hO hX ?_)
  show vP D T N 88 41 h [some (2, 17), some (2, 24), some (0, w), some (0, x), o] [(0, (bEn τ i))] _
  refine v_if (hi_X6_readText_41 hT) (fun _ => ?_) (fun hc2 => absurd (show (bEn τ i) = 0 from hEn) hc2)
  refine v_load (v := (2, 17)) (hi_X6_readText_44 hT) rfl rfl ?_
  refine v_getR (c := 10) (r := 17) (hi_X6_readText_45 hT) rfl rfl rfl ?_
  refine v_push (20) (hi_X6_readText_48 hT) rfl ?_
  refine v_call (w := 2) [some (2, 10), some (0, 20)] hO (hi_X6_readText_50 hT) rfl rfl (cx_isWord hT hO 20 hX ?_)
  show vP D T N 88 53 h [some (2, 17), some (2, 24), some (0, w), some (0, x), o] [(0, (bW τ 20 i))] _
  refine v_if (hi_X6_readText_53 hT) (fun hc3 => absurd (show (bW τ 20 i) = 0 from hc3) hE) (fun _ => ?_)
  refine v_load (v := (2, 17)) (hz_X6_readText hT _ _ rfl) rfl rfl ?_
  refine v_call (w := 1) [some (2, 17)] hO (hz_X6_readText hT _ _ rfl) rfl rfl ?_
  refine v_load (v := (2, 17)) (hz_X6_readEnd hT _ _ rfl) rfl rfl ?_
  refine v_getf (v := (0, (d : Int))) (r := 17) (hz_X6_readEnd hT _ _ rfl) rfl rfl (fun _ => hd) ?_
  refine v_if (hz_X6_readEnd hT _ _ rfl) (fun hc4 => ?_) (fun hc4 => ?_)
  · have hc4 : 0 < (d : Int) := hc4
    refine v_load (v := (2, 17)) (hz_X6_readEnd hT _ _ rfl) rfl rfl ?_
    refine v_getR (c := 10) (r := 17) (hz_X6_readEnd hT _ _ rfl) rfl rfl rfl ?_
    refine v_call (w := 1) [some (2, 10)] hO (hz_X6_readEnd hT _ _ rfl) rfl rfl (cx_adv hT hO hX (ne_10 (bW_y.mp hE).1) (ne_14 (bW_y.mp hE).1) (fun g5 ft5 hX5 => ?_))
    · show vP D T N 85 23 g5 [some (2, 17)] [] _
      refine vP_hv (fun hv5 => ?_)
      refine v_load (v := (2, 17)) (hz_X6_readEnd hT _ _ rfl) rfl rfl ?_
      refine v_dup (hz_X6_readEnd hT _ _ rfl) (Nat.ne_of_beq_eq_false rfl) ?_
      refine v_getf (v := (0, (d : Int))) (r := 17) (hz_X6_readEnd hT _ _ rfl) rfl rfl (fun _ => (Eq.trans (ft5 17 4 (by first | decide | exact fun c => by omega)) hd)) ?_
      refine v_push (1) (hz_X6_readEnd hT _ _ rfl) rfl ?_
      refine v_bin (w := ((d : Int) - 1)) (hz_X6_readEnd hT _ _ rfl) (hq_sub (by omega) (by omega)) ?_
      refine v_putf (r := 17) hO (hz_X6_readEnd hT _ _ rfl) rfl (fun hf6 => ?_)
      refine v_load (v := (2, 17)) (hz_X6_readEnd hT _ _ rfl) rfl rfl ?_
      refine v_getR (c := 18) (r := 17) (hz_X6_readEnd hT _ _ rfl) rfl rfl rfl ?_
      refine v_load (v := (2, 17)) (hz_X6_readEnd hT _ _ rfl) rfl rfl ?_
      refine v_getR (c := 23) (r := 17) (hz_X6_readEnd hT _ _ rfl) rfl rfl rfl ?_
      refine v_load (v := (2, 17)) (hz_X6_readEnd hT _ _ rfl) rfl rfl ?_
      refine v_getf (v := (0, ((d : Int) - 1))) (r := 17) (hz_X6_readEnd hT _ _ rfl) rfl rfl (fun _ => zset_same) ?_
      refine v_aldE (t := 0) (r := 23) (w := (g5 23 (((d : Int) - 1)).toNat).2) (hz_X6_readEnd hT _ _ rfl) rfl rfl rfl (congrArg Prod.snd (zset_ne (fun c => absurd c.1 (by decide)))) (fun ha7 hb8 => ?_)
      refine v_call (w := 3) [some (2, 18), some (0, (g5 23 (((d : Int) - 1)).toNat).2), none] hO (hz_X6_readEnd hT _ _ rfl) rfl rfl ?_
      refine v_load (v := (2, 18)) (hz_X5_addEnd hT _ _ rfl) rfl rfl ?_
      refine v_getf (v := (0, z)) (r := 18) (hz_X5_addEnd hT _ _ rfl) rfl rfl (fun _ => Eq.trans (zset_ne (fun c => absurd c.1 (by decide))) ((Eq.trans (ft5 18 0 (by first | decide | exact fun c => by omega)) hz))) ?_
      refine v_store1 [some (2, 18), some (0, (g5 23 (((d : Int) - 1)).toNat).2), some (0, z)] (hz_X5_addEnd hT _ _ rfl) ⟨rfl, Nat.ne_of_beq_eq_false rfl⟩ (Nat.le_of_ble_eq_true rfl) rfl ?_
      refine v_load (v := (0, (g5 23 (((d : Int) - 1)).toNat).2)) (hz_X5_addEnd hT _ _ rfl) rfl rfl ?_
      refine v_if (hz_X5_addEnd hT _ _ rfl) (fun hc9 => ?_) (fun hc9 => ?_)
      · have hc9 : (g5 23 (((d : Int) - 1)).toNat).2 < 0 := hc9
        refine v_ret0 (hi_X5_addEnd_49 hT) ?_
        show vP D T N 85 49 (zset g5 17 4 (0, ((d : Int) - 1))) [some (2, 17)] [] _
        refine v_push (1) (hi_X6_readEnd_49 hT) rfl ?_
        refine v_ret (hi_X6_readEnd_50 hT) (Or.inl rfl) ?_
        show vP D T N 88 60 (zset g5 17 4 (0, ((d : Int) - 1))) [some (2, 17), some (2, 24), some (0, w), some (0, x), o] [(0, 1)] _
        refine v_goto (hi_X6_readText_60 hT) ?_
        refine v_store1 [some (2, 17), some (2, 24), some (0, w), some (0, x), some (0, 1)] (hi_X6_readText_86 hT) ⟨rfl, Nat.ne_of_beq_eq_false rfl⟩ (Nat.le_of_ble_eq_true rfl) rfl ?_
        refine v_load (v := (0, 1)) (hi_X6_readText_88 hT) rfl rfl ?_
        refine v_if (hi_X6_readText_90 hT) (fun hc10 => absurd (show (1 : Int) = 0 from hc10) (by decide)) (fun _ => ?_)
        refine v_load (v := (2, 17)) (hi_X6_readText_93 hT) rfl rfl ?_
        refine v_getR (c := 10) (r := 17) (hi_X6_readText_94 hT) rfl rfl rfl ?_
        refine v_call (w := 1) [some (2, 10)] hO (hi_X6_readText_97 hT) rfl rfl (cx_stop hT hO (cX.z (r := 17) (k := 4) (v := (0, ((d : Int) - 1))) (by decide) hX5) (fun g11 ft11 q11 hX11 => ?_) (fun g12 e12 ft12 q12 c12 => ?_))
        · show vP D T N 88 100 g11 [some (2, 17), some (2, 24), some (0, w), some (0, x), some (0, 1)] [(0, 1)] _
          refine vP_hv (fun hv11 => ?_)
          refine v_if (hi_X6_readText_100 hT) (fun hc13 => absurd (show (1 : Int) = 0 from hc13) (by decide)) (fun _ => ?_)
          refine v_iinc (x := x) (u := 1) (w := (x + 1)) [some (2, 17), some (2, 24), some (0, w), some (0, (x + 1)), some (0, 1)] (hi_X6_readText_105 hT) rfl rfl (Nat.le_of_ble_eq_true rfl) (vz_inc (by omega) (by omega)) rfl ?_
          refine v_goto (hi_X6_readText_108 hT) ?_
          exact absurd (ho_at ho (ft5 23 _ (fun c => by omega)) (show (((d : Int) - 1)).toNat < d from by omega)) (fun w_ => by omega)
        · show vP D T N 88 100 g12 [some (2, 17), some (2, 24), some (0, w), some (0, x), some (0, 1)] [(0, 0)] _
          refine vP_hv (fun hv12 => ?_)
          refine v_if (hi_X6_readText_100 hT) (fun _ => ?_) (fun hc14 => absurd (show (0 : Int) = 0 from (by decide)) hc14)
          refine v_push (0) (hi_X6_readText_103 hT) rfl ?_
          refine v_ret (hi_X6_readText_104 hT) (Or.inl rfl) ?_
          exact er _ _ (by simp only [pStep, hE, (show ¬ d = 0 from by omega), q12, ne_eq, not_true_eq_false, not_false_eq_true, if_true, if_false, eq_self, eb_l, eb_r, and_true, true_and, and_false, false_and]) c12 (oFr.t (oFr.z (a := 17) (b := 4) (v := (0, ((d : Int) - 1))) (by omega) (oFr.t oFr.rfl ft5)) ft12)
      · have hc9 : 0 ≤ (g5 23 (((d : Int) - 1)).toNat).2 := Int.not_lt.mp hc9
        refine v_load (v := (0, (g5 23 (((d : Int) - 1)).toNat).2)) (hz_X5_addEnd hT _ _ rfl) rfl rfl ?_
        refine v_load (v := (0, z)) (hz_X5_addEnd hT _ _ rfl) rfl rfl ?_
        refine v_ic (hz_X5_addEnd hT _ _ rfl) (fun hc15 => ?_) (fun hc15 => ?_)
        · have hc15 : (g5 23 (((d : Int) - 1)).toNat).2 < z := hc15
          refine v_load (v := (2, 18)) (hz_X5_addEnd hT _ _ rfl) rfl rfl ?_
          refine v_push (20) (hz_X5_addEnd hT _ _ rfl) rfl ?_
          refine v_push (0) (hz_X5_addEnd hT _ _ rfl) rfl ?_
          refine v_push (0) (hz_X5_addEnd hT _ _ rfl) rfl ?_
          refine v_call (w := 4) [some (2, 18), some (0, 20), some (0, 0), some (0, 0)] hO (hz_X5_addEnd hT _ _ rfl) rfl rfl ?_
          refine v_load (v := (2, 18)) (hi_X5_add_0 hT) rfl rfl ?_
          refine v_getf (v := (0, z)) (r := 18) (hi_X5_add_1 hT) rfl rfl (fun _ => Eq.trans (zset_ne (fun c => absurd c.1 (by decide))) ((Eq.trans (ft5 18 0 (by first | decide | exact fun c => by omega)) hz))) ?_
          refine v_if (hi_X5_add_4 hT) (fun hc16 => absurd (show z < 0 from hc16) (by omega)) (fun _ => ?_)
          refine v_load (v := (2, 18)) (hi_X5_add_7 hT) rfl rfl ?_
          refine v_getf (v := (0, z)) (r := 18) (hi_X5_add_8 hT) rfl rfl (fun _ => Eq.trans (zset_ne (fun c => absurd c.1 (by decide))) ((Eq.trans (ft5 18 0 (by first | decide | exact fun c => by omega)) hz))) ?_
          refine v_push (60) (hi_X5_add_11 hT) rfl ?_
          refine v_ic (hi_X5_add_13 hT) (fun _ => ?_) (fun hc17 => absurd (show z < 60 from (by omega)) hc17)
          refine v_load (v := (2, 18)) (hi_X5_add_18 hT) rfl rfl ?_
          refine v_getR (c := 19) (r := 18) (hi_X5_add_19 hT) rfl rfl rfl ?_
          refine v_load (v := (2, 18)) (hi_X5_add_22 hT) rfl rfl ?_
          refine v_getf (v := (0, z)) (r := 18) (hi_X5_add_23 hT) rfl rfl (fun _ => Eq.trans (zset_ne (fun c => absurd c.1 (by decide))) ((Eq.trans (ft5 18 0 (by first | decide | exact fun c => by omega)) hz))) ?_
          refine v_load (v := (0, 20)) (hi_X5_add_26 hT) rfl rfl ?_
          refine v_ast (r := 19) (hi_X5_add_27 hT) rfl rfl (fun ha18 hb19 hf20 => ?_)
          refine v_load (v := (2, 18)) (hi_X5_add_28 hT) rfl rfl ?_
          refine v_getR (c := 20) (r := 18) (hi_X5_add_29 hT) rfl rfl rfl ?_
          refine v_load (v := (2, 18)) (hi_X5_add_32 hT) rfl rfl ?_
          refine v_getf (v := (0, z)) (r := 18) (hi_X5_add_33 hT) rfl rfl (fun _ => Eq.trans (Eq.trans (zset_ne (fun c => absurd c.1 (by decide))) (zset_ne (fun c => absurd c.1 (by decide)))) ((Eq.trans (ft5 18 0 (by first | decide | exact fun c => by omega)) hz))) ?_
          refine v_load (v := (0, 0)) (hi_X5_add_36 hT) rfl rfl ?_
          refine v_ast (r := 20) (hi_X5_add_37 hT) rfl rfl (fun ha21 hb22 hf23 => ?_)
          refine v_load (v := (2, 18)) (hi_X5_add_38 hT) rfl rfl ?_
          refine v_getR (c := 21) (r := 18) (hi_X5_add_39 hT) rfl rfl rfl ?_
          refine v_load (v := (2, 18)) (hi_X5_add_42 hT) rfl rfl ?_
          refine v_getf (v := (0, z)) (r := 18) (hi_X5_add_43 hT) rfl rfl (fun _ => Eq.trans (Eq.trans (zset_ne (fun c => absurd c.1 (by decide))) (Eq.trans (zset_ne (fun c => absurd c.1 (by decide))) (zset_ne (fun c => absurd c.1 (by decide))))) ((Eq.trans (ft5 18 0 (by first | decide | exact fun c => by omega)) hz))) ?_
          refine v_load (v := (0, 0)) (hi_X5_add_46 hT) rfl rfl ?_
          refine v_ast (r := 21) (hi_X5_add_47 hT) rfl rfl (fun ha24 hb25 hf26 => ?_)
          refine v_load (v := (2, 18)) (hi_X5_add_48 hT) rfl rfl ?_
          refine v_getR (c := 22) (r := 18) (hi_X5_add_49 hT) rfl rfl rfl ?_
          refine v_load (v := (2, 18)) (hi_X5_add_52 hT) rfl rfl ?_
          refine v_getf (v := (0, z)) (r := 18) (hi_X5_add_53 hT) rfl rfl (fun _ => Eq.trans (Eq.trans (zset_ne (fun c => absurd c.1 (by decide))) (Eq.trans (zset_ne (fun c => absurd c.1 (by decide))) (Eq.trans (zset_ne (fun c => absurd c.1 (by decide))) (zset_ne (fun c => absurd c.1 (by decide)))))) ((Eq.trans (ft5 18 0 (by first | decide | exact fun c => by omega)) hz))) ?_
          refine v_push (-1) (hi_X5_add_56 hT) rfl ?_
          refine v_ast (r := 22) (hi_X5_add_57 hT) rfl rfl (fun ha27 hb28 hf29 => ?_)
          refine v_load (v := (2, 18)) (hi_X5_add_58 hT) rfl rfl ?_
          refine v_dup (hi_X5_add_59 hT) (Nat.ne_of_beq_eq_false rfl) ?_
          refine v_getf (v := (0, z)) (r := 18) (hi_X5_add_60 hT) rfl rfl (fun _ => Eq.trans (Eq.trans (zset_ne (fun c => absurd c.1 (by decide))) (Eq.trans (zset_ne (fun c => absurd c.1 (by decide))) (Eq.trans (zset_ne (fun c => absurd c.1 (by decide))) (Eq.trans (zset_ne (fun c => absurd c.1 (by decide))) (zset_ne (fun c => absurd c.1 (by decide))))))) ((Eq.trans (ft5 18 0 (by first | decide | exact fun c => by omega)) hz))) ?_
          refine v_push (1) (hi_X5_add_63 hT) rfl ?_
          refine v_bin (w := (z + 1)) (hi_X5_add_64 hT) (hq_add (by omega) (by omega)) ?_
          refine v_putf (r := 18) hO (hi_X5_add_65 hT) rfl (fun hf30 => ?_)
          refine v_load (v := (2, 18)) (hi_X5_add_68 hT) rfl rfl ?_
          refine v_dup (hi_X5_add_69 hT) (Nat.ne_of_beq_eq_false rfl) ?_
          refine v_getf (v := (0, (s : Int))) (r := 18) (hi_X5_add_70 hT) rfl rfl (fun _ => Eq.trans (Eq.trans (zset_ne (fun c => absurd c.2 (by decide))) (Eq.trans (zset_ne (fun c => absurd c.1 (by decide))) (Eq.trans (zset_ne (fun c => absurd c.1 (by decide))) (Eq.trans (zset_ne (fun c => absurd c.1 (by decide))) (Eq.trans (zset_ne (fun c => absurd c.1 (by decide))) (zset_ne (fun c => absurd c.1 (by decide)))))))) ((Eq.trans (ft5 18 1 (by first | decide | exact fun c => by omega)) hs))) ?_
          refine v_push (1) (hi_X5_add_73 hT) rfl ?_
          refine v_bin (w := ((s : Int) + 1)) (hi_X5_add_74 hT) (hq_add (by omega) (by omega)) ?_
          refine v_putf (r := 18) hO (hi_X5_add_75 hT) rfl (fun hf31 => ?_)
          refine v_push (1) (hi_X5_add_78 hT) rfl ?_
          refine v_ret (hi_X5_add_79 hT) (Or.inl rfl) ?_
          show vP D T N 75 22 (zset (zset (zset (zset (zset (zset (zset g5 17 4 (0, ((d : Int) - 1))) 19 z.toNat (0, 20)) 20 z.toNat (0, 0)) 21 z.toNat (0, 0)) 22 z.toNat (0, -1)) 18 0 (0, (z + 1))) 18 1 (0, ((s : Int) + 1))) [some (2, 18), some (0, (g5 23 (((d : Int) - 1)).toNat).2), some (0, z)] [(0, 1)] _
          refine v_if (hz_X5_addEnd hT _ _ rfl) (fun hc32 => absurd (show (1 : Int) = 0 from hc32) (by decide)) (fun _ => ?_)
          refine v_load (v := (2, 18)) (hz_X5_addEnd hT _ _ rfl) rfl rfl ?_
          refine v_dup (hz_X5_addEnd hT _ _ rfl) (Nat.ne_of_beq_eq_false rfl) ?_
          refine v_getf (v := (0, ((s : Int) + 1))) (r := 18) (hz_X5_addEnd hT _ _ rfl) rfl rfl (fun _ => zset_same) ?_
          refine v_push (1) (hz_X5_addEnd hT _ _ rfl) rfl ?_
          refine v_bin (w := (((s : Int) + 1) - 1)) (hz_X5_addEnd hT _ _ rfl) (hq_sub (by omega) (by omega)) ?_
          refine v_putf (r := 18) hO (hz_X5_addEnd hT _ _ rfl) rfl (fun hf33 => ?_)
          refine v_load (v := (2, 18)) (hz_X5_addEnd hT _ _ rfl) rfl rfl ?_
          refine v_getR (c := 22) (r := 18) (hz_X5_addEnd hT _ _ rfl) rfl rfl rfl ?_
          refine v_load (v := (0, z)) (hz_X5_addEnd hT _ _ rfl) rfl rfl ?_
          refine v_load (v := (0, (g5 23 (((d : Int) - 1)).toNat).2)) (hz_X5_addEnd hT _ _ rfl) rfl rfl ?_
          refine v_ast (r := 22) (hz_X5_addEnd hT _ _ rfl) rfl rfl (fun ha34 hb35 hf36 => ?_)
          refine v_load (v := (2, 18)) (hz_X5_addEnd hT _ _ rfl) rfl rfl ?_
          refine v_getR (c := 22) (r := 18) (hz_X5_addEnd hT _ _ rfl) rfl rfl rfl ?_
          refine v_load (v := (0, (g5 23 (((d : Int) - 1)).toNat).2)) (hz_X5_addEnd hT _ _ rfl) rfl rfl ?_
          refine v_load (v := (0, z)) (hz_X5_addEnd hT _ _ rfl) rfl rfl ?_
          refine v_ast (r := 22) (hz_X5_addEnd hT _ _ rfl) rfl rfl (fun ha37 hb38 hf39 => ?_)
          refine v_ret0 (hi_X5_addEnd_49 hT) ?_
          show vP D T N 85 49 (zset (zset (zset (zset (zset (zset (zset (zset (zset (zset g5 17 4 (0, ((d : Int) - 1))) 19 z.toNat (0, 20)) 20 z.toNat (0, 0)) 21 z.toNat (0, 0)) 22 z.toNat (0, -1)) 18 0 (0, (z + 1))) 18 1 (0, ((s : Int) + 1))) 18 1 (0, (((s : Int) + 1) - 1))) 22 z.toNat (0, (g5 23 (((d : Int) - 1)).toNat).2)) 22 (((g5 23 (((d : Int) - 1)).toNat).2).toNat) (0, z)) [some (2, 17)] [] _
          refine v_push (1) (hi_X6_readEnd_49 hT) rfl ?_
          refine v_ret (hi_X6_readEnd_50 hT) (Or.inl rfl) ?_
          show vP D T N 88 60 (zset (zset (zset (zset (zset (zset (zset (zset (zset (zset g5 17 4 (0, ((d : Int) - 1))) 19 z.toNat (0, 20)) 20 z.toNat (0, 0)) 21 z.toNat (0, 0)) 22 z.toNat (0, -1)) 18 0 (0, (z + 1))) 18 1 (0, ((s : Int) + 1))) 18 1 (0, (((s : Int) + 1) - 1))) 22 z.toNat (0, (g5 23 (((d : Int) - 1)).toNat).2)) 22 (((g5 23 (((d : Int) - 1)).toNat).2).toNat) (0, z)) [some (2, 17), some (2, 24), some (0, w), some (0, x), o] [(0, 1)] _
          refine v_goto (hi_X6_readText_60 hT) ?_
          refine v_store1 [some (2, 17), some (2, 24), some (0, w), some (0, x), some (0, 1)] (hi_X6_readText_86 hT) ⟨rfl, Nat.ne_of_beq_eq_false rfl⟩ (Nat.le_of_ble_eq_true rfl) rfl ?_
          refine v_load (v := (0, 1)) (hi_X6_readText_88 hT) rfl rfl ?_
          refine v_if (hi_X6_readText_90 hT) (fun hc40 => absurd (show (1 : Int) = 0 from hc40) (by decide)) (fun _ => ?_)
          refine v_load (v := (2, 17)) (hi_X6_readText_93 hT) rfl rfl ?_
          refine v_getR (c := 10) (r := 17) (hi_X6_readText_94 hT) rfl rfl rfl ?_
          refine v_call (w := 1) [some (2, 10)] hO (hi_X6_readText_97 hT) rfl rfl (cx_stop hT hO (cX.z (r := 22) (k := (((g5 23 (((d : Int) - 1)).toNat).2).toNat)) (v := (0, z)) (by decide) (cX.z (r := 22) (k := z.toNat) (v := (0, (g5 23 (((d : Int) - 1)).toNat).2)) (by decide) (cX.z (r := 18) (k := 1) (v := (0, (((s : Int) + 1) - 1))) (by decide) (cX.z (r := 18) (k := 1) (v := (0, ((s : Int) + 1))) (by decide) (cX.z (r := 18) (k := 0) (v := (0, (z + 1))) (by decide) (cX.z (r := 22) (k := z.toNat) (v := (0, -1)) (by decide) (cX.z (r := 21) (k := z.toNat) (v := (0, 0)) (by decide) (cX.z (r := 20) (k := z.toNat) (v := (0, 0)) (by decide) (cX.z (r := 19) (k := z.toNat) (v := (0, 20)) (by decide) (cX.z (r := 17) (k := 4) (v := (0, ((d : Int) - 1))) (by decide) hX5)))))))))) (fun g41 ft41 q41 hX41 => ?_) (fun g42 e42 ft42 q42 c42 => ?_))
          · show vP D T N 88 100 g41 [some (2, 17), some (2, 24), some (0, w), some (0, x), some (0, 1)] [(0, 1)] _
            refine vP_hv (fun hv41 => ?_)
            refine v_if (hi_X6_readText_100 hT) (fun hc43 => absurd (show (1 : Int) = 0 from hc43) (by decide)) (fun _ => ?_)
            refine v_iinc (x := x) (u := 1) (w := (x + 1)) [some (2, 17), some (2, 24), some (0, w), some (0, (x + 1)), some (0, 1)] (hi_X6_readText_105 hT) rfl rfl (Nat.le_of_ble_eq_true rfl) (vz_inc (by omega) (by omega)) rfl ?_
            refine v_goto (hi_X6_readText_108 hT) ?_
            exact ih g41 (s) (d - 1) (i + 1 + 1) _ _ _ (some (0, 1)) ((g5 23 (((d : Int) - 1)).toNat).2) (by simp only [pStep, hE, (show ¬ d = 0 from by omega), q41, ne_eq, not_true_eq_false, not_false_eq_true, if_true, if_false, eq_self, eb_l, eb_r, and_true, true_and, and_false, false_and]) hX41 ((cP.z (a := 22) (b := (((g5 23 (((d : Int) - 1)).toNat).2).toNat)) (v := (0, z)) (by decide) (cP.z (a := 22) (b := z.toNat) (v := (0, (g5 23 (((d : Int) - 1)).toNat).2)) (by decide) (cP.z (a := 18) (b := 1) (v := (0, (((s : Int) + 1) - 1))) (by decide) (cP.z (a := 18) (b := 1) (v := (0, ((s : Int) + 1))) (by decide) (cP.z (a := 18) (b := 0) (v := (0, (z + 1))) (by decide) (cP.z (a := 22) (b := z.toNat) (v := (0, -1)) (by decide) (cP.z (a := 21) (b := z.toNat) (v := (0, 0)) (by decide) (cP.z (a := 20) (b := z.toNat) (v := (0, 0)) (by decide) (cP.z (a := 19) (b := z.toNat) (v := (0, 20)) (by decide) (cP.z (a := 17) (b := 4) (v := (0, ((d : Int) - 1))) (by decide) (hP.tf ft5))))))))))).tf ft41) (Eq.trans (ft41 17 2 (by first | decide | exact fun c => by omega)) (Eq.trans (Eq.trans (zset_ne (fun c => absurd c.1 (by decide))) (Eq.trans (zset_ne (fun c => absurd c.1 (by decide))) (Eq.trans (zset_ne (fun c => absurd c.1 (by decide))) (Eq.trans (zset_ne (fun c => absurd c.1 (by decide))) (Eq.trans (zset_ne (fun c => absurd c.1 (by decide))) (Eq.trans (zset_ne (fun c => absurd c.1 (by decide))) (Eq.trans (zset_ne (fun c => absurd c.1 (by decide))) (Eq.trans (zset_ne (fun c => absurd c.1 (by decide))) (Eq.trans (zset_ne (fun c => absurd c.1 (by decide))) (zset_ne (fun c => absurd c.2 (by decide)))))))))))) ((Eq.trans (ft5 17 2 (by first | decide | exact fun c => by omega)) hl)))) (Eq.trans (ft41 18 1 (by first | decide | exact fun c => by omega)) (Eq.trans (Eq.trans (zset_ne (fun c => absurd c.1 (by decide))) (zset_ne (fun c => absurd c.1 (by decide)))) zset_same)) (by omega) (Eq.trans (ft41 17 4 (by first | decide | exact fun c => by omega)) (Eq.trans (Eq.trans (zset_ne (fun c => absurd c.1 (by decide))) (Eq.trans (zset_ne (fun c => absurd c.1 (by decide))) (Eq.trans (zset_ne (fun c => absurd c.1 (by decide))) (Eq.trans (zset_ne (fun c => absurd c.1 (by decide))) (Eq.trans (zset_ne (fun c => absurd c.1 (by decide))) (Eq.trans (zset_ne (fun c => absurd c.1 (by decide))) (Eq.trans (zset_ne (fun c => absurd c.1 (by decide))) (Eq.trans (zset_ne (fun c => absurd c.1 (by decide))) (zset_ne (fun c => absurd c.1 (by decide))))))))))) zset_same)) (by omega) (Eq.trans (ft41 18 0 (by first | decide | exact fun c => by omega)) (Eq.trans (Eq.trans (zset_ne (fun c => absurd c.1 (by decide))) (Eq.trans (zset_ne (fun c => absurd c.1 (by decide))) (Eq.trans (zset_ne (fun c => absurd c.2 (by decide))) (zset_ne (fun c => absurd c.2 (by decide)))))) zset_same)) (by omega) (ob_same (o23_t ft41 (o23_n (r := 22) (k := (((g5 23 (((d : Int) - 1)).toNat).2).toNat)) (v := (0, z)) (by decide) (o23_n (r := 22) (k := z.toNat) (v := (0, (g5 23 (((d : Int) - 1)).toNat).2)) (by decide) (o23_n (r := 18) (k := 1) (v := (0, (((s : Int) + 1) - 1))) (by decide) (o23_n (r := 18) (k := 1) (v := (0, ((s : Int) + 1))) (by decide) (o23_n (r := 18) (k := 0) (v := (0, (z + 1))) (by decide) (o23_n (r := 22) (k := z.toNat) (v := (0, -1)) (by decide) (o23_n (r := 21) (k := z.toNat) (v := (0, 0)) (by decide) (o23_n (r := 20) (k := z.toNat) (v := (0, 0)) (by decide) (o23_n (r := 19) (k := z.toNat) (v := (0, 20)) (by decide) (o23_n (r := 17) (k := 4) (v := (0, ((d : Int) - 1))) (by decide) (o23_t ft5 (fun _ => Eq.refl _))))))))))))) ho (by omega) (by omega)) (oFr.t (oFr.z (a := 22) (b := (((g5 23 (((d : Int) - 1)).toNat).2).toNat)) (v := (0, z)) (by omega) (oFr.z (a := 22) (b := z.toNat) (v := (0, (g5 23 (((d : Int) - 1)).toNat).2)) (by omega) (oFr.z (a := 18) (b := 1) (v := (0, (((s : Int) + 1) - 1))) (by omega) (oFr.z (a := 18) (b := 1) (v := (0, ((s : Int) + 1))) (by omega) (oFr.z (a := 18) (b := 0) (v := (0, (z + 1))) (by omega) (oFr.z (a := 22) (b := z.toNat) (v := (0, -1)) (by omega) (oFr.z (a := 21) (b := z.toNat) (v := (0, 0)) (by omega) (oFr.z (a := 20) (b := z.toNat) (v := (0, 0)) (by omega) (oFr.z (a := 19) (b := z.toNat) (v := (0, 20)) (by omega) (oFr.z (a := 17) (b := 4) (v := (0, ((d : Int) - 1))) (by omega) (oFr.t oFr.rfl ft5))))))))))) ft41) rfl (congrArg Prod.snd (ft5 23 _ (fun c => by omega))) ⟨(kr_f (fun e => ft41 19 e (fun c => by omega)) (kr_n (a := 22) (k := (((g5 23 (((d : Int) - 1)).toNat).2).toNat)) (v := (0, z)) (by decide) (kr_n (a := 22) (k := z.toNat) (v := (0, (g5 23 (((d : Int) - 1)).toNat).2)) (by decide) (kr_n (a := 18) (k := 1) (v := (0, (((s : Int) + 1) - 1))) (by decide) (kr_n (a := 18) (k := 1) (v := (0, ((s : Int) + 1))) (by decide) (kr_n (a := 18) (k := 0) (v := (0, (z + 1))) (by decide) (kr_n (a := 22) (k := z.toNat) (v := (0, -1)) (by decide) (kr_n (a := 21) (k := z.toNat) (v := (0, 0)) (by decide) (kr_n (a := 20) (k := z.toNat) (v := (0, 0)) (by decide) (kr_z (k := z.toNat) (v := (0, 20)) (kr_n (a := 17) (k := 4) (v := (0, ((d : Int) - 1))) (by decide) (kr_f (fun e => ft5 19 e (fun c => by omega)) (fun _ => Eq.refl _))))))))))))), (kr_f (fun e => ft41 20 e (fun c => by omega)) (kr_n (a := 22) (k := (((g5 23 (((d : Int) - 1)).toNat).2).toNat)) (v := (0, z)) (by decide) (kr_n (a := 22) (k := z.toNat) (v := (0, (g5 23 (((d : Int) - 1)).toNat).2)) (by decide) (kr_n (a := 18) (k := 1) (v := (0, (((s : Int) + 1) - 1))) (by decide) (kr_n (a := 18) (k := 1) (v := (0, ((s : Int) + 1))) (by decide) (kr_n (a := 18) (k := 0) (v := (0, (z + 1))) (by decide) (kr_n (a := 22) (k := z.toNat) (v := (0, -1)) (by decide) (kr_n (a := 21) (k := z.toNat) (v := (0, 0)) (by decide) (kr_z (k := z.toNat) (v := (0, 0)) (kr_n (a := 19) (k := z.toNat) (v := (0, 20)) (by decide) (kr_n (a := 17) (k := 4) (v := (0, ((d : Int) - 1))) (by decide) (kr_f (fun e => ft5 20 e (fun c => by omega)) (fun _ => Eq.refl _))))))))))))), (kr_f (fun e => ft41 21 e (fun c => by omega)) (kr_n (a := 22) (k := (((g5 23 (((d : Int) - 1)).toNat).2).toNat)) (v := (0, z)) (by decide) (kr_n (a := 22) (k := z.toNat) (v := (0, (g5 23 (((d : Int) - 1)).toNat).2)) (by decide) (kr_n (a := 18) (k := 1) (v := (0, (((s : Int) + 1) - 1))) (by decide) (kr_n (a := 18) (k := 1) (v := (0, ((s : Int) + 1))) (by decide) (kr_n (a := 18) (k := 0) (v := (0, (z + 1))) (by decide) (kr_n (a := 22) (k := z.toNat) (v := (0, -1)) (by decide) (kr_z (k := z.toNat) (v := (0, 0)) (kr_n (a := 20) (k := z.toNat) (v := (0, 0)) (by decide) (kr_n (a := 19) (k := z.toNat) (v := (0, 20)) (by decide) (kr_n (a := 17) (k := 4) (v := (0, ((d : Int) - 1))) (by decide) (kr_f (fun e => ft5 21 e (fun c => by omega)) (fun _ => Eq.refl _))))))))))))), (kr_f (fun e => ft41 22 e (fun c => by omega)) (kr_z (k := (((g5 23 (((d : Int) - 1)).toNat).2).toNat)) (v := (0, z)) (kr_z (k := z.toNat) (v := (0, (g5 23 (((d : Int) - 1)).toNat).2)) (kr_n (a := 18) (k := 1) (v := (0, (((s : Int) + 1) - 1))) (by decide) (kr_n (a := 18) (k := 1) (v := (0, ((s : Int) + 1))) (by decide) (kr_n (a := 18) (k := 0) (v := (0, (z + 1))) (by decide) (kr_z (k := z.toNat) (v := (0, -1)) (kr_n (a := 21) (k := z.toNat) (v := (0, 0)) (by decide) (kr_n (a := 20) (k := z.toNat) (v := (0, 0)) (by decide) (kr_n (a := 19) (k := z.toNat) (v := (0, 20)) (by decide) (kr_n (a := 17) (k := 4) (v := (0, ((d : Int) - 1))) (by decide) (kr_f (fun e => ft5 22 e (fun c => by omega)) (fun _ => Eq.refl _)))))))))))))⟩ (kr_f (fun e => ft41 23 e (fun c => by omega)) (kr_n (a := 22) (k := (((g5 23 (((d : Int) - 1)).toNat).2).toNat)) (v := (0, z)) (by decide) (kr_n (a := 22) (k := z.toNat) (v := (0, (g5 23 (((d : Int) - 1)).toNat).2)) (by decide) (kr_n (a := 18) (k := 1) (v := (0, (((s : Int) + 1) - 1))) (by decide) (kr_n (a := 18) (k := 1) (v := (0, ((s : Int) + 1))) (by decide) (kr_n (a := 18) (k := 0) (v := (0, (z + 1))) (by decide) (kr_n (a := 22) (k := z.toNat) (v := (0, -1)) (by decide) (kr_n (a := 21) (k := z.toNat) (v := (0, 0)) (by decide) (kr_n (a := 20) (k := z.toNat) (v := (0, 0)) (by decide) (kr_n (a := 19) (k := z.toNat) (v := (0, 20)) (by decide) (kr_n (a := 17) (k := 4) (v := (0, ((d : Int) - 1))) (by decide) (kr_f (fun e => ft5 23 e (fun c => by omega)) (fun _ => Eq.refl _)))))))))))))
          · show vP D T N 88 100 g42 [some (2, 17), some (2, 24), some (0, w), some (0, x), some (0, 1)] [(0, 0)] _
            refine vP_hv (fun hv42 => ?_)
            refine v_if (hi_X6_readText_100 hT) (fun _ => ?_) (fun hc44 => absurd (show (0 : Int) = 0 from (by decide)) hc44)
            refine v_push (0) (hi_X6_readText_103 hT) rfl ?_
            refine v_ret (hi_X6_readText_104 hT) (Or.inl rfl) ?_
            exact er _ _ (by simp only [pStep, hE, (show ¬ d = 0 from by omega), q42, ne_eq, not_true_eq_false, not_false_eq_true, if_true, if_false, eq_self, eb_l, eb_r, and_true, true_and, and_false, false_and]) c42 (oFr.t (oFr.z (a := 22) (b := (((g5 23 (((d : Int) - 1)).toNat).2).toNat)) (v := (0, z)) (by omega) (oFr.z (a := 22) (b := z.toNat) (v := (0, (g5 23 (((d : Int) - 1)).toNat).2)) (by omega) (oFr.z (a := 18) (b := 1) (v := (0, (((s : Int) + 1) - 1))) (by omega) (oFr.z (a := 18) (b := 1) (v := (0, ((s : Int) + 1))) (by omega) (oFr.z (a := 18) (b := 0) (v := (0, (z + 1))) (by omega) (oFr.z (a := 22) (b := z.toNat) (v := (0, -1)) (by omega) (oFr.z (a := 21) (b := z.toNat) (v := (0, 0)) (by omega) (oFr.z (a := 20) (b := z.toNat) (v := (0, 0)) (by omega) (oFr.z (a := 19) (b := z.toNat) (v := (0, 20)) (by omega) (oFr.z (a := 17) (b := 4) (v := (0, ((d : Int) - 1))) (by omega) (oFr.t oFr.rfl ft5))))))))))) ft42)
        · have hc15 : z ≤ (g5 23 (((d : Int) - 1)).toNat).2 := Int.not_lt.mp hc15
          refine v_ret0 (hi_X5_addEnd_49 hT) ?_
          show vP D T N 85 49 (zset g5 17 4 (0, ((d : Int) - 1))) [some (2, 17)] [] _
          refine v_push (1) (hi_X6_readEnd_49 hT) rfl ?_
          refine v_ret (hi_X6_readEnd_50 hT) (Or.inl rfl) ?_
          show vP D T N 88 60 (zset g5 17 4 (0, ((d : Int) - 1))) [some (2, 17), some (2, 24), some (0, w), some (0, x), o] [(0, 1)] _
          refine v_goto (hi_X6_readText_60 hT) ?_
          refine v_store1 [some (2, 17), some (2, 24), some (0, w), some (0, x), some (0, 1)] (hi_X6_readText_86 hT) ⟨rfl, Nat.ne_of_beq_eq_false rfl⟩ (Nat.le_of_ble_eq_true rfl) rfl ?_
          refine v_load (v := (0, 1)) (hi_X6_readText_88 hT) rfl rfl ?_
          refine v_if (hi_X6_readText_90 hT) (fun hc45 => absurd (show (1 : Int) = 0 from hc45) (by decide)) (fun _ => ?_)
          refine v_load (v := (2, 17)) (hi_X6_readText_93 hT) rfl rfl ?_
          refine v_getR (c := 10) (r := 17) (hi_X6_readText_94 hT) rfl rfl rfl ?_
          refine v_call (w := 1) [some (2, 10)] hO (hi_X6_readText_97 hT) rfl rfl (cx_stop hT hO (cX.z (r := 17) (k := 4) (v := (0, ((d : Int) - 1))) (by decide) hX5) (fun g46 ft46 q46 hX46 => ?_) (fun g47 e47 ft47 q47 c47 => ?_))
          · show vP D T N 88 100 g46 [some (2, 17), some (2, 24), some (0, w), some (0, x), some (0, 1)] [(0, 1)] _
            refine vP_hv (fun hv46 => ?_)
            refine v_if (hi_X6_readText_100 hT) (fun hc48 => absurd (show (1 : Int) = 0 from hc48) (by decide)) (fun _ => ?_)
            refine v_iinc (x := x) (u := 1) (w := (x + 1)) [some (2, 17), some (2, 24), some (0, w), some (0, (x + 1)), some (0, 1)] (hi_X6_readText_105 hT) rfl rfl (Nat.le_of_ble_eq_true rfl) (vz_inc (by omega) (by omega)) rfl ?_
            refine v_goto (hi_X6_readText_108 hT) ?_
            exact absurd (ho_at ho (ft5 23 _ (fun c => by omega)) (show (((d : Int) - 1)).toNat < d from by omega)) (fun w_ => by omega)
          · show vP D T N 88 100 g47 [some (2, 17), some (2, 24), some (0, w), some (0, x), some (0, 1)] [(0, 0)] _
            refine vP_hv (fun hv47 => ?_)
            refine v_if (hi_X6_readText_100 hT) (fun _ => ?_) (fun hc49 => absurd (show (0 : Int) = 0 from (by decide)) hc49)
            refine v_push (0) (hi_X6_readText_103 hT) rfl ?_
            refine v_ret (hi_X6_readText_104 hT) (Or.inl rfl) ?_
            exact er _ _ (by simp only [pStep, hE, (show ¬ d = 0 from by omega), q47, ne_eq, not_true_eq_false, not_false_eq_true, if_true, if_false, eq_self, eb_l, eb_r, and_true, true_and, and_false, false_and]) c47 (oFr.t (oFr.z (a := 17) (b := 4) (v := (0, ((d : Int) - 1))) (by omega) (oFr.t oFr.rfl ft5)) ft47)
  · have hc4 : (d : Int) ≤ 0 := Int.not_lt.mp hc4
    refine v_load (v := (2, 17)) (hz_X6_readEnd hT _ _ rfl) rfl rfl ?_
    refine v_getR (c := 10) (r := 17) (hz_X6_readEnd hT _ _ rfl) rfl rfl rfl ?_
    refine v_push (2) (hz_X6_readEnd hT _ _ rfl) rfl ?_
    refine v_call (w := 2) [some (2, 10), some (0, 2)] hO (hz_X6_readEnd hT _ _ rfl) rfl rfl (cx_blame hT hO 2 hX (fun g50 ft50 c50 => ?_))
    · show vP D T N 85 15 g50 [some (2, 17)] [(0, 0)] _
      refine vP_hv (fun hv50 => ?_)
      refine v_ret (hz_X6_readEnd hT _ _ rfl) (Or.inl rfl) ?_
      show vP D T N 88 60 g50 [some (2, 17), some (2, 24), some (0, w), some (0, x), o] [(0, 0)] _
      refine v_goto (hi_X6_readText_60 hT) ?_
      refine v_store1 [some (2, 17), some (2, 24), some (0, w), some (0, x), some (0, 0)] (hi_X6_readText_86 hT) ⟨rfl, Nat.ne_of_beq_eq_false rfl⟩ (Nat.le_of_ble_eq_true rfl) rfl ?_
      refine v_load (v := (0, 0)) (hi_X6_readText_88 hT) rfl rfl ?_
      refine v_if (hi_X6_readText_90 hT) (fun _ => ?_) (fun hc51 => absurd (show (0 : Int) = 0 from (by decide)) hc51)
      refine v_push (0) (hi_X6_readText_103 hT) rfl ?_
      refine v_ret (hi_X6_readText_104 hT) (Or.inl rfl) ?_
      exact er _ _ (by simp only [pStep, hE, (show d = 0 from by omega), ne_eq, not_true_eq_false, not_false_eq_true, if_true, if_false, eq_self, eb_l, eb_r, and_true, true_and, and_false, false_and]) c50 (oFr.t oFr.rfl ft50)
theorem co_8_24 {D : zD} {T : zT} (hT : hTab T) (hO : vOK T) {N : Nat} {h : zH} {Q : zR → Prop} {B : Nat → Int} {n m i s d : Nat} {τ P : PT} (w x z : Int) (o : Option zV) (hv0 : zHv h) (hX : cX B n m τ i h) (hK : Tks B n m τ) (hP : cP 24 P h) (hb : (0 ≤ P 0 0 ∧ P 0 0 ≤ 8) ∧ (0 ≤ P 0 1 ∧ P 0 1 ≤ 6) ∧ (0 ≤ P 0 2 ∧ P 0 2 ≤ 3) ∧ (0 ≤ P 0 3 ∧ P 0 3 ≤ 6)) (hl : h 17 2 = (2, 24)) (hs : h 18 1 = (0, (s : Int))) (hd : h 17 4 = (0, (d : Int))) (hz : h 18 0 = (0, z)) (bs : s ≤ 30) (bd : d ≤ 3) (bz : 0 ≤ z) (bzd : z + d ≤ 2 * s) (ho : ∀ e : Nat, e < d → 0 ≤ (h 23 e).2 ∧ (h 23 e).2 < z) (hx : 0 ≤ x ∧ x < 900) (h0 : τ 0 i ≠ 0) (h1 : τ 0 i = 1) (h3 : τ 3 i = 8) (ih : ∀ g s' d' i' a b z' o', pStep τ P s d i = .inr (s', d', i') → cX B n m τ i' g → cP 24 P g → g 17 2 = (2, 24) → g 18 1 = (0, a) → a = (s' : Int) → g 17 4 = (0, b) → b = (d' : Int) → g 18 0 = (0, z') → s' ≤ 30 ∧ d' ≤ 3 ∧ 0 ≤ z' ∧ z' + d' ≤ 2 * s' → (∀ e : Nat, e < d' → 0 ≤ (g 23 e).2 ∧ (g 23 e).2 < z') → oFr h g → vP D T N 88 27 g [some (2, 17), some (2, 24), some (0, w), some (0, (x + 1)), o'] [] Q) (er : ∀ g e, pStep τ P s d i = .inl e → cB e g → oFr h g → Q (g, some (0, 0))) :
    vP D T (N + 1) 88 27 h [some (2, 17), some (2, 24), some (0, w), some (0, x), o] [] Q :=
  co7_8_24 hT hO w x z o hv0 hX hK hP hb hl hs hd hz bs bd bz bzd ho hx h0 h1 h3 (fun g s' d' i' a b z' o' K u v j p_0 p_1 p_2 p_3 p_4 p_5 p_6 p_7 p_8 p_9 p_10 p_11 p_12 p_13 p_14 p_15 => ih g s' d' i' a b z' o' p_0 p_1 p_2 p_3 p_4 p_5 p_6 p_7 p_8 p_9 p_10 p_11) er
theorem co_9_24 {D : zD} {T : zT} (hT : hTab T) (hO : vOK T) {N : Nat} {h : zH} {Q : zR → Prop} {B : Nat → Int} {n m i s d : Nat} {τ P : PT} (w x z : Int) (o : Option zV) (hv0 : zHv h) (hX : cX B n m τ i h) (hK : Tks B n m τ) (hP : cP 24 P h) (hb : (0 ≤ P 0 0 ∧ P 0 0 ≤ 8) ∧ (0 ≤ P 0 1 ∧ P 0 1 ≤ 6) ∧ (0 ≤ P 0 2 ∧ P 0 2 ≤ 3) ∧ (0 ≤ P 0 3 ∧ P 0 3 ≤ 6)) (hl : h 17 2 = (2, 24)) (hs : h 18 1 = (0, (s : Int))) (hd : h 17 4 = (0, (d : Int))) (hz : h 18 0 = (0, z)) (bs : s ≤ 30) (bd : d ≤ 3) (bz : 0 ≤ z) (bzd : z + d ≤ 2 * s) (ho : ∀ e : Nat, e < d → 0 ≤ (h 23 e).2 ∧ (h 23 e).2 < z) (hx : 0 ≤ x ∧ x < 900) (h0 : τ 0 i ≠ 0) (h1 : τ 0 i = 1) (h3 : τ 3 i = 9) (ih : ∀ g s' d' i' a b z' o', pStep τ P s d i = .inr (s', d', i') → cX B n m τ i' g → cP 24 P g → g 17 2 = (2, 24) → g 18 1 = (0, a) → a = (s' : Int) → g 17 4 = (0, b) → b = (d' : Int) → g 18 0 = (0, z') → s' ≤ 30 ∧ d' ≤ 3 ∧ 0 ≤ z' ∧ z' + d' ≤ 2 * s' → (∀ e : Nat, e < d' → 0 ≤ (g 23 e).2 ∧ (g 23 e).2 < z') → oFr h g → vP D T N 88 27 g [some (2, 17), some (2, 24), some (0, w), some (0, (x + 1)), o'] [] Q) (er : ∀ g e, pStep τ P s d i = .inl e → cB e g → oFr h g → Q (g, some (0, 0))) :
    vP D T (N + 1) 88 27 h [some (2, 17), some (2, 24), some (0, w), some (0, x), o] [] Q :=
  co7_9_24 hT hO w x z o hv0 hX hK hP hb hl hs hd hz bs bd bz bzd ho hx h0 h1 h3 (fun g s' d' i' a b z' o' K u v j p_0 p_1 p_2 p_3 p_4 p_5 p_6 p_7 p_8 p_9 p_10 p_11 p_12 p_13 p_14 p_15 => ih g s' d' i' a b z' o' p_0 p_1 p_2 p_3 p_4 p_5 p_6 p_7 p_8 p_9 p_10 p_11) er
theorem co_10_24 {D : zD} {T : zT} (hT : hTab T) (hO : vOK T) {N : Nat} {h : zH} {Q : zR → Prop} {B : Nat → Int} {n m i s d : Nat} {τ P : PT} (w x z : Int) (o : Option zV) (hv0 : zHv h) (hX : cX B n m τ i h) (hK : Tks B n m τ) (hP : cP 24 P h) (hb : (0 ≤ P 0 0 ∧ P 0 0 ≤ 8) ∧ (0 ≤ P 0 1 ∧ P 0 1 ≤ 6) ∧ (0 ≤ P 0 2 ∧ P 0 2 ≤ 3) ∧ (0 ≤ P 0 3 ∧ P 0 3 ≤ 6)) (hl : h 17 2 = (2, 24)) (hs : h 18 1 = (0, (s : Int))) (hd : h 17 4 = (0, (d : Int))) (hz : h 18 0 = (0, z)) (bs : s ≤ 30) (bd : d ≤ 3) (bz : 0 ≤ z) (bzd : z + d ≤ 2 * s) (ho : ∀ e : Nat, e < d → 0 ≤ (h 23 e).2 ∧ (h 23 e).2 < z) (hx : 0 ≤ x ∧ x < 900) (h0 : τ 0 i ≠ 0) (h1 : τ 0 i = 1) (h3 : τ 3 i = 10) (ih : ∀ g s' d' i' a b z' o', pStep τ P s d i = .inr (s', d', i') → cX B n m τ i' g → cP 24 P g → g 17 2 = (2, 24) → g 18 1 = (0, a) → a = (s' : Int) → g 17 4 = (0, b) → b = (d' : Int) → g 18 0 = (0, z') → s' ≤ 30 ∧ d' ≤ 3 ∧ 0 ≤ z' ∧ z' + d' ≤ 2 * s' → (∀ e : Nat, e < d' → 0 ≤ (g 23 e).2 ∧ (g 23 e).2 < z') → oFr h g → vP D T N 88 27 g [some (2, 17), some (2, 24), some (0, w), some (0, (x + 1)), o'] [] Q) (er : ∀ g e, pStep τ P s d i = .inl e → cB e g → oFr h g → Q (g, some (0, 0))) :
    vP D T (N + 1) 88 27 h [some (2, 17), some (2, 24), some (0, w), some (0, x), o] [] Q :=
  co7_10_24 hT hO w x z o hv0 hX hK hP hb hl hs hd hz bs bd bz bzd ho hx h0 h1 h3 (fun g s' d' i' a b z' o' K u v j p_0 p_1 p_2 p_3 p_4 p_5 p_6 p_7 p_8 p_9 p_10 p_11 p_12 p_13 p_14 p_15 => ih g s' d' i' a b z' o' p_0 p_1 p_2 p_3 p_4 p_5 p_6 p_7 p_8 p_9 p_10 p_11) er
theorem co_11_24 {D : zD} {T : zT} (hT : hTab T) (hO : vOK T) {N : Nat} {h : zH} {Q : zR → Prop} {B : Nat → Int} {n m i s d : Nat} {τ P : PT} (w x z : Int) (o : Option zV) (hv0 : zHv h) (hX : cX B n m τ i h) (hK : Tks B n m τ) (hP : cP 24 P h) (hb : (0 ≤ P 0 0 ∧ P 0 0 ≤ 8) ∧ (0 ≤ P 0 1 ∧ P 0 1 ≤ 6) ∧ (0 ≤ P 0 2 ∧ P 0 2 ≤ 3) ∧ (0 ≤ P 0 3 ∧ P 0 3 ≤ 6)) (hl : h 17 2 = (2, 24)) (hs : h 18 1 = (0, (s : Int))) (hd : h 17 4 = (0, (d : Int))) (hz : h 18 0 = (0, z)) (bs : s ≤ 30) (bd : d ≤ 3) (bz : 0 ≤ z) (bzd : z + d ≤ 2 * s) (ho : ∀ e : Nat, e < d → 0 ≤ (h 23 e).2 ∧ (h 23 e).2 < z) (hx : 0 ≤ x ∧ x < 900) (h0 : τ 0 i ≠ 0) (h1 : τ 0 i = 1) (h3 : τ 3 i = 11) (ih : ∀ g s' d' i' a b z' o', pStep τ P s d i = .inr (s', d', i') → cX B n m τ i' g → cP 24 P g → g 17 2 = (2, 24) → g 18 1 = (0, a) → a = (s' : Int) → g 17 4 = (0, b) → b = (d' : Int) → g 18 0 = (0, z') → s' ≤ 30 ∧ d' ≤ 3 ∧ 0 ≤ z' ∧ z' + d' ≤ 2 * s' → (∀ e : Nat, e < d' → 0 ≤ (g 23 e).2 ∧ (g 23 e).2 < z') → oFr h g → vP D T N 88 27 g [some (2, 17), some (2, 24), some (0, w), some (0, (x + 1)), o'] [] Q) (er : ∀ g e, pStep τ P s d i = .inl e → cB e g → oFr h g → Q (g, some (0, 0))) :
    vP D T (N + 1) 88 27 h [some (2, 17), some (2, 24), some (0, w), some (0, x), o] [] Q :=
  co7_11_24 hT hO w x z o hv0 hX hK hP hb hl hs hd hz bs bd bz bzd ho hx h0 h1 h3 (fun g s' d' i' a b z' o' K u v j p_0 p_1 p_2 p_3 p_4 p_5 p_6 p_7 p_8 p_9 p_10 p_11 p_12 p_13 p_14 p_15 => ih g s' d' i' a b z' o' p_0 p_1 p_2 p_3 p_4 p_5 p_6 p_7 p_8 p_9 p_10 p_11) er
theorem co_12_24 {D : zD} {T : zT} (hT : hTab T) (hO : vOK T) {N : Nat} {h : zH} {Q : zR → Prop} {B : Nat → Int} {n m i s d : Nat} {τ P : PT} (w x z : Int) (o : Option zV) (hv0 : zHv h) (hX : cX B n m τ i h) (hK : Tks B n m τ) (hP : cP 24 P h) (hb : (0 ≤ P 0 0 ∧ P 0 0 ≤ 8) ∧ (0 ≤ P 0 1 ∧ P 0 1 ≤ 6) ∧ (0 ≤ P 0 2 ∧ P 0 2 ≤ 3) ∧ (0 ≤ P 0 3 ∧ P 0 3 ≤ 6)) (hl : h 17 2 = (2, 24)) (hs : h 18 1 = (0, (s : Int))) (hd : h 17 4 = (0, (d : Int))) (hz : h 18 0 = (0, z)) (bs : s ≤ 30) (bd : d ≤ 3) (bz : 0 ≤ z) (bzd : z + d ≤ 2 * s) (ho : ∀ e : Nat, e < d → 0 ≤ (h 23 e).2 ∧ (h 23 e).2 < z) (hx : 0 ≤ x ∧ x < 900) (h0 : τ 0 i ≠ 0) (h1 : τ 0 i = 1) (h3 : τ 3 i = 12) (ih : ∀ g s' d' i' a b z' o', pStep τ P s d i = .inr (s', d', i') → cX B n m τ i' g → cP 24 P g → g 17 2 = (2, 24) → g 18 1 = (0, a) → a = (s' : Int) → g 17 4 = (0, b) → b = (d' : Int) → g 18 0 = (0, z') → s' ≤ 30 ∧ d' ≤ 3 ∧ 0 ≤ z' ∧ z' + d' ≤ 2 * s' → (∀ e : Nat, e < d' → 0 ≤ (g 23 e).2 ∧ (g 23 e).2 < z') → oFr h g → vP D T N 88 27 g [some (2, 17), some (2, 24), some (0, w), some (0, (x + 1)), o'] [] Q) (er : ∀ g e, pStep τ P s d i = .inl e → cB e g → oFr h g → Q (g, some (0, 0))) :
    vP D T (N + 1) 88 27 h [some (2, 17), some (2, 24), some (0, w), some (0, x), o] [] Q :=
  co7_12_24 hT hO w x z o hv0 hX hK hP hb hl hs hd hz bs bd bz bzd ho hx h0 h1 h3 (fun g s' d' i' a b z' o' K u v j p_0 p_1 p_2 p_3 p_4 p_5 p_6 p_7 p_8 p_9 p_10 p_11 p_12 p_13 p_14 p_15 => ih g s' d' i' a b z' o' p_0 p_1 p_2 p_3 p_4 p_5 p_6 p_7 p_8 p_9 p_10 p_11) er
theorem co_13_24 {D : zD} {T : zT} (hT : hTab T) (hO : vOK T) {N : Nat} {h : zH} {Q : zR → Prop} {B : Nat → Int} {n m i s d : Nat} {τ P : PT} (w x z : Int) (o : Option zV) (hv0 : zHv h) (hX : cX B n m τ i h) (hK : Tks B n m τ) (hP : cP 24 P h) (hb : (0 ≤ P 0 0 ∧ P 0 0 ≤ 8) ∧ (0 ≤ P 0 1 ∧ P 0 1 ≤ 6) ∧ (0 ≤ P 0 2 ∧ P 0 2 ≤ 3) ∧ (0 ≤ P 0 3 ∧ P 0 3 ≤ 6)) (hl : h 17 2 = (2, 24)) (hs : h 18 1 = (0, (s : Int))) (hd : h 17 4 = (0, (d : Int))) (hz : h 18 0 = (0, z)) (bs : s ≤ 30) (bd : d ≤ 3) (bz : 0 ≤ z) (bzd : z + d ≤ 2 * s) (ho : ∀ e : Nat, e < d → 0 ≤ (h 23 e).2 ∧ (h 23 e).2 < z) (hx : 0 ≤ x ∧ x < 900) (h0 : τ 0 i ≠ 0) (h1 : τ 0 i = 1) (h3 : τ 3 i = 13) (ih : ∀ g s' d' i' a b z' o', pStep τ P s d i = .inr (s', d', i') → cX B n m τ i' g → cP 24 P g → g 17 2 = (2, 24) → g 18 1 = (0, a) → a = (s' : Int) → g 17 4 = (0, b) → b = (d' : Int) → g 18 0 = (0, z') → s' ≤ 30 ∧ d' ≤ 3 ∧ 0 ≤ z' ∧ z' + d' ≤ 2 * s' → (∀ e : Nat, e < d' → 0 ≤ (g 23 e).2 ∧ (g 23 e).2 < z') → oFr h g → vP D T N 88 27 g [some (2, 17), some (2, 24), some (0, w), some (0, (x + 1)), o'] [] Q) (er : ∀ g e, pStep τ P s d i = .inl e → cB e g → oFr h g → Q (g, some (0, 0))) :
    vP D T (N + 1) 88 27 h [some (2, 17), some (2, 24), some (0, w), some (0, x), o] [] Q :=
  co7_13_24 hT hO w x z o hv0 hX hK hP hb hl hs hd hz bs bd bz bzd ho hx h0 h1 h3 (fun g s' d' i' a b z' o' K u v j p_0 p_1 p_2 p_3 p_4 p_5 p_6 p_7 p_8 p_9 p_10 p_11 p_12 p_13 p_14 p_15 => ih g s' d' i' a b z' o' p_0 p_1 p_2 p_3 p_4 p_5 p_6 p_7 p_8 p_9 p_10 p_11) er
theorem co_14_24 {D : zD} {T : zT} (hT : hTab T) (hO : vOK T) {N : Nat} {h : zH} {Q : zR → Prop} {B : Nat → Int} {n m i s d : Nat} {τ P : PT} (w x z : Int) (o : Option zV) (hv0 : zHv h) (hX : cX B n m τ i h) (hK : Tks B n m τ) (hP : cP 24 P h) (hb : (0 ≤ P 0 0 ∧ P 0 0 ≤ 8) ∧ (0 ≤ P 0 1 ∧ P 0 1 ≤ 6) ∧ (0 ≤ P 0 2 ∧ P 0 2 ≤ 3) ∧ (0 ≤ P 0 3 ∧ P 0 3 ≤ 6)) (hl : h 17 2 = (2, 24)) (hs : h 18 1 = (0, (s : Int))) (hd : h 17 4 = (0, (d : Int))) (hz : h 18 0 = (0, z)) (bs : s ≤ 30) (bd : d ≤ 3) (bz : 0 ≤ z) (bzd : z + d ≤ 2 * s) (ho : ∀ e : Nat, e < d → 0 ≤ (h 23 e).2 ∧ (h 23 e).2 < z) (hx : 0 ≤ x ∧ x < 900) (h0 : τ 0 i ≠ 0) (h1 : τ 0 i = 1) (h3 : τ 3 i = 14) (ih : ∀ g s' d' i' a b z' o', pStep τ P s d i = .inr (s', d', i') → cX B n m τ i' g → cP 24 P g → g 17 2 = (2, 24) → g 18 1 = (0, a) → a = (s' : Int) → g 17 4 = (0, b) → b = (d' : Int) → g 18 0 = (0, z') → s' ≤ 30 ∧ d' ≤ 3 ∧ 0 ≤ z' ∧ z' + d' ≤ 2 * s' → (∀ e : Nat, e < d' → 0 ≤ (g 23 e).2 ∧ (g 23 e).2 < z') → oFr h g → vP D T N 88 27 g [some (2, 17), some (2, 24), some (0, w), some (0, (x + 1)), o'] [] Q) (er : ∀ g e, pStep τ P s d i = .inl e → cB e g → oFr h g → Q (g, some (0, 0))) :
    vP D T (N + 1) 88 27 h [some (2, 17), some (2, 24), some (0, w), some (0, x), o] [] Q :=
  co7_14_24 hT hO w x z o hv0 hX hK hP hb hl hs hd hz bs bd bz bzd ho hx h0 h1 h3 (fun g s' d' i' a b z' o' K u v j p_0 p_1 p_2 p_3 p_4 p_5 p_6 p_7 p_8 p_9 p_10 p_11 p_12 p_13 p_14 p_15 => ih g s' d' i' a b z' o' p_0 p_1 p_2 p_3 p_4 p_5 p_6 p_7 p_8 p_9 p_10 p_11) er
theorem co_19_24 {D : zD} {T : zT} (hT : hTab T) (hO : vOK T) {N : Nat} {h : zH} {Q : zR → Prop} {B : Nat → Int} {n m i s d : Nat} {τ P : PT} (w x z : Int) (o : Option zV) (hv0 : zHv h) (hX : cX B n m τ i h) (hK : Tks B n m τ) (hP : cP 24 P h) (hb : (0 ≤ P 0 0 ∧ P 0 0 ≤ 8) ∧ (0 ≤ P 0 1 ∧ P 0 1 ≤ 6) ∧ (0 ≤ P 0 2 ∧ P 0 2 ≤ 3) ∧ (0 ≤ P 0 3 ∧ P 0 3 ≤ 6)) (hl : h 17 2 = (2, 24)) (hs : h 18 1 = (0, (s : Int))) (hd : h 17 4 = (0, (d : Int))) (hz : h 18 0 = (0, z)) (bs : s ≤ 30) (bd : d ≤ 3) (bz : 0 ≤ z) (bzd : z + d ≤ 2 * s) (ho : ∀ e : Nat, e < d → 0 ≤ (h 23 e).2 ∧ (h 23 e).2 < z) (hx : 0 ≤ x ∧ x < 900) (h0 : τ 0 i ≠ 0) (h1 : τ 0 i = 1) (h3 : τ 3 i = 19) (ih : ∀ g s' d' i' a b z' o', pStep τ P s d i = .inr (s', d', i') → cX B n m τ i' g → cP 24 P g → g 17 2 = (2, 24) → g 18 1 = (0, a) → a = (s' : Int) → g 17 4 = (0, b) → b = (d' : Int) → g 18 0 = (0, z') → s' ≤ 30 ∧ d' ≤ 3 ∧ 0 ≤ z' ∧ z' + d' ≤ 2 * s' → (∀ e : Nat, e < d' → 0 ≤ (g 23 e).2 ∧ (g 23 e).2 < z') → oFr h g → vP D T N 88 27 g [some (2, 17), some (2, 24), some (0, w), some (0, (x + 1)), o'] [] Q) (er : ∀ g e, pStep τ P s d i = .inl e → cB e g → oFr h g → Q (g, some (0, 0))) :
    vP D T (N + 1) 88 27 h [some (2, 17), some (2, 24), some (0, w), some (0, x), o] [] Q :=
  co7_19_24 hT hO w x z o hv0 hX hK hP hb hl hs hd hz bs bd bz bzd ho hx h0 h1 h3 (fun g s' d' i' a b z' o' K u v j p_0 p_1 p_2 p_3 p_4 p_5 p_6 p_7 p_8 p_9 p_10 p_11 p_12 p_13 p_14 p_15 => ih g s' d' i' a b z' o' p_0 p_1 p_2 p_3 p_4 p_5 p_6 p_7 p_8 p_9 p_10 p_11) er
theorem co_21_24 {D : zD} {T : zT} (hT : hTab T) (hO : vOK T) {N : Nat} {h : zH} {Q : zR → Prop} {B : Nat → Int} {n m i s d : Nat} {τ P : PT} (w x z : Int) (o : Option zV) (hv0 : zHv h) (hX : cX B n m τ i h) (hK : Tks B n m τ) (hP : cP 24 P h) (hb : (0 ≤ P 0 0 ∧ P 0 0 ≤ 8) ∧ (0 ≤ P 0 1 ∧ P 0 1 ≤ 6) ∧ (0 ≤ P 0 2 ∧ P 0 2 ≤ 3) ∧ (0 ≤ P 0 3 ∧ P 0 3 ≤ 6)) (hl : h 17 2 = (2, 24)) (hs : h 18 1 = (0, (s : Int))) (hd : h 17 4 = (0, (d : Int))) (hz : h 18 0 = (0, z)) (bs : s ≤ 30) (bd : d ≤ 3) (bz : 0 ≤ z) (bzd : z + d ≤ 2 * s) (ho : ∀ e : Nat, e < d → 0 ≤ (h 23 e).2 ∧ (h 23 e).2 < z) (hx : 0 ≤ x ∧ x < 900) (h0 : τ 0 i ≠ 0) (h1 : τ 0 i = 1) (h3 : τ 3 i = 21) (ih : ∀ g s' d' i' a b z' o', pStep τ P s d i = .inr (s', d', i') → cX B n m τ i' g → cP 24 P g → g 17 2 = (2, 24) → g 18 1 = (0, a) → a = (s' : Int) → g 17 4 = (0, b) → b = (d' : Int) → g 18 0 = (0, z') → s' ≤ 30 ∧ d' ≤ 3 ∧ 0 ≤ z' ∧ z' + d' ≤ 2 * s' → (∀ e : Nat, e < d' → 0 ≤ (g 23 e).2 ∧ (g 23 e).2 < z') → oFr h g → vP D T N 88 27 g [some (2, 17), some (2, 24), some (0, w), some (0, (x + 1)), o'] [] Q) (er : ∀ g e, pStep τ P s d i = .inl e → cB e g → oFr h g → Q (g, some (0, 0))) :
    vP D T (N + 1) 88 27 h [some (2, 17), some (2, 24), some (0, w), some (0, x), o] [] Q :=
  co7_21_24 hT hO w x z o hv0 hX hK hP hb hl hs hd hz bs bd bz bzd ho hx h0 h1 h3 (fun g s' d' i' a b z' o' K u v j p_0 p_1 p_2 p_3 p_4 p_5 p_6 p_7 p_8 p_9 p_10 p_11 p_12 p_13 p_14 p_15 => ih g s' d' i' a b z' o' p_0 p_1 p_2 p_3 p_4 p_5 p_6 p_7 p_8 p_9 p_10 p_11) er
theorem co_15_16_24 {D : zD} {T : zT} (hT : hTab T) (hO : vOK T) {N : Nat} {h : zH} {Q : zR → Prop} {B : Nat → Int} {n m i s d : Nat} {τ P : PT} (w x z : Int) (o : Option zV) (hv0 : zHv h) (hX : cX B n m τ i h) (hK : Tks B n m τ) (hP : cP 24 P h) (hb : (0 ≤ P 0 0 ∧ P 0 0 ≤ 8) ∧ (0 ≤ P 0 1 ∧ P 0 1 ≤ 6) ∧ (0 ≤ P 0 2 ∧ P 0 2 ≤ 3) ∧ (0 ≤ P 0 3 ∧ P 0 3 ≤ 6)) (hl : h 17 2 = (2, 24)) (hs : h 18 1 = (0, (s : Int))) (hd : h 17 4 = (0, (d : Int))) (hz : h 18 0 = (0, z)) (bs : s ≤ 30) (bd : d ≤ 3) (bz : 0 ≤ z) (bzd : z + d ≤ 2 * s) (ho : ∀ e : Nat, e < d → 0 ≤ (h 23 e).2 ∧ (h 23 e).2 < z) (hx : 0 ≤ x ∧ x < 900) (h0 : τ 0 i ≠ 0) (h1 : τ 0 i = 1) (h3 : τ 3 i = 15) (h1b : τ 0 (i + 1) = 1) (h3b : τ 3 (i + 1) = 16) (ih : ∀ g s' d' i' a b z' o', pStep τ P s d i = .inr (s', d', i') → cX B n m τ i' g → cP 24 P g → g 17 2 = (2, 24) → g 18 1 = (0, a) → a = (s' : Int) → g 17 4 = (0, b) → b = (d' : Int) → g 18 0 = (0, z') → s' ≤ 30 ∧ d' ≤ 3 ∧ 0 ≤ z' ∧ z' + d' ≤ 2 * s' → (∀ e : Nat, e < d' → 0 ≤ (g 23 e).2 ∧ (g 23 e).2 < z') → oFr h g → vP D T N 88 27 g [some (2, 17), some (2, 24), some (0, w), some (0, (x + 1)), o'] [] Q) (er : ∀ g e, pStep τ P s d i = .inl e → cB e g → oFr h g → Q (g, some (0, 0))) :
    vP D T (N + 1) 88 27 h [some (2, 17), some (2, 24), some (0, w), some (0, x), o] [] Q :=
  co7_15_16_24 hT hO w x z o hv0 hX hK hP hb hl hs hd hz bs bd bz bzd ho hx h0 h1 h3 h1b h3b (fun g s' d' i' a b z' o' K u v j p_0 p_1 p_2 p_3 p_4 p_5 p_6 p_7 p_8 p_9 p_10 p_11 p_12 p_13 p_14 p_15 => ih g s' d' i' a b z' o' p_0 p_1 p_2 p_3 p_4 p_5 p_6 p_7 p_8 p_9 p_10 p_11) er
theorem co_15_17_24 {D : zD} {T : zT} (hT : hTab T) (hO : vOK T) {N : Nat} {h : zH} {Q : zR → Prop} {B : Nat → Int} {n m i s d : Nat} {τ P : PT} (w x z : Int) (o : Option zV) (hv0 : zHv h) (hX : cX B n m τ i h) (hK : Tks B n m τ) (hP : cP 24 P h) (hb : (0 ≤ P 0 0 ∧ P 0 0 ≤ 8) ∧ (0 ≤ P 0 1 ∧ P 0 1 ≤ 6) ∧ (0 ≤ P 0 2 ∧ P 0 2 ≤ 3) ∧ (0 ≤ P 0 3 ∧ P 0 3 ≤ 6)) (hl : h 17 2 = (2, 24)) (hs : h 18 1 = (0, (s : Int))) (hd : h 17 4 = (0, (d : Int))) (hz : h 18 0 = (0, z)) (bs : s ≤ 30) (bd : d ≤ 3) (bz : 0 ≤ z) (bzd : z + d ≤ 2 * s) (ho : ∀ e : Nat, e < d → 0 ≤ (h 23 e).2 ∧ (h 23 e).2 < z) (hx : 0 ≤ x ∧ x < 900) (h0 : τ 0 i ≠ 0) (h1 : τ 0 i = 1) (h3 : τ 3 i = 15) (h1b : τ 0 (i + 1) = 1) (h3b : τ 3 (i + 1) = 17) (ih : ∀ g s' d' i' a b z' o', pStep τ P s d i = .inr (s', d', i') → cX B n m τ i' g → cP 24 P g → g 17 2 = (2, 24) → g 18 1 = (0, a) → a = (s' : Int) → g 17 4 = (0, b) → b = (d' : Int) → g 18 0 = (0, z') → s' ≤ 30 ∧ d' ≤ 3 ∧ 0 ≤ z' ∧ z' + d' ≤ 2 * s' → (∀ e : Nat, e < d' → 0 ≤ (g 23 e).2 ∧ (g 23 e).2 < z') → oFr h g → vP D T N 88 27 g [some (2, 17), some (2, 24), some (0, w), some (0, (x + 1)), o'] [] Q) (er : ∀ g e, pStep τ P s d i = .inl e → cB e g → oFr h g → Q (g, some (0, 0))) :
    vP D T (N + 1) 88 27 h [some (2, 17), some (2, 24), some (0, w), some (0, x), o] [] Q :=
  co7_15_17_24 hT hO w x z o hv0 hX hK hP hb hl hs hd hz bs bd bz bzd ho hx h0 h1 h3 h1b h3b (fun g s' d' i' a b z' o' K u v j p_0 p_1 p_2 p_3 p_4 p_5 p_6 p_7 p_8 p_9 p_10 p_11 p_12 p_13 p_14 p_15 => ih g s' d' i' a b z' o' p_0 p_1 p_2 p_3 p_4 p_5 p_6 p_7 p_8 p_9 p_10 p_11) er
theorem co_15_18_24 {D : zD} {T : zT} (hT : hTab T) (hO : vOK T) {N : Nat} {h : zH} {Q : zR → Prop} {B : Nat → Int} {n m i s d : Nat} {τ P : PT} (w x z : Int) (o : Option zV) (hv0 : zHv h) (hX : cX B n m τ i h) (hK : Tks B n m τ) (hP : cP 24 P h) (hb : (0 ≤ P 0 0 ∧ P 0 0 ≤ 8) ∧ (0 ≤ P 0 1 ∧ P 0 1 ≤ 6) ∧ (0 ≤ P 0 2 ∧ P 0 2 ≤ 3) ∧ (0 ≤ P 0 3 ∧ P 0 3 ≤ 6)) (hl : h 17 2 = (2, 24)) (hs : h 18 1 = (0, (s : Int))) (hd : h 17 4 = (0, (d : Int))) (hz : h 18 0 = (0, z)) (bs : s ≤ 30) (bd : d ≤ 3) (bz : 0 ≤ z) (bzd : z + d ≤ 2 * s) (ho : ∀ e : Nat, e < d → 0 ≤ (h 23 e).2 ∧ (h 23 e).2 < z) (hx : 0 ≤ x ∧ x < 900) (h0 : τ 0 i ≠ 0) (h1 : τ 0 i = 1) (h3 : τ 3 i = 15) (h1b : τ 0 (i + 1) = 1) (h3b : τ 3 (i + 1) = 18) (ih : ∀ g s' d' i' a b z' o', pStep τ P s d i = .inr (s', d', i') → cX B n m τ i' g → cP 24 P g → g 17 2 = (2, 24) → g 18 1 = (0, a) → a = (s' : Int) → g 17 4 = (0, b) → b = (d' : Int) → g 18 0 = (0, z') → s' ≤ 30 ∧ d' ≤ 3 ∧ 0 ≤ z' ∧ z' + d' ≤ 2 * s' → (∀ e : Nat, e < d' → 0 ≤ (g 23 e).2 ∧ (g 23 e).2 < z') → oFr h g → vP D T N 88 27 g [some (2, 17), some (2, 24), some (0, w), some (0, (x + 1)), o'] [] Q) (er : ∀ g e, pStep τ P s d i = .inl e → cB e g → oFr h g → Q (g, some (0, 0))) :
    vP D T (N + 1) 88 27 h [some (2, 17), some (2, 24), some (0, w), some (0, x), o] [] Q :=
  co7_15_18_24 hT hO w x z o hv0 hX hK hP hb hl hs hd hz bs bd bz bzd ho hx h0 h1 h3 h1b h3b (fun g s' d' i' a b z' o' K u v j p_0 p_1 p_2 p_3 p_4 p_5 p_6 p_7 p_8 p_9 p_10 p_11 p_12 p_13 p_14 p_15 => ih g s' d' i' a b z' o' p_0 p_1 p_2 p_3 p_4 p_5 p_6 p_7 p_8 p_9 p_10 p_11) er
theorem co_15x_24 {D : zD} {T : zT} (hT : hTab T) (hO : vOK T) {N : Nat} {h : zH} {Q : zR → Prop} {B : Nat → Int} {n m i s d : Nat} {τ P : PT} (w x z : Int) (o : Option zV) (hv0 : zHv h) (hX : cX B n m τ i h) (hK : Tks B n m τ) (hP : cP 24 P h) (hb : (0 ≤ P 0 0 ∧ P 0 0 ≤ 8) ∧ (0 ≤ P 0 1 ∧ P 0 1 ≤ 6) ∧ (0 ≤ P 0 2 ∧ P 0 2 ≤ 3) ∧ (0 ≤ P 0 3 ∧ P 0 3 ≤ 6)) (hl : h 17 2 = (2, 24)) (hs : h 18 1 = (0, (s : Int))) (hd : h 17 4 = (0, (d : Int))) (hz : h 18 0 = (0, z)) (bs : s ≤ 30) (bd : d ≤ 3) (bz : 0 ≤ z) (bzd : z + d ≤ 2 * s) (ho : ∀ e : Nat, e < d → 0 ≤ (h 23 e).2 ∧ (h 23 e).2 < z) (hx : 0 ≤ x ∧ x < 900) (h0 : τ 0 i ≠ 0) (h1 : τ 0 i = 1) (h3 : τ 3 i = 15) (htw : twd τ (i + 1) < 0) (hbh : bHw τ (i + 1) < 16 ∨ 18 < bHw τ (i + 1)) (ih : ∀ g s' d' i' a b z' o', pStep τ P s d i = .inr (s', d', i') → cX B n m τ i' g → cP 24 P g → g 17 2 = (2, 24) → g 18 1 = (0, a) → a = (s' : Int) → g 17 4 = (0, b) → b = (d' : Int) → g 18 0 = (0, z') → s' ≤ 30 ∧ d' ≤ 3 ∧ 0 ≤ z' ∧ z' + d' ≤ 2 * s' → (∀ e : Nat, e < d' → 0 ≤ (g 23 e).2 ∧ (g 23 e).2 < z') → oFr h g → vP D T N 88 27 g [some (2, 17), some (2, 24), some (0, w), some (0, (x + 1)), o'] [] Q) (er : ∀ g e, pStep τ P s d i = .inl e → cB e g → oFr h g → Q (g, some (0, 0))) :
    vP D T (N + 1) 88 27 h [some (2, 17), some (2, 24), some (0, w), some (0, x), o] [] Q := by
  have hEn : (bEn τ i) = 0 := bEn_n h0
  have hE : (bW τ 20 i) = 0 := bW_0.mpr (fun c => absurd (h3.symm.trans c.2) (by decide))
  have hsw : ¬ swd τ i < 0 := by rw [swd_v h1, h3]; decide
  have hop : opW (τ 3 i) = true := by rw [h3]; rfl
  have h15 : τ 3 i = 15 := h3
  refine v_loadS (v := (0, x)) (hi_X6_readText_27 hT) rfl rfl ?_
  refine v_push (900) (hi_X6_readText_28 hT) rfl ?_
  refine v_ic (hi_X6_readText_31 hT) (fun _ => ?_) (fun hc1 => absurd (show x < 900 from hx.2) hc1)
  refine v_load (v := (2, 17)) (hi_X6_readText_34 hT) rfl rfl ?_
  refine v_getR (c := 10) (r := 17) (hi_X6_readText_35 hT) rfl rfl rfl ?_
  refine v_call (w := 1) [some (2, 10)] hO (hi_X6_readText_38 hT) rfl rfl (cx_isEnd hT hO hX ?_)
  show vP D T N 88 41 h [some (2, 17), some (2, 24), some (0, w), some (0, x), o] [(0, (bEn τ i))] _
  refine v_if (hi_X6_readText_41 hT) (fun _ => ?_) (fun hc2 => absurd (show (bEn τ i) = 0 from hEn) hc2)
  refine v_load (v := (2, 17)) (hi_X6_readText_44 hT) rfl rfl ?_
  refine v_getR (c := 10) (r := 17) (hi_X6_readText_45 hT) rfl rfl rfl ?_
  refine v_push (20) (hi_X6_readText_48 hT) rfl ?_
  refine v_call (w := 2) [some (2, 10), some (0, 20)] hO (hi_X6_readText_50 hT) rfl rfl (cx_isWord hT hO 20 hX ?_)
  show vP D T N 88 53 h [some (2, 17), some (2, 24), some (0, w), some (0, x), o] [(0, (bW τ 20 i))] _
  refine v_if (hi_X6_readText_53 hT) (fun _ => ?_) (fun hc3 => absurd (show (bW τ 20 i) = 0 from hE) hc3)
  refine v_load (v := (2, 17)) (hi_X6_readText_63 hT) rfl rfl ?_
  refine v_call (w := 3) [some (2, 17), none, none] hO (hi_X6_readText_64 hT) rfl rfl ?_
  refine v_load (v := (2, 17)) (hi_X6_mayBegin_0 hT) rfl rfl ?_
  refine v_getR (c := 10) (r := 17) (hi_X6_mayBegin_1 hT) rfl rfl rfl ?_
  refine v_call (w := 1) [some (2, 10)] hO (hi_X6_mayBegin_4 hT) rfl rfl (cx_wordK hT hO 15 hX h1 h3 ?_)
  show vP D T N 81 7 h [some (2, 17), none, none] [(0, 15)] _
  refine v_store1 [some (2, 17), some (0, 15), none] (hi_X6_mayBegin_7 hT) ⟨rfl, Nat.ne_of_beq_eq_false rfl⟩ (Nat.le_of_ble_eq_true rfl) rfl ?_
  refine v_load (v := (0, 15)) (hi_X6_mayBegin_8 hT) rfl rfl ?_
  refine v_push (15) (hi_X6_mayBegin_9 hT) rfl ?_
  refine v_ic (hi_X6_mayBegin_11 hT) (fun _ => ?_) (fun hc4 => absurd (show (15 : Int) = 15 from (by decide)) hc4)
  refine v_push (1) (hi_X6_mayBegin_20 hT) rfl ?_
  refine v_goto (hi_X6_mayBegin_21 hT) ?_
  refine v_store1 [some (2, 17), some (0, 15), some (0, 1)] (hi_X6_mayBegin_25 hT) ⟨rfl, Nat.ne_of_beq_eq_false rfl⟩ (Nat.le_of_ble_eq_true rfl) rfl ?_
  refine v_load (v := (0, 1)) (hi_X6_mayBegin_26 hT) rfl rfl ?_
  refine v_if (hi_X6_mayBegin_27 hT) (fun hc5 => absurd (show (1 : Int) = 0 from hc5) (by decide)) (fun _ => ?_)
  refine v_load (v := (2, 17)) (hi_X6_mayBegin_57 hT) rfl rfl ?_
  refine v_getR (c := 18) (r := 17) (hi_X6_mayBegin_58 hT) rfl rfl rfl ?_
  refine v_getf (v := (0, (s : Int))) (r := 18) (hi_X6_mayBegin_61 hT) rfl rfl (fun _ => hs) ?_
  refine v_push (30) (hi_X6_mayBegin_64 hT) rfl ?_
  refine v_ic (hi_X6_mayBegin_66 hT) (fun hc6 => ?_) (fun hc6 => ?_)
  · have hc6 : (s : Int) < 30 := hc6
    refine v_load (v := (0, 1)) (hi_X6_mayBegin_79 hT) rfl rfl ?_
    refine v_if (hi_X6_mayBegin_80 hT) (fun hc7 => absurd (show (1 : Int) = 0 from hc7) (by decide)) (fun _ => ?_)
    refine v_load (v := (2, 17)) (hi_X6_mayBegin_83 hT) rfl rfl ?_
    refine v_getf (v := (0, (d : Int))) (r := 17) (hi_X6_mayBegin_84 hT) rfl rfl (fun _ => hd) ?_
    refine v_push (3) (hi_X6_mayBegin_87 hT) rfl ?_
    refine v_ic (hi_X6_mayBegin_88 hT) (fun hc8 => ?_) (fun hc8 => ?_)
    · have hc8 : (d : Int) < 3 := hc8
      refine v_push (1) (hi_X6_mayBegin_101 hT) rfl ?_
      refine v_ret (hi_X6_mayBegin_102 hT) (Or.inl rfl) ?_
      show vP D T N 88 67 h [some (2, 17), some (2, 24), some (0, w), some (0, x), o] [(0, 1)] _
      refine v_if (hi_X6_readText_67 hT) (fun hc9 => absurd (show (1 : Int) = 0 from hc9) (by decide)) (fun _ => ?_)
      refine v_load (v := (2, 17)) (hi_X6_readText_70 hT) rfl rfl ?_
      refine v_load (v := (2, 17)) (hi_X6_readText_71 hT) rfl rfl ?_
      refine v_call (w := 3) [some (2, 17), none, none] hO (hi_X6_readText_72 hT) rfl rfl ?_
      refine v_load (v := (2, 17)) (hi_X6_beginStep_0 hT) rfl rfl ?_
      refine v_getR (c := 10) (r := 17) (hi_X6_beginStep_1 hT) rfl rfl rfl ?_
      refine v_call (w := 1) [some (2, 10)] hO (hi_X6_beginStep_4 hT) rfl rfl (cx_wordK hT hO 15 hX h1 h3 ?_)
      show vP D T N 80 7 h [some (2, 17), none, none] [(0, 15)] _
      refine v_store1 [some (2, 17), some (0, 15), none] (hi_X6_beginStep_7 hT) ⟨rfl, Nat.ne_of_beq_eq_false rfl⟩ (Nat.le_of_ble_eq_true rfl) rfl ?_
      refine v_load (v := (2, 17)) (hi_X6_beginStep_8 hT) rfl rfl ?_
      refine v_getR (c := 10) (r := 17) (hi_X6_beginStep_9 hT) rfl rfl rfl ?_
      refine v_call (w := 1) [some (2, 10)] hO (hi_X6_beginStep_12 hT) rfl rfl (cx_adv hT hO hX (ne_10 h1) (ne_14 h1) (fun g10 ft10 hX10 => ?_))
      · show vP D T N 80 15 g10 [some (2, 17), some (0, 15), none] [] _
        refine vP_hv (fun hv10 => ?_)
        refine v_load (v := (0, 15)) (hi_X6_beginStep_15 hT) rfl rfl ?_
        refine v_push (15) (hi_X6_beginStep_16 hT) rfl ?_
        refine v_ic (hi_X6_beginStep_18 hT) (fun _ => ?_) (fun hc11 => absurd (show (15 : Int) = 15 from (by decide)) hc11)
        refine v_load (v := (2, 17)) (hi_X6_beginStep_27 hT) rfl rfl ?_
        refine v_getf (v := (0, (d : Int))) (r := 17) (hi_X6_beginStep_28 hT) rfl rfl (fun _ => (Eq.trans (ft10 17 4 (by first | decide | exact fun c => by omega)) hd)) ?_
        refine v_push (3) (hi_X6_beginStep_31 hT) rfl ?_
        refine v_ic (hi_X6_beginStep_32 hT) (fun _ => ?_) (fun hc12 => absurd (show (d : Int) < 3 from hc8) hc12)
        refine v_load (v := (2, 17)) (hi_X6_beginStep_35 hT) rfl rfl ?_
        refine v_getR (c := 23) (r := 17) (hi_X6_beginStep_36 hT) rfl rfl rfl ?_
        refine v_load (v := (2, 17)) (hi_X6_beginStep_39 hT) rfl rfl ?_
        refine v_getf (v := (0, (d : Int))) (r := 17) (hi_X6_beginStep_40 hT) rfl rfl (fun _ => (Eq.trans (ft10 17 4 (by first | decide | exact fun c => by omega)) hd)) ?_
        refine v_load (v := (2, 17)) (hi_X6_beginStep_43 hT) rfl rfl ?_
        refine v_getR (c := 18) (r := 17) (hi_X6_beginStep_44 hT) rfl rfl rfl ?_
        refine v_getf (v := (0, z)) (r := 18) (hi_X6_beginStep_47 hT) rfl rfl (fun _ => (Eq.trans (ft10 18 0 (by first | decide | exact fun c => by omega)) hz)) ?_
        refine v_ast (r := 23) (hi_X6_beginStep_50 hT) rfl rfl (fun ha13 hb14 hf15 => ?_)
        refine v_load (v := (2, 17)) (hi_X6_beginStep_51 hT) rfl rfl ?_
        refine v_dup (hi_X6_beginStep_52 hT) (Nat.ne_of_beq_eq_false rfl) ?_
        refine v_getf (v := (0, (d : Int))) (r := 17) (hi_X6_beginStep_53 hT) rfl rfl (fun _ => Eq.trans (zset_ne (fun c => absurd c.1 (by decide))) ((Eq.trans (ft10 17 4 (by first | decide | exact fun c => by omega)) hd))) ?_
        refine v_push (1) (hi_X6_beginStep_56 hT) rfl ?_
        refine v_bin (w := ((d : Int) + 1)) (hi_X6_beginStep_57 hT) (hq_add (by omega) (by omega)) ?_
        refine v_putf (r := 17) hO (hi_X6_beginStep_58 hT) rfl (fun hf16 => ?_)
        refine v_load (v := (0, 15)) (hi_X6_beginStep_61 hT) rfl rfl ?_
        refine v_push (15) (hi_X6_beginStep_62 hT) rfl ?_
        refine v_ic (hi_X6_beginStep_64 hT) (fun _ => ?_) (fun hc17 => absurd (show (15 : Int) = 15 from (by decide)) hc17)
        refine v_load (v := (2, 17)) (hi_X6_beginStep_69 hT) rfl rfl ?_
        refine v_getR (c := 10) (r := 17) (hi_X6_beginStep_70 hT) rfl rfl rfl ?_
        refine v_call (w := 1) [some (2, 10)] hO (hi_X6_beginStep_73 hT) rfl rfl (cx_wordHere hT hO (cX.z (r := 17) (k := 4) (v := (0, ((d : Int) + 1))) (by decide) (cX.z (r := 23) (k := (((d : Int)).toNat)) (v := (0, z)) (by decide) hX10)) ?_)
        show vP D T N 80 76 (zset (zset g10 23 (((d : Int)).toNat) (0, z)) 17 4 (0, ((d : Int) + 1))) [some (2, 17), some (0, 15), none] [(0, (bHw τ (i + 1)))] _
        refine v_store1 [some (2, 17), some (0, 15), some (0, (bHw τ (i + 1)))] (hi_X6_beginStep_76 hT) ⟨rfl, Nat.ne_of_beq_eq_false rfl⟩ (Nat.le_of_ble_eq_true rfl) rfl ?_
        refine v_load (v := (0, (bHw τ (i + 1)))) (hi_X6_beginStep_77 hT) rfl rfl ?_
        refine v_push (16) (hi_X6_beginStep_78 hT) rfl ?_
        refine v_ic (hi_X6_beginStep_80 hT) (fun hc18 => ?_) (fun hc18 => ?_)
        · have hc18 : (bHw τ (i + 1)) < 16 := hc18
          refine v_load (v := (2, 17)) (hi_X6_beginStep_89 hT) rfl rfl ?_
          refine v_getR (c := 10) (r := 17) (hi_X6_beginStep_90 hT) rfl rfl rfl ?_
          refine v_push (2) (hi_X6_beginStep_93 hT) rfl ?_
          refine v_call (w := 2) [some (2, 10), some (0, 2)] hO (hi_X6_beginStep_94 hT) rfl rfl (cx_blame hT hO 2 (cX.z (r := 17) (k := 4) (v := (0, ((d : Int) + 1))) (by decide) (cX.z (r := 23) (k := (((d : Int)).toNat)) (v := (0, z)) (by decide) hX10)) (fun g19 ft19 c19 => ?_))
          · show vP D T N 80 97 g19 [some (2, 17), some (0, 15), some (0, (bHw τ (i + 1)))] [(0, 0)] _
            refine vP_hv (fun hv19 => ?_)
            refine v_pop (hi_X6_beginStep_97 hT) (Nat.ne_of_beq_eq_false rfl) ?_
            refine v_push (-1) (hi_X6_beginStep_98 hT) rfl ?_
            refine v_ret (hi_X6_beginStep_99 hT) (Or.inl rfl) ?_
            show vP D T N 88 75 g19 [some (2, 17), some (2, 24), some (0, w), some (0, x), o] [(0, -1), (2, 17)] _
            refine v_call (w := 2) [some (2, 17), some (0, -1)] hO (hi_X6_readText_75 hT) rfl rfl ?_
            refine v_load (v := (0, -1)) (hi_X6_readStep_0 hT) rfl rfl ?_
            refine v_sw (hi_X6_readStep_1 hT) ?_
            refine ⟨fun _ => ?_, fun c => absurd rfl c⟩
            refine v_push (0) (hi_X6_readStep_100 hT) rfl ?_
            refine v_ret (hi_X6_readStep_101 hT) (Or.inl rfl) ?_
            show vP D T N 88 78 g19 [some (2, 17), some (2, 24), some (0, w), some (0, x), o] [(0, 0)] _
            refine v_if (hi_X6_readText_78 hT) (fun _ => ?_) (fun hc20 => absurd (show (0 : Int) = 0 from (by decide)) hc20)
            refine v_push (0) (hi_X6_readText_85 hT) rfl ?_
            refine v_store1 [some (2, 17), some (2, 24), some (0, w), some (0, x), some (0, 0)] (hi_X6_readText_86 hT) ⟨rfl, Nat.ne_of_beq_eq_false rfl⟩ (Nat.le_of_ble_eq_true rfl) rfl ?_
            refine v_load (v := (0, 0)) (hi_X6_readText_88 hT) rfl rfl ?_
            refine v_if (hi_X6_readText_90 hT) (fun _ => ?_) (fun hc21 => absurd (show (0 : Int) = 0 from (by decide)) hc21)
            refine v_push (0) (hi_X6_readText_103 hT) rfl ?_
            refine v_ret (hi_X6_readText_104 hT) (Or.inl rfl) ?_
            exact er _ _ (by simp only [pStep, hE, hsw, htw, hop, h15, opW15, (show ¬ 30 ≤ s from by omega), (show ¬ 3 ≤ d from by omega), ne_eq, not_true_eq_false, not_false_eq_true, if_true, if_false, eq_self, eb_l, eb_r, and_true, true_and, and_false, false_and]) c19 (oFr.t (oFr.z (a := 17) (b := 4) (v := (0, ((d : Int) + 1))) (by omega) (oFr.z (a := 23) (b := (((d : Int)).toNat)) (v := (0, z)) (by omega) (oFr.t oFr.rfl ft10))) ft19)
        · have hc18 : 16 ≤ (bHw τ (i + 1)) := Int.not_lt.mp hc18
          refine v_load (v := (0, (bHw τ (i + 1)))) (hi_X6_beginStep_83 hT) rfl rfl ?_
          refine v_push (18) (hi_X6_beginStep_84 hT) rfl ?_
          refine v_ic (hi_X6_beginStep_86 hT) (fun hc22 => ?_) (fun hc22 => ?_)
          · have hc22 : 18 < (bHw τ (i + 1)) := hc22
            refine v_load (v := (2, 17)) (hi_X6_beginStep_89 hT) rfl rfl ?_
            refine v_getR (c := 10) (r := 17) (hi_X6_beginStep_90 hT) rfl rfl rfl ?_
            refine v_push (2) (hi_X6_beginStep_93 hT) rfl ?_
            refine v_call (w := 2) [some (2, 10), some (0, 2)] hO (hi_X6_beginStep_94 hT) rfl rfl (cx_blame hT hO 2 (cX.z (r := 17) (k := 4) (v := (0, ((d : Int) + 1))) (by decide) (cX.z (r := 23) (k := (((d : Int)).toNat)) (v := (0, z)) (by decide) hX10)) (fun g23 ft23 c23 => ?_))
            · show vP D T N 80 97 g23 [some (2, 17), some (0, 15), some (0, (bHw τ (i + 1)))] [(0, 0)] _
              refine vP_hv (fun hv23 => ?_)
              refine v_pop (hi_X6_beginStep_97 hT) (Nat.ne_of_beq_eq_false rfl) ?_
              refine v_push (-1) (hi_X6_beginStep_98 hT) rfl ?_
              refine v_ret (hi_X6_beginStep_99 hT) (Or.inl rfl) ?_
              show vP D T N 88 75 g23 [some (2, 17), some (2, 24), some (0, w), some (0, x), o] [(0, -1), (2, 17)] _
              refine v_call (w := 2) [some (2, 17), some (0, -1)] hO (hi_X6_readText_75 hT) rfl rfl ?_
              refine v_load (v := (0, -1)) (hi_X6_readStep_0 hT) rfl rfl ?_
              refine v_sw (hi_X6_readStep_1 hT) ?_
              refine ⟨fun _ => ?_, fun c => absurd rfl c⟩
              refine v_push (0) (hi_X6_readStep_100 hT) rfl ?_
              refine v_ret (hi_X6_readStep_101 hT) (Or.inl rfl) ?_
              show vP D T N 88 78 g23 [some (2, 17), some (2, 24), some (0, w), some (0, x), o] [(0, 0)] _
              refine v_if (hi_X6_readText_78 hT) (fun _ => ?_) (fun hc24 => absurd (show (0 : Int) = 0 from (by decide)) hc24)
              refine v_push (0) (hi_X6_readText_85 hT) rfl ?_
              refine v_store1 [some (2, 17), some (2, 24), some (0, w), some (0, x), some (0, 0)] (hi_X6_readText_86 hT) ⟨rfl, Nat.ne_of_beq_eq_false rfl⟩ (Nat.le_of_ble_eq_true rfl) rfl ?_
              refine v_load (v := (0, 0)) (hi_X6_readText_88 hT) rfl rfl ?_
              refine v_if (hi_X6_readText_90 hT) (fun _ => ?_) (fun hc25 => absurd (show (0 : Int) = 0 from (by decide)) hc25)
              refine v_push (0) (hi_X6_readText_103 hT) rfl ?_
              refine v_ret (hi_X6_readText_104 hT) (Or.inl rfl) ?_
              exact er _ _ (by simp only [pStep, hE, hsw, htw, hop, h15, opW15, (show ¬ 30 ≤ s from by omega), (show ¬ 3 ≤ d from by omega), ne_eq, not_true_eq_false, not_false_eq_true, if_true, if_false, eq_self, eb_l, eb_r, and_true, true_and, and_false, false_and]) c23 (oFr.t (oFr.z (a := 17) (b := 4) (v := (0, ((d : Int) + 1))) (by omega) (oFr.z (a := 23) (b := (((d : Int)).toNat)) (v := (0, z)) (by omega) (oFr.t oFr.rfl ft10))) ft23)
          · have hc22 : (bHw τ (i + 1)) ≤ 18 := Int.not_lt.mp hc22
            refine v_load (v := (2, 17)) (hi_X6_beginStep_100 hT) rfl rfl ?_
            refine v_getR (c := 10) (r := 17) (hi_X6_beginStep_101 hT) rfl rfl rfl ?_
            exfalso; omega
    · have hc8 : 3 ≤ (d : Int) := Int.not_lt.mp hc8
      refine v_load (v := (2, 17)) (hi_X6_mayBegin_91 hT) rfl rfl ?_
      refine v_getR (c := 10) (r := 17) (hi_X6_mayBegin_92 hT) rfl rfl rfl ?_
      refine v_push (7) (hi_X6_mayBegin_95 hT) rfl ?_
      refine v_call (w := 2) [some (2, 10), some (0, 7)] hO (hi_X6_mayBegin_97 hT) rfl rfl (cx_blame hT hO 7 hX (fun g26 ft26 c26 => ?_))
      · show vP D T N 81 100 g26 [some (2, 17), some (0, 15), some (0, 1)] [(0, 0)] _
        refine vP_hv (fun hv26 => ?_)
        refine v_ret (hi_X6_mayBegin_100 hT) (Or.inl rfl) ?_
        show vP D T N 88 67 g26 [some (2, 17), some (2, 24), some (0, w), some (0, x), o] [(0, 0)] _
        refine v_if (hi_X6_readText_67 hT) (fun _ => ?_) (fun hc27 => absurd (show (0 : Int) = 0 from (by decide)) hc27)
        refine v_push (0) (hi_X6_readText_85 hT) rfl ?_
        refine v_store1 [some (2, 17), some (2, 24), some (0, w), some (0, x), some (0, 0)] (hi_X6_readText_86 hT) ⟨rfl, Nat.ne_of_beq_eq_false rfl⟩ (Nat.le_of_ble_eq_true rfl) rfl ?_
        refine v_load (v := (0, 0)) (hi_X6_readText_88 hT) rfl rfl ?_
        refine v_if (hi_X6_readText_90 hT) (fun _ => ?_) (fun hc28 => absurd (show (0 : Int) = 0 from (by decide)) hc28)
        refine v_push (0) (hi_X6_readText_103 hT) rfl ?_
        refine v_ret (hi_X6_readText_104 hT) (Or.inl rfl) ?_
        exact er _ _ (by simp only [pStep, hE, hsw, htw, hop, h15, opW15, (show ¬ 30 ≤ s from by omega), (show 3 ≤ d from by omega), ne_eq, not_true_eq_false, not_false_eq_true, if_true, if_false, eq_self, eb_l, eb_r, and_true, true_and, and_false, false_and]) c26 (oFr.t oFr.rfl ft26)
  · have hc6 : 30 ≤ (s : Int) := Int.not_lt.mp hc6
    refine v_load (v := (2, 17)) (hi_X6_mayBegin_69 hT) rfl rfl ?_
    refine v_getR (c := 10) (r := 17) (hi_X6_mayBegin_70 hT) rfl rfl rfl ?_
    refine v_push (6) (hi_X6_mayBegin_73 hT) rfl ?_
    refine v_call (w := 2) [some (2, 10), some (0, 6)] hO (hi_X6_mayBegin_75 hT) rfl rfl (cx_blame hT hO 6 hX (fun g29 ft29 c29 => ?_))
    · show vP D T N 81 78 g29 [some (2, 17), some (0, 15), some (0, 1)] [(0, 0)] _
      refine vP_hv (fun hv29 => ?_)
      refine v_ret (hi_X6_mayBegin_78 hT) (Or.inl rfl) ?_
      show vP D T N 88 67 g29 [some (2, 17), some (2, 24), some (0, w), some (0, x), o] [(0, 0)] _
      refine v_if (hi_X6_readText_67 hT) (fun _ => ?_) (fun hc30 => absurd (show (0 : Int) = 0 from (by decide)) hc30)
      refine v_push (0) (hi_X6_readText_85 hT) rfl ?_
      refine v_store1 [some (2, 17), some (2, 24), some (0, w), some (0, x), some (0, 0)] (hi_X6_readText_86 hT) ⟨rfl, Nat.ne_of_beq_eq_false rfl⟩ (Nat.le_of_ble_eq_true rfl) rfl ?_
      refine v_load (v := (0, 0)) (hi_X6_readText_88 hT) rfl rfl ?_
      refine v_if (hi_X6_readText_90 hT) (fun _ => ?_) (fun hc31 => absurd (show (0 : Int) = 0 from (by decide)) hc31)
      refine v_push (0) (hi_X6_readText_103 hT) rfl ?_
      refine v_ret (hi_X6_readText_104 hT) (Or.inl rfl) ?_
      exact er _ _ (by simp only [pStep, hE, hsw, htw, hop, h15, opW15, (show 30 ≤ s from by omega), ne_eq, not_true_eq_false, not_false_eq_true, if_true, if_false, eq_self, eb_l, eb_r, and_true, true_and, and_false, false_and]) c29 (oFr.t oFr.rfl ft29)
theorem co_20_24 {D : zD} {T : zT} (hT : hTab T) (hO : vOK T) {N : Nat} {h : zH} {Q : zR → Prop} {B : Nat → Int} {n m i s d : Nat} {τ P : PT} (w x z : Int) (o : Option zV) (hv0 : zHv h) (hX : cX B n m τ i h) (hK : Tks B n m τ) (hP : cP 24 P h) (hb : (0 ≤ P 0 0 ∧ P 0 0 ≤ 8) ∧ (0 ≤ P 0 1 ∧ P 0 1 ≤ 6) ∧ (0 ≤ P 0 2 ∧ P 0 2 ≤ 3) ∧ (0 ≤ P 0 3 ∧ P 0 3 ≤ 6)) (hl : h 17 2 = (2, 24)) (hs : h 18 1 = (0, (s : Int))) (hd : h 17 4 = (0, (d : Int))) (hz : h 18 0 = (0, z)) (bs : s ≤ 30) (bd : d ≤ 3) (bz : 0 ≤ z) (bzd : z + d ≤ 2 * s) (ho : ∀ e : Nat, e < d → 0 ≤ (h 23 e).2 ∧ (h 23 e).2 < z) (hx : 0 ≤ x ∧ x < 900) (h0 : τ 0 i ≠ 0) (hE : bW τ 20 i ≠ 0) (ih : ∀ g s' d' i' a b z' o', pStep τ P s d i = .inr (s', d', i') → cX B n m τ i' g → cP 24 P g → g 17 2 = (2, 24) → g 18 1 = (0, a) → a = (s' : Int) → g 17 4 = (0, b) → b = (d' : Int) → g 18 0 = (0, z') → s' ≤ 30 ∧ d' ≤ 3 ∧ 0 ≤ z' ∧ z' + d' ≤ 2 * s' → (∀ e : Nat, e < d' → 0 ≤ (g 23 e).2 ∧ (g 23 e).2 < z') → oFr h g → vP D T N 88 27 g [some (2, 17), some (2, 24), some (0, w), some (0, (x + 1)), o'] [] Q) (er : ∀ g e, pStep τ P s d i = .inl e → cB e g → oFr h g → Q (g, some (0, 0))) :
    vP D T (N + 1) 88 27 h [some (2, 17), some (2, 24), some (0, w), some (0, x), o] [] Q :=
  co7_20_24 hT hO w x z o hv0 hX hK hP hb hl hs hd hz bs bd bz bzd ho hx h0 hE (fun g s' d' i' a b z' o' f p_0 p_1 p_2 p_3 p_4 p_5 p_6 p_7 p_8 p_9 p_10 p_11 p_12 p_13 p_14 p_15 => ih g s' d' i' a b z' o' p_0 p_1 p_2 p_3 p_4 p_5 p_6 p_7 p_8 p_9 p_10 p_11) er
theorem co_x_24 {D : zD} {T : zT} (hT : hTab T) (hO : vOK T) {N : Nat} {h : zH} {Q : zR → Prop} {B : Nat → Int} {n m i s d : Nat} {τ P : PT} (w x z : Int) (o : Option zV) (hv0 : zHv h) (hX : cX B n m τ i h) (hK : Tks B n m τ) (hP : cP 24 P h) (hb : (0 ≤ P 0 0 ∧ P 0 0 ≤ 8) ∧ (0 ≤ P 0 1 ∧ P 0 1 ≤ 6) ∧ (0 ≤ P 0 2 ∧ P 0 2 ≤ 3) ∧ (0 ≤ P 0 3 ∧ P 0 3 ≤ 6)) (hl : h 17 2 = (2, 24)) (hs : h 18 1 = (0, (s : Int))) (hd : h 17 4 = (0, (d : Int))) (hz : h 18 0 = (0, z)) (bs : s ≤ 30) (bd : d ≤ 3) (bz : 0 ≤ z) (bzd : z + d ≤ 2 * s) (ho : ∀ e : Nat, e < d → 0 ≤ (h 23 e).2 ∧ (h 23 e).2 < z) (hx : 0 ≤ x ∧ x < 900) (h0 : τ 0 i ≠ 0) (hE : (bW τ 20 i) = 0) (hsw : swd τ i < 0) (hbh : ¬ ((8 ≤ bHw τ i ∧ bHw τ i ≤ 15) ∨ bHw τ i = 19 ∨ bHw τ i = 21)) (ih : ∀ g s' d' i' a b z' o', pStep τ P s d i = .inr (s', d', i') → cX B n m τ i' g → cP 24 P g → g 17 2 = (2, 24) → g 18 1 = (0, a) → a = (s' : Int) → g 17 4 = (0, b) → b = (d' : Int) → g 18 0 = (0, z') → s' ≤ 30 ∧ d' ≤ 3 ∧ 0 ≤ z' ∧ z' + d' ≤ 2 * s' → (∀ e : Nat, e < d' → 0 ≤ (g 23 e).2 ∧ (g 23 e).2 < z') → oFr h g → vP D T N 88 27 g [some (2, 17), some (2, 24), some (0, w), some (0, (x + 1)), o'] [] Q) (er : ∀ g e, pStep τ P s d i = .inl e → cB e g → oFr h g → Q (g, some (0, 0))) :
    vP D T (N + 1) 88 27 h [some (2, 17), some (2, 24), some (0, w), some (0, x), o] [] Q := by
  have hEn : (bEn τ i) = 0 := bEn_n h0
  refine v_loadS (v := (0, x)) (hi_X6_readText_27 hT) rfl rfl ?_
  refine v_push (900) (hi_X6_readText_28 hT) rfl ?_
  refine v_ic (hi_X6_readText_31 hT) (fun _ => ?_) (fun hc1 => absurd (show x < 900 from hx.2) hc1)
  refine v_load (v := (2, 17)) (hi_X6_readText_34 hT) rfl rfl ?_
  refine v_getR (c := 10) (r := 17) (hi_X6_readText_35 hT) rfl rfl rfl ?_
  refine v_call (w := 1) [some (2, 10)] hO (hi_X6_readText_38 hT) rfl rfl (cx_isEnd hT hO hX ?_)
  show vP D T N 88 41 h [some (2, 17), some (2, 24), some (0, w), some (0, x), o] [(0, (bEn τ i))] _
  refine v_if (hi_X6_readText_41 hT) (fun _ => ?_) (fun hc2 => absurd (show (bEn τ i) = 0 from hEn) hc2)
  refine v_load (v := (2, 17)) (hi_X6_readText_44 hT) rfl rfl ?_
  refine v_getR (c := 10) (r := 17) (hi_X6_readText_45 hT) rfl rfl rfl ?_
  refine v_push (20) (hi_X6_readText_48 hT) rfl ?_
  refine v_call (w := 2) [some (2, 10), some (0, 20)] hO (hi_X6_readText_50 hT) rfl rfl (cx_isWord hT hO 20 hX ?_)
  show vP D T N 88 53 h [some (2, 17), some (2, 24), some (0, w), some (0, x), o] [(0, (bW τ 20 i))] _
  refine v_if (hi_X6_readText_53 hT) (fun _ => ?_) (fun hc3 => absurd (show (bW τ 20 i) = 0 from hE) hc3)
  refine v_load (v := (2, 17)) (hi_X6_readText_63 hT) rfl rfl ?_
  refine v_call (w := 3) [some (2, 17), none, none] hO (hi_X6_readText_64 hT) rfl rfl ?_
  refine v_load (v := (2, 17)) (hi_X6_mayBegin_0 hT) rfl rfl ?_
  refine v_getR (c := 10) (r := 17) (hi_X6_mayBegin_1 hT) rfl rfl rfl ?_
  refine v_call (w := 1) [some (2, 10)] hO (hi_X6_mayBegin_4 hT) rfl rfl (cx_wordHere hT hO hX ?_)
  show vP D T N 81 7 h [some (2, 17), none, none] [(0, (bHw τ i))] _
  refine v_store1 [some (2, 17), some (0, (bHw τ i)), none] (hi_X6_mayBegin_7 hT) ⟨rfl, Nat.ne_of_beq_eq_false rfl⟩ (Nat.le_of_ble_eq_true rfl) rfl ?_
  refine v_load (v := (0, (bHw τ i))) (hi_X6_mayBegin_8 hT) rfl rfl ?_
  refine v_push (15) (hi_X6_mayBegin_9 hT) rfl ?_
  refine v_ic (hi_X6_mayBegin_11 hT) (fun hc4 => ?_) (fun hc4 => ?_)
  · have hc4 : (bHw τ i) = 15 := hc4
    refine v_push (1) (hi_X6_mayBegin_20 hT) rfl ?_
    refine v_goto (hi_X6_mayBegin_21 hT) ?_
    refine v_store1 [some (2, 17), some (0, (bHw τ i)), some (0, 1)] (hi_X6_mayBegin_25 hT) ⟨rfl, Nat.ne_of_beq_eq_false rfl⟩ (Nat.le_of_ble_eq_true rfl) rfl ?_
    refine v_load (v := (0, 1)) (hi_X6_mayBegin_26 hT) rfl rfl ?_
    refine v_if (hi_X6_mayBegin_27 hT) (fun hc5 => absurd (show (1 : Int) = 0 from hc5) (by decide)) (fun _ => ?_)
    refine v_load (v := (2, 17)) (hi_X6_mayBegin_57 hT) rfl rfl ?_
    refine v_getR (c := 18) (r := 17) (hi_X6_mayBegin_58 hT) rfl rfl rfl ?_
    refine v_getf (v := (0, (s : Int))) (r := 18) (hi_X6_mayBegin_61 hT) rfl rfl (fun _ => hs) ?_
    refine v_push (30) (hi_X6_mayBegin_64 hT) rfl ?_
    refine v_ic (hi_X6_mayBegin_66 hT) (fun hc6 => ?_) (fun hc6 => ?_)
    · have hc6 : (s : Int) < 30 := hc6
      refine v_load (v := (0, 1)) (hi_X6_mayBegin_79 hT) rfl rfl ?_
      refine v_if (hi_X6_mayBegin_80 hT) (fun hc7 => absurd (show (1 : Int) = 0 from hc7) (by decide)) (fun _ => ?_)
      refine v_load (v := (2, 17)) (hi_X6_mayBegin_83 hT) rfl rfl ?_
      refine v_getf (v := (0, (d : Int))) (r := 17) (hi_X6_mayBegin_84 hT) rfl rfl (fun _ => hd) ?_
      refine v_push (3) (hi_X6_mayBegin_87 hT) rfl ?_
      refine v_ic (hi_X6_mayBegin_88 hT) (fun hc8 => ?_) (fun hc8 => ?_)
      · have hc8 : (d : Int) < 3 := hc8
        refine v_push (1) (hi_X6_mayBegin_101 hT) rfl ?_
        refine v_ret (hi_X6_mayBegin_102 hT) (Or.inl rfl) ?_
        show vP D T N 88 67 h [some (2, 17), some (2, 24), some (0, w), some (0, x), o] [(0, 1)] _
        refine v_if (hi_X6_readText_67 hT) (fun hc9 => absurd (show (1 : Int) = 0 from hc9) (by decide)) (fun _ => ?_)
        refine v_load (v := (2, 17)) (hi_X6_readText_70 hT) rfl rfl ?_
        refine v_load (v := (2, 17)) (hi_X6_readText_71 hT) rfl rfl ?_
        exfalso; omega
      · have hc8 : 3 ≤ (d : Int) := Int.not_lt.mp hc8
        refine v_load (v := (2, 17)) (hi_X6_mayBegin_91 hT) rfl rfl ?_
        refine v_getR (c := 10) (r := 17) (hi_X6_mayBegin_92 hT) rfl rfl rfl ?_
        refine v_push (7) (hi_X6_mayBegin_95 hT) rfl ?_
        exfalso; omega
    · have hc6 : 30 ≤ (s : Int) := Int.not_lt.mp hc6
      refine v_load (v := (2, 17)) (hi_X6_mayBegin_69 hT) rfl rfl ?_
      refine v_getR (c := 10) (r := 17) (hi_X6_mayBegin_70 hT) rfl rfl rfl ?_
      refine v_push (6) (hi_X6_mayBegin_73 hT) rfl ?_
      exfalso; omega
  · have hc4 : (bHw τ i) ≠ 15 := hc4
    refine v_load (v := (0, (bHw τ i))) (hi_X6_mayBegin_14 hT) rfl rfl ?_
    refine v_push (19) (hi_X6_mayBegin_15 hT) rfl ?_
    refine v_ic (hi_X6_mayBegin_17 hT) (fun hc10 => ?_) (fun hc10 => ?_)
    · have hc10 : (bHw τ i) = 19 := hc10
      refine v_push (1) (hi_X6_mayBegin_20 hT) rfl ?_
      refine v_goto (hi_X6_mayBegin_21 hT) ?_
      refine v_store1 [some (2, 17), some (0, (bHw τ i)), some (0, 1)] (hi_X6_mayBegin_25 hT) ⟨rfl, Nat.ne_of_beq_eq_false rfl⟩ (Nat.le_of_ble_eq_true rfl) rfl ?_
      refine v_load (v := (0, 1)) (hi_X6_mayBegin_26 hT) rfl rfl ?_
      refine v_if (hi_X6_mayBegin_27 hT) (fun hc11 => absurd (show (1 : Int) = 0 from hc11) (by decide)) (fun _ => ?_)
      refine v_load (v := (2, 17)) (hi_X6_mayBegin_57 hT) rfl rfl ?_
      refine v_getR (c := 18) (r := 17) (hi_X6_mayBegin_58 hT) rfl rfl rfl ?_
      refine v_getf (v := (0, (s : Int))) (r := 18) (hi_X6_mayBegin_61 hT) rfl rfl (fun _ => hs) ?_
      refine v_push (30) (hi_X6_mayBegin_64 hT) rfl ?_
      refine v_ic (hi_X6_mayBegin_66 hT) (fun hc12 => ?_) (fun hc12 => ?_)
      · have hc12 : (s : Int) < 30 := hc12
        refine v_load (v := (0, 1)) (hi_X6_mayBegin_79 hT) rfl rfl ?_
        refine v_if (hi_X6_mayBegin_80 hT) (fun hc13 => absurd (show (1 : Int) = 0 from hc13) (by decide)) (fun _ => ?_)
        refine v_load (v := (2, 17)) (hi_X6_mayBegin_83 hT) rfl rfl ?_
        refine v_getf (v := (0, (d : Int))) (r := 17) (hi_X6_mayBegin_84 hT) rfl rfl (fun _ => hd) ?_
        refine v_push (3) (hi_X6_mayBegin_87 hT) rfl ?_
        refine v_ic (hi_X6_mayBegin_88 hT) (fun hc14 => ?_) (fun hc14 => ?_)
        · have hc14 : (d : Int) < 3 := hc14
          refine v_push (1) (hi_X6_mayBegin_101 hT) rfl ?_
          refine v_ret (hi_X6_mayBegin_102 hT) (Or.inl rfl) ?_
          show vP D T N 88 67 h [some (2, 17), some (2, 24), some (0, w), some (0, x), o] [(0, 1)] _
          refine v_if (hi_X6_readText_67 hT) (fun hc15 => absurd (show (1 : Int) = 0 from hc15) (by decide)) (fun _ => ?_)
          refine v_load (v := (2, 17)) (hi_X6_readText_70 hT) rfl rfl ?_
          refine v_load (v := (2, 17)) (hi_X6_readText_71 hT) rfl rfl ?_
          exfalso; omega
        · have hc14 : 3 ≤ (d : Int) := Int.not_lt.mp hc14
          refine v_load (v := (2, 17)) (hi_X6_mayBegin_91 hT) rfl rfl ?_
          refine v_getR (c := 10) (r := 17) (hi_X6_mayBegin_92 hT) rfl rfl rfl ?_
          refine v_push (7) (hi_X6_mayBegin_95 hT) rfl ?_
          exfalso; omega
      · have hc12 : 30 ≤ (s : Int) := Int.not_lt.mp hc12
        refine v_load (v := (2, 17)) (hi_X6_mayBegin_69 hT) rfl rfl ?_
        refine v_getR (c := 10) (r := 17) (hi_X6_mayBegin_70 hT) rfl rfl rfl ?_
        refine v_push (6) (hi_X6_mayBegin_73 hT) rfl ?_
        exfalso; omega
    · have hc10 : (bHw τ i) ≠ 19 := hc10
      refine v_push (0) (hi_X6_mayBegin_24 hT) rfl ?_
      refine v_store1 [some (2, 17), some (0, (bHw τ i)), some (0, 0)] (hi_X6_mayBegin_25 hT) ⟨rfl, Nat.ne_of_beq_eq_false rfl⟩ (Nat.le_of_ble_eq_true rfl) rfl ?_
      refine v_load (v := (0, 0)) (hi_X6_mayBegin_26 hT) rfl rfl ?_
      refine v_if (hi_X6_mayBegin_27 hT) (fun _ => ?_) (fun hc16 => absurd (show (0 : Int) = 0 from (by decide)) hc16)
      refine v_load (v := (0, (bHw τ i))) (hi_X6_mayBegin_30 hT) rfl rfl ?_
      refine v_push (8) (hi_X6_mayBegin_31 hT) rfl ?_
      refine v_ic (hi_X6_mayBegin_33 hT) (fun hc17 => ?_) (fun hc17 => ?_)
      · have hc17 : (bHw τ i) < 8 := hc17
        refine v_load (v := (0, (bHw τ i))) (hi_X6_mayBegin_42 hT) rfl rfl ?_
        refine v_push (21) (hi_X6_mayBegin_43 hT) rfl ?_
        refine v_ic (hi_X6_mayBegin_45 hT) (fun hc18 => ?_) (fun hc18 => ?_)
        · have hc18 : (bHw τ i) = 21 := hc18
          refine v_load (v := (2, 17)) (hi_X6_mayBegin_57 hT) rfl rfl ?_
          refine v_getR (c := 18) (r := 17) (hi_X6_mayBegin_58 hT) rfl rfl rfl ?_
          refine v_getf (v := (0, (s : Int))) (r := 18) (hi_X6_mayBegin_61 hT) rfl rfl (fun _ => hs) ?_
          refine v_push (30) (hi_X6_mayBegin_64 hT) rfl ?_
          refine v_ic (hi_X6_mayBegin_66 hT) (fun hc19 => ?_) (fun hc19 => ?_)
          · have hc19 : (s : Int) < 30 := hc19
            refine v_load (v := (0, 0)) (hi_X6_mayBegin_79 hT) rfl rfl ?_
            refine v_if (hi_X6_mayBegin_80 hT) (fun _ => ?_) (fun hc20 => absurd (show (0 : Int) = 0 from (by decide)) hc20)
            refine v_push (1) (hi_X6_mayBegin_101 hT) rfl ?_
            refine v_ret (hi_X6_mayBegin_102 hT) (Or.inl rfl) ?_
            show vP D T N 88 67 h [some (2, 17), some (2, 24), some (0, w), some (0, x), o] [(0, 1)] _
            refine v_if (hi_X6_readText_67 hT) (fun hc21 => absurd (show (1 : Int) = 0 from hc21) (by decide)) (fun _ => ?_)
            refine v_load (v := (2, 17)) (hi_X6_readText_70 hT) rfl rfl ?_
            refine v_load (v := (2, 17)) (hi_X6_readText_71 hT) rfl rfl ?_
            exfalso; omega
          · have hc19 : 30 ≤ (s : Int) := Int.not_lt.mp hc19
            refine v_load (v := (2, 17)) (hi_X6_mayBegin_69 hT) rfl rfl ?_
            refine v_getR (c := 10) (r := 17) (hi_X6_mayBegin_70 hT) rfl rfl rfl ?_
            refine v_push (6) (hi_X6_mayBegin_73 hT) rfl ?_
            exfalso; omega
        · have hc18 : (bHw τ i) ≠ 21 := hc18
          refine v_load (v := (2, 17)) (hi_X6_mayBegin_48 hT) rfl rfl ?_
          refine v_getR (c := 10) (r := 17) (hi_X6_mayBegin_49 hT) rfl rfl rfl ?_
          refine v_push (2) (hi_X6_mayBegin_52 hT) rfl ?_
          refine v_call (w := 2) [some (2, 10), some (0, 2)] hO (hi_X6_mayBegin_53 hT) rfl rfl (cx_blame hT hO 2 hX (fun g22 ft22 c22 => ?_))
          · show vP D T N 81 56 g22 [some (2, 17), some (0, (bHw τ i)), some (0, 0)] [(0, 0)] _
            refine vP_hv (fun hv22 => ?_)
            refine v_ret (hi_X6_mayBegin_56 hT) (Or.inl rfl) ?_
            show vP D T N 88 67 g22 [some (2, 17), some (2, 24), some (0, w), some (0, x), o] [(0, 0)] _
            refine v_if (hi_X6_readText_67 hT) (fun _ => ?_) (fun hc23 => absurd (show (0 : Int) = 0 from (by decide)) hc23)
            refine v_push (0) (hi_X6_readText_85 hT) rfl ?_
            refine v_store1 [some (2, 17), some (2, 24), some (0, w), some (0, x), some (0, 0)] (hi_X6_readText_86 hT) ⟨rfl, Nat.ne_of_beq_eq_false rfl⟩ (Nat.le_of_ble_eq_true rfl) rfl ?_
            refine v_load (v := (0, 0)) (hi_X6_readText_88 hT) rfl rfl ?_
            refine v_if (hi_X6_readText_90 hT) (fun _ => ?_) (fun hc24 => absurd (show (0 : Int) = 0 from (by decide)) hc24)
            refine v_push (0) (hi_X6_readText_103 hT) rfl ?_
            refine v_ret (hi_X6_readText_104 hT) (Or.inl rfl) ?_
            exact er _ _ (by simp only [pStep, hE, hsw, ne_eq, not_true_eq_false, not_false_eq_true, if_true, if_false, eq_self, eb_l, eb_r, and_true, true_and, and_false, false_and]) c22 (oFr.t oFr.rfl ft22)
      · have hc17 : 8 ≤ (bHw τ i) := Int.not_lt.mp hc17
        refine v_load (v := (0, (bHw τ i))) (hi_X6_mayBegin_36 hT) rfl rfl ?_
        refine v_push (14) (hi_X6_mayBegin_37 hT) rfl ?_
        refine v_ic (hi_X6_mayBegin_39 hT) (fun hc25 => ?_) (fun hc25 => ?_)
        · have hc25 : 14 < (bHw τ i) := hc25
          refine v_load (v := (0, (bHw τ i))) (hi_X6_mayBegin_42 hT) rfl rfl ?_
          refine v_push (21) (hi_X6_mayBegin_43 hT) rfl ?_
          refine v_ic (hi_X6_mayBegin_45 hT) (fun hc26 => ?_) (fun hc26 => ?_)
          · have hc26 : (bHw τ i) = 21 := hc26
            refine v_load (v := (2, 17)) (hi_X6_mayBegin_57 hT) rfl rfl ?_
            refine v_getR (c := 18) (r := 17) (hi_X6_mayBegin_58 hT) rfl rfl rfl ?_
            refine v_getf (v := (0, (s : Int))) (r := 18) (hi_X6_mayBegin_61 hT) rfl rfl (fun _ => hs) ?_
            refine v_push (30) (hi_X6_mayBegin_64 hT) rfl ?_
            refine v_ic (hi_X6_mayBegin_66 hT) (fun hc27 => ?_) (fun hc27 => ?_)
            · have hc27 : (s : Int) < 30 := hc27
              refine v_load (v := (0, 0)) (hi_X6_mayBegin_79 hT) rfl rfl ?_
              refine v_if (hi_X6_mayBegin_80 hT) (fun _ => ?_) (fun hc28 => absurd (show (0 : Int) = 0 from (by decide)) hc28)
              refine v_push (1) (hi_X6_mayBegin_101 hT) rfl ?_
              refine v_ret (hi_X6_mayBegin_102 hT) (Or.inl rfl) ?_
              show vP D T N 88 67 h [some (2, 17), some (2, 24), some (0, w), some (0, x), o] [(0, 1)] _
              refine v_if (hi_X6_readText_67 hT) (fun hc29 => absurd (show (1 : Int) = 0 from hc29) (by decide)) (fun _ => ?_)
              refine v_load (v := (2, 17)) (hi_X6_readText_70 hT) rfl rfl ?_
              refine v_load (v := (2, 17)) (hi_X6_readText_71 hT) rfl rfl ?_
              exfalso; omega
            · have hc27 : 30 ≤ (s : Int) := Int.not_lt.mp hc27
              refine v_load (v := (2, 17)) (hi_X6_mayBegin_69 hT) rfl rfl ?_
              refine v_getR (c := 10) (r := 17) (hi_X6_mayBegin_70 hT) rfl rfl rfl ?_
              refine v_push (6) (hi_X6_mayBegin_73 hT) rfl ?_
              exfalso; omega
          · have hc26 : (bHw τ i) ≠ 21 := hc26
            refine v_load (v := (2, 17)) (hi_X6_mayBegin_48 hT) rfl rfl ?_
            refine v_getR (c := 10) (r := 17) (hi_X6_mayBegin_49 hT) rfl rfl rfl ?_
            refine v_push (2) (hi_X6_mayBegin_52 hT) rfl ?_
            refine v_call (w := 2) [some (2, 10), some (0, 2)] hO (hi_X6_mayBegin_53 hT) rfl rfl (cx_blame hT hO 2 hX (fun g30 ft30 c30 => ?_))
            · show vP D T N 81 56 g30 [some (2, 17), some (0, (bHw τ i)), some (0, 0)] [(0, 0)] _
              refine vP_hv (fun hv30 => ?_)
              refine v_ret (hi_X6_mayBegin_56 hT) (Or.inl rfl) ?_
              show vP D T N 88 67 g30 [some (2, 17), some (2, 24), some (0, w), some (0, x), o] [(0, 0)] _
              refine v_if (hi_X6_readText_67 hT) (fun _ => ?_) (fun hc31 => absurd (show (0 : Int) = 0 from (by decide)) hc31)
              refine v_push (0) (hi_X6_readText_85 hT) rfl ?_
              refine v_store1 [some (2, 17), some (2, 24), some (0, w), some (0, x), some (0, 0)] (hi_X6_readText_86 hT) ⟨rfl, Nat.ne_of_beq_eq_false rfl⟩ (Nat.le_of_ble_eq_true rfl) rfl ?_
              refine v_load (v := (0, 0)) (hi_X6_readText_88 hT) rfl rfl ?_
              refine v_if (hi_X6_readText_90 hT) (fun _ => ?_) (fun hc32 => absurd (show (0 : Int) = 0 from (by decide)) hc32)
              refine v_push (0) (hi_X6_readText_103 hT) rfl ?_
              refine v_ret (hi_X6_readText_104 hT) (Or.inl rfl) ?_
              exact er _ _ (by simp only [pStep, hE, hsw, ne_eq, not_true_eq_false, not_false_eq_true, if_true, if_false, eq_self, eb_l, eb_r, and_true, true_and, and_false, false_and]) c30 (oFr.t oFr.rfl ft30)
        · have hc25 : (bHw τ i) ≤ 14 := Int.not_lt.mp hc25
          refine v_load (v := (2, 17)) (hi_X6_mayBegin_57 hT) rfl rfl ?_
          refine v_getR (c := 18) (r := 17) (hi_X6_mayBegin_58 hT) rfl rfl rfl ?_
          refine v_getf (v := (0, (s : Int))) (r := 18) (hi_X6_mayBegin_61 hT) rfl rfl (fun _ => hs) ?_
          refine v_push (30) (hi_X6_mayBegin_64 hT) rfl ?_
          refine v_ic (hi_X6_mayBegin_66 hT) (fun hc33 => ?_) (fun hc33 => ?_)
          · have hc33 : (s : Int) < 30 := hc33
            refine v_load (v := (0, 0)) (hi_X6_mayBegin_79 hT) rfl rfl ?_
            refine v_if (hi_X6_mayBegin_80 hT) (fun _ => ?_) (fun hc34 => absurd (show (0 : Int) = 0 from (by decide)) hc34)
            refine v_push (1) (hi_X6_mayBegin_101 hT) rfl ?_
            refine v_ret (hi_X6_mayBegin_102 hT) (Or.inl rfl) ?_
            show vP D T N 88 67 h [some (2, 17), some (2, 24), some (0, w), some (0, x), o] [(0, 1)] _
            refine v_if (hi_X6_readText_67 hT) (fun hc35 => absurd (show (1 : Int) = 0 from hc35) (by decide)) (fun _ => ?_)
            refine v_load (v := (2, 17)) (hi_X6_readText_70 hT) rfl rfl ?_
            refine v_load (v := (2, 17)) (hi_X6_readText_71 hT) rfl rfl ?_
            exfalso; omega
          · have hc33 : 30 ≤ (s : Int) := Int.not_lt.mp hc33
            refine v_load (v := (2, 17)) (hi_X6_mayBegin_69 hT) rfl rfl ?_
            refine v_getR (c := 10) (r := 17) (hi_X6_mayBegin_70 hT) rfl rfl rfl ?_
            refine v_push (6) (hi_X6_mayBegin_73 hT) rfl ?_
            exfalso; omega
theorem co_text0_24 {D : zD} {T : zT} (hT : hTab T) (hO : vOK T) {N : Nat} {h : zH} {Q : zR → Prop} {B : Nat → Int} {n : Nat} (hv0 : zHv h) (hB : TXc B n h) (hn : (n : Int) ≤ (h 10 1).2)
    (k0 : ∀ (g5 : zH) (m : Nat) (τ : PT), (bF (zset (zset (zset (zset h 17 2 (2, 24)) 18 0 (0, 0)) 18 1 (0, 0)) 17 4 (0, 0)) g5) → (Tks B n m τ) → (cX B n m τ 0 g5) → vP D T N 88 27 g5 [some (2, 17), some (2, 24), some (0, (n : Int)), some (0, 0), none] [] Q) :
    vP D T N 88 0 h [some (2, 17), some (2, 24), some (0, (n : Int)), none, none] [] Q := by
  refine v_load (v := (2, 17)) (hz_X6_readText hT _ _ rfl) rfl rfl ?_
  refine v_load (v := (2, 24)) (hz_X6_readText hT _ _ rfl) rfl rfl ?_
  refine v_putf (r := 17) hO (hz_X6_readText hT _ _ rfl) rfl (fun hf1 => ?_)
  refine v_load (v := (2, 17)) (hz_X6_readText hT _ _ rfl) rfl rfl ?_
  refine v_getR (c := 18) (r := 17) (hz_X6_readText hT _ _ rfl) rfl rfl rfl ?_
  refine v_call (w := 1) [some (2, 18)] hO (hz_X6_readText hT _ _ rfl) rfl rfl ?_
  refine v_load (v := (2, 18)) (hz_X5_clear hT _ _ rfl) rfl rfl ?_
  refine v_push (0) (hz_X5_clear hT _ _ rfl) rfl ?_
  refine v_putf (r := 18) hO (hz_X5_clear hT _ _ rfl) rfl (fun hf2 => ?_)
  refine v_load (v := (2, 18)) (hz_X5_clear hT _ _ rfl) rfl rfl ?_
  refine v_push (0) (hz_X5_clear hT _ _ rfl) rfl ?_
  refine v_putf (r := 18) hO (hz_X5_clear hT _ _ rfl) rfl (fun hf3 => ?_)
  refine v_ret0 (hz_X5_clear hT _ _ rfl) ?_
  show vP D T N 88 12 (zset (zset (zset h 17 2 (2, 24)) 18 0 (0, 0)) 18 1 (0, 0)) [some (2, 17), some (2, 24), some (0, (n : Int)), none, none] [] _
  refine v_load (v := (2, 17)) (hz_X6_readText hT _ _ rfl) rfl rfl ?_
  refine v_push (0) (hz_X6_readText hT _ _ rfl) rfl ?_
  refine v_putf (r := 17) hO (hz_X6_readText hT _ _ rfl) rfl (fun hf4 => ?_)
  refine v_load (v := (2, 17)) (hz_X6_readText hT _ _ rfl) rfl rfl ?_
  refine v_getR (c := 10) (r := 17) (hz_X6_readText hT _ _ rfl) rfl rfl rfl ?_
  refine v_load (v := (0, (n : Int))) (hz_X6_readText hT _ _ rfl) rfl rfl ?_
  refine v_call (w := 5) [some (2, 10), some (0, (n : Int)), none, none, none] hO (hz_X6_readText hT _ _ rfl) rfl rfl (cx_begin hT hO (TXc.z (r := 17) (k := 4) (v := (0, 0)) (by decide) (TXc.z (r := 18) (k := 1) (v := (0, 0)) (by decide) (TXc.z (r := 18) (k := 0) (v := (0, 0)) (by decide) (TXc.z (r := 17) (k := 2) (v := (2, 24)) (by decide) hB)))) (Int.le_trans hn (Int.le_of_eq (congrArg Prod.snd (Eq.trans (zset_ne (fun c => absurd c.1 (by decide))) (Eq.trans (zset_ne (fun c => absurd c.1 (by decide))) (Eq.trans (zset_ne (fun c => absurd c.1 (by decide))) (zset_ne (fun c => absurd c.1 (by decide))))))).symm)) (fun g5 m τ bf5 hK5 hX5 => ?_))
  · show vP D T N 88 25 g5 [some (2, 17), some (2, 24), some (0, (n : Int)), none, none] [] _
    refine vP_hv (fun hv5 => ?_)
    refine v_push (0) (hz_X6_readText hT _ _ rfl) rfl ?_
    refine v_store1 [some (2, 17), some (2, 24), some (0, (n : Int)), some (0, 0), none] (hz_X6_readText hT _ _ rfl) ⟨rfl, Nat.ne_of_beq_eq_false rfl⟩ (Nat.le_of_ble_eq_true rfl) rfl ?_
    exact k0 g5 m τ bf5 hK5 hX5
theorem co_exit_24 {D : zD} {T : zT} (hT : hTab T) (hO : vOK T) {N : Nat} {h : zH} {Q : zR → Prop} {B : Nat → Int} {n m i : Nat} {τ : PT} (w x : Int) (o : Option zV) (d : Int) (hv0 : zHv h) (hX : cX B n m τ i h) (hd : h 17 4 = (0, d)) (hE : bEn τ i ≠ 0) (hx : x < 900)
    (k0 : (d = 0) → Q (h, some (0, 1)))
    (k1 : (d ≠ 0) → ∀ (g4 : zH), (tF h g4) → (cB (eF τ i 2) g4) → Q (g4, some (0, 0))) :
    vP D T (N + 1) 88 27 h [some (2, 17), some (2, 24), some (0, w), some (0, x), o] [] Q := by
  refine v_loadS (v := (0, x)) (hi_X6_readText_27 hT) rfl rfl ?_
  refine v_push (900) (hi_X6_readText_28 hT) rfl ?_
  refine v_ic (hi_X6_readText_31 hT) (fun _ => ?_) (fun hc1 => absurd (show x < 900 from hx) hc1)
  refine v_load (v := (2, 17)) (hi_X6_readText_34 hT) rfl rfl ?_
  refine v_getR (c := 10) (r := 17) (hi_X6_readText_35 hT) rfl rfl rfl ?_
  refine v_call (w := 1) [some (2, 10)] hO (hi_X6_readText_38 hT) rfl rfl (cx_isEnd hT hO hX ?_)
  show vP D T N 88 41 h [some (2, 17), some (2, 24), some (0, w), some (0, x), o] [(0, (bEn τ i))] _
  refine v_if (hi_X6_readText_41 hT) (fun hc2 => absurd (show (bEn τ i) = 0 from hc2) hE) (fun _ => ?_)
  refine v_load (v := (2, 17)) (hz_X6_readText hT _ _ rfl) rfl rfl ?_
  refine v_getf (v := (0, d)) (r := 17) (hz_X6_readText hT _ _ rfl) rfl rfl (fun _ => hd) ?_
  refine v_if (hz_X6_readText hT _ _ rfl) (fun hc3 => ?_) (fun hc3 => ?_)
  · have hc3 : d = 0 := hc3
    refine v_push (1) (hz_X6_readText hT _ _ rfl) rfl ?_
    refine v_goto (hz_X6_readText hT _ _ rfl) ?_
    refine v_ret (hi_X6_readText_134 hT) (Or.inl rfl) ?_
    exact k0 hc3
  · have hc3 : d ≠ 0 := hc3
    refine v_load (v := (2, 17)) (hz_X6_readText hT _ _ rfl) rfl rfl ?_
    refine v_getR (c := 10) (r := 17) (hz_X6_readText hT _ _ rfl) rfl rfl rfl ?_
    refine v_push (2) (hz_X6_readText hT _ _ rfl) rfl ?_
    refine v_call (w := 2) [some (2, 10), some (0, 2)] hO (hz_X6_readText hT _ _ rfl) rfl rfl (cx_blame hT hO 2 hX (fun g4 ft4 c4 => ?_))
    · show vP D T N 88 126 g4 [some (2, 17), some (2, 24), some (0, w), some (0, x), o] [(0, 0)] _
      refine vP_hv (fun hv4 => ?_)
      refine v_if (hz_X6_readText hT _ _ rfl) (fun _ => ?_) (fun hc5 => absurd (show (0 : Int) = 0 from (by decide)) hc5)
      refine v_push (0) (hz_X6_readText hT _ _ rfl) rfl ?_
      refine v_ret (hi_X6_readText_134 hT) (Or.inl rfl) ?_
      exact k1 hc3 g4 ft4 c4
theorem co_turn_24 {D : zD} {T : zT} (hT : hTab T) (hO : vOK T) {N : Nat} {h : zH} {Q : zR → Prop} {B : Nat → Int} {n m i s d : Nat} {τ P : PT} (w x z : Int) (o : Option zV) (hX : cX B n m τ i h) (hK : Tks B n m τ) (hP : cP 24 P h) (hb : (0 ≤ P 0 0 ∧ P 0 0 ≤ 8) ∧ (0 ≤ P 0 1 ∧ P 0 1 ≤ 6) ∧ (0 ≤ P 0 2 ∧ P 0 2 ≤ 3) ∧ (0 ≤ P 0 3 ∧ P 0 3 ≤ 6)) (hl : h 17 2 = (2, 24)) (hs : h 18 1 = (0, (s : Int))) (hd : h 17 4 = (0, (d : Int))) (hz : h 18 0 = (0, z)) (bs : s ≤ 30) (bd : d ≤ 3) (bz : 0 ≤ z) (bzd : z + d ≤ 2 * s) (ho : ∀ e : Nat, e < d → 0 ≤ (h 23 e).2 ∧ (h 23 e).2 < z) (hx : 0 ≤ x ∧ x < 900) (h0 : τ 0 i ≠ 0) (ih : ∀ g s' d' i' a b z' o', pStep τ P s d i = .inr (s', d', i') → cX B n m τ i' g → cP 24 P g → g 17 2 = (2, 24) → g 18 1 = (0, a) → a = (s' : Int) → g 17 4 = (0, b) → b = (d' : Int) → g 18 0 = (0, z') → s' ≤ 30 ∧ d' ≤ 3 ∧ 0 ≤ z' ∧ z' + d' ≤ 2 * s' → (∀ e : Nat, e < d' → 0 ≤ (g 23 e).2 ∧ (g 23 e).2 < z') → oFr h g → vP D T N 88 27 g [some (2, 17), some (2, 24), some (0, w), some (0, (x + 1)), o'] [] Q) (er : ∀ g e, pStep τ P s d i = .inl e → cB e g → oFr h g → Q (g, some (0, 0))) : vP D T (N + 1) 88 27 h [some (2, 17), some (2, 24), some (0, w), some (0, x), o] [] Q := by
  refine vP_hv (fun hv => ?_)
  have tb := bKp_bd hK hX.im.1
  by_cases hE : bW τ 20 i ≠ 0
  · exact co_20_24 hT hO w x z o hv hX hK hP hb hl hs hd hz bs bd bz bzd ho hx h0 hE ih er
  · have hE : bW τ 20 i = 0 := Classical.byContradiction hE
    by_cases hsw : swd τ i < 0
    · refine co_x_24 hT hO w x z o hv hX hK hP hb hl hs hd hz bs bd bz bzd ho hx h0 hE hsw ?_ ih er
      have := swd_lt.mp hsw
      unfold bHw
      by_cases c : τ 0 i = 1
      · rw [if_pos c]; omega
      · rw [if_neg c]; omega
    · have hge := swd_ge.mp (show 0 ≤ swd τ i by omega)
      obtain ⟨h1, h3⟩ := hge
      have hk : τ 3 i = 8 ∨ τ 3 i = 9 ∨ τ 3 i = 10 ∨ τ 3 i = 11 ∨ τ 3 i = 12 ∨ τ 3 i = 13 ∨ τ 3 i = 14 ∨ τ 3 i = 15 ∨ τ 3 i = 19 ∨ τ 3 i = 21 := by omega
      rcases hk with h3 | h3 | h3 | h3 | h3 | h3 | h3 | h3 | h3 | h3
      · exact co_8_24 hT hO w x z o hv hX hK hP hb hl hs hd hz bs bd bz bzd ho hx h0 h1 h3 ih er
      · exact co_9_24 hT hO w x z o hv hX hK hP hb hl hs hd hz bs bd bz bzd ho hx h0 h1 h3 ih er
      · exact co_10_24 hT hO w x z o hv hX hK hP hb hl hs hd hz bs bd bz bzd ho hx h0 h1 h3 ih er
      · exact co_11_24 hT hO w x z o hv hX hK hP hb hl hs hd hz bs bd bz bzd ho hx h0 h1 h3 ih er
      · exact co_12_24 hT hO w x z o hv hX hK hP hb hl hs hd hz bs bd bz bzd ho hx h0 h1 h3 ih er
      · exact co_13_24 hT hO w x z o hv hX hK hP hb hl hs hd hz bs bd bz bzd ho hx h0 h1 h3 ih er
      · exact co_14_24 hT hO w x z o hv hX hK hP hb hl hs hd hz bs bd bz bzd ho hx h0 h1 h3 ih er
      · by_cases htw : twd τ (i + 1) < 0
        · refine co_15x_24 hT hO w x z o hv hX hK hP hb hl hs hd hz bs bd bz bzd ho hx h0 h1 h3 htw ?_ ih er
          have := twd_lt.mp htw
          unfold bHw
          by_cases c : τ 0 (i + 1) = 1
          · rw [if_pos c]; omega
          · rw [if_neg c]; omega
        · have hte := twd_ge.mp (show 0 ≤ twd τ (i + 1) by omega)
          obtain ⟨h1b, h3b⟩ := hte
          have hk : τ 3 (i + 1) = 16 ∨ τ 3 (i + 1) = 17 ∨ τ 3 (i + 1) = 18 := by omega
          rcases hk with h3b | h3b | h3b
          · exact co_15_16_24 hT hO w x z o hv hX hK hP hb hl hs hd hz bs bd bz bzd ho hx h0 h1 h3 h1b h3b ih er
          · exact co_15_17_24 hT hO w x z o hv hX hK hP hb hl hs hd hz bs bd bz bzd ho hx h0 h1 h3 h1b h3b ih er
          · exact co_15_18_24 hT hO w x z o hv hX hK hP hb hl hs hd hz bs bd bz bzd ho hx h0 h1 h3 h1b h3b ih er
      · exact co_19_24 hT hO w x z o hv hX hK hP hb hl hs hd hz bs bd bz bzd ho hx h0 h1 h3 ih er
      · exact co_21_24 hT hO w x z o hv hX hK hP hb hl hs hd hz bs bd bz bzd ho hx h0 h1 h3 ih er
theorem co_text_24 {D : zD} {T : zT} (hT : hTab T) (hO : vOK T) {N : Nat} {h : zH} {B : Nat → Int} {n : Nat} {P : PT} (hB : TXc B n h) (hn : (n : Int) ≤ (h 10 1).2) (hP : cP 24 P h) (hb : lB P) : vP D T N 88 0 h [some (2, 17), some (2, 24), some (0, (n : Int)), none, none] [] (cOx B n 24 P h) := by
  refine vP_hv (fun hv => co_text0_24 hT hO hv hB hn ?_)
  intro g m τ f hK hX
  have hP1 : cP 24 P g := hP.eq (fun a b h1 h2 => (f a b (fun c => by omega)).trans ((zset_ne (fun c => by omega)).trans ((zset_ne (fun c => by omega)).trans ((zset_ne (fun c => by omega)).trans (zset_ne (fun c => by omega))))))
  have f0 : ∀ g', oFr g g' → oXr h g' := fun g' f' a b hn => by
    rw [f' a b (fun c => hn (by omega)), f a b (fun c => hn (by omega)), zset_ne (fun c => hn (by omega)), zset_ne (fun c => hn (by omega)), zset_ne (fun c => hn (by omega)), zset_ne (fun c => hn (by omega))]
  refine vP_loop (fun h' l => ∃ (x : Nat) (s d i : Nat) (z : Int) (o : Option zV), l = [some (2, 17), some (2, 24), some (0, (n : Int)), some (0, (x : Int)), o] ∧ 2 * x ≤ i ∧ cX B n m τ i h' ∧ cP 24 P h' ∧ h' 17 2 = (2, 24) ∧ h' 18 1 = (0, (s : Int)) ∧ h' 17 4 = (0, (d : Int)) ∧ h' 18 0 = (0, z) ∧ (s ≤ 30 ∧ d ≤ 3 ∧ 0 ≤ z ∧ z + d ≤ 2 * s) ∧ (∀ e : Nat, e < d → 0 ≤ (h' 23 e).2 ∧ (h' 23 e).2 < z) ∧ oFr g h' ∧ pOrd τ P 900 0 0 0 = pOrd τ P (900 - x) s d i) ?_ N _ _ ⟨0, 0, 0, 0, 0, none, rfl, by decide, hX, hP1, ?_, ?_, ?_, ?_, ⟨by decide, by decide, by decide, by decide⟩, fun e he => absurd he (by omega), oFr.rfl, rfl⟩
  · rintro N h' l ⟨x, s, d, i, z, o, rfl, hxi, hX', hP', hl, hs, hd, hz, ⟨b1, b2, b3, b4⟩, ho, hF, he⟩ ih
    have him := hX'.im
    have e9 : 900 - x = (899 - x) + 1 := by omega
    by_cases h0 : τ 0 i = 0
    · refine vP_hv (fun hv => co_exit_24 hT hO n x o d hv hX' hd (bEn_y.mpr h0) (by omega) ?_ ?_)
      · intro c
        refine ⟨m, τ, hK, Or.inr ⟨s, z, ?_, rfl, hs, hz, b3, hX'.fl, hX'.pl⟩, f0 _ hF⟩
        rw [he, e9]
        show (if τ 0 i = 0 then (if d = 0 then _ else _) else _) = _
        rw [if_pos h0, if_pos (by omega)]
      · intro c g3 f3 c3
        refine ⟨m, τ, hK, Or.inl ⟨_, ?_, rfl, c3⟩, f0 _ (hF.t f3)⟩
        rw [he, e9]
        show (if τ 0 i = 0 then (if d = 0 then _ else _) else _) = _
        rw [if_pos h0, if_neg (by omega)]
    · refine co_turn_24 hT hO n x z o hX' hK hP' hb hl hs hd hz b1 b2 b3 b4 ho ⟨by omega, by omega⟩ h0 ?_ ?_
      · intro g3 s' d' i' a b z' o' q hX3 hP3 hl3 hs3 ha hd3 hb3 hz3 hbd ho3 f3
        subst ha hb3
        have hi := pStep_i q
        refine ih _ _ ⟨x + 1, s', d', i', z', o', rfl, by omega, hX3, hP3, hl3, hs3, hd3, hz3, hbd, ho3, hF.trans f3, ?_⟩
        rw [he, e9, show 900 - (x + 1) = 899 - x from by omega]
        show (if τ 0 i = 0 then _ else eb (pStep τ P s d i) fun a => pOrd τ P (899 - x) a.1 a.2.1 a.2.2) = _
        rw [if_neg h0, q, eb_r]
      · intro g3 e q c3 f3
        refine ⟨m, τ, hK, Or.inl ⟨e, ?_, rfl, c3⟩, f0 _ (hF.trans f3)⟩
        rw [he, e9]
        show (if τ 0 i = 0 then _ else eb (pStep τ P s d i) fun a => pOrd τ P (899 - x) a.1 a.2.1 a.2.2) = _
        rw [if_neg h0, q, eb_l]
  · exact (f 17 2 (fun c => by omega)).trans ((zset_ne (by decide)).trans ((zset_ne (by decide)).trans ((zset_ne (by decide)).trans zset_same)))
  · exact (f 18 1 (fun c => by omega)).trans ((zset_ne (by decide)).trans zset_same)
  · exact (f 17 4 (fun c => by omega)).trans zset_same
  · exact (f 18 0 (fun c => by omega)).trans ((zset_ne (by decide)).trans ((zset_ne (by decide)).trans zset_same))
