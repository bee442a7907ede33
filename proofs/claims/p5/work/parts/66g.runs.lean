/-! printed by wip/l/gent1.py: runs of both sides, by steps -/
theorem q_fill0_3 {D : zD} {T : zT} (hT : hTab T) (hO : vOK T) {N : Nat} {h : zH} {Q : zR → Prop} (v : Int) (hv0 : zHv h)
    (k0 : vP D T N 1 6 h [some (2, 3), some (1, v), none, some (0, 0), some (0, 60)] [] Q) :
    vP D T N 1 0 h [some (2, 3), some (1, v), none, none, none] [] Q := by
  refine v_push (0) (hT _ zt_J7_fill_d0a16 rfl _ _ rfl) rfl ?_
  refine v_store1 [some (2, 3), some (1, v), none, some (0, 0), none] (hT _ zt_J7_fill_d0a16 rfl _ _ rfl) ⟨rfl, Nat.ne_of_beq_eq_false rfl⟩ (Nat.le_of_ble_eq_true rfl) rfl ?_
  refine v_load (v := (2, 3)) (hT _ zt_J7_fill_d0a16 rfl _ _ rfl) rfl rfl ?_
  refine v_alen (r := 3) (n := 60) (hT _ zt_J7_fill_d0a16 rfl _ _ rfl) rfl rfl ?_
  show vP D T N 1 4 h [some (2, 3), some (1, v), none, some (0, 0), none] [(0, 60)] _
  refine v_store1 [some (2, 3), some (1, v), none, some (0, 0), some (0, 60)] (hT _ zt_J7_fill_d0a16 rfl _ _ rfl) ⟨rfl, Nat.ne_of_beq_eq_false rfl⟩ (Nat.le_of_ble_eq_true rfl) rfl ?_
  exact k0 
theorem q_fill1_3 {D : zD} {T : zT} (hT : hTab T) (hO : vOK T) {N : Nat} {h : zH} {Q : zR → Prop} (v i : Int) (hv0 : zHv h)
    (k0 : (i < 60) → (0 ≤ i) → vP D T N 1 6 (zset h 3 i.toNat (1, v)) [some (2, 3), some (1, v), none, some (0, (i + 1)), some (0, 60)] [] Q)
    (k1 : (60 ≤ i) → Q (h, none)) :
    vP D T (N + 1) 1 6 h [some (2, 3), some (1, v), none, some (0, i), some (0, 60)] [] Q := by
  refine v_loadS (v := (0, i)) (hT _ zt_J7_fill_d0a16 rfl _ _ rfl) rfl rfl ?_
  refine v_load (v := (0, 60)) (hT _ zt_J7_fill_d0a16 rfl _ _ rfl) rfl rfl ?_
  refine v_ic (hT _ zt_J7_fill_d0a16 rfl _ _ rfl) (fun hc1 => ?_) (fun hc1 => ?_)
  · have hc1 : i < 60 := hc1
    refine v_load (v := (2, 3)) (hT _ zt_J7_fill_d0a16 rfl _ _ rfl) rfl rfl ?_
    refine v_load (v := (0, i)) (hT _ zt_J7_fill_d0a16 rfl _ _ rfl) rfl rfl ?_
    refine v_load (v := (1, v)) (hT _ zt_J7_fill_d0a16 rfl _ _ rfl) rfl rfl ?_
    refine v_ast (r := 3) (hT _ zt_J7_fill_d0a16 rfl _ _ rfl) rfl rfl (fun ha2 hb3 hf4 => ?_)
    refine v_iinc (x := i) (u := 1) (w := (i + 1)) [some (2, 3), some (1, v), none, some (0, (i + 1)), some (0, 60)] (hT _ zt_J7_fill_d0a16 rfl _ _ rfl) rfl rfl (Nat.le_of_ble_eq_true rfl) (vz_inc (by omega) (by omega)) rfl ?_
    refine v_goto (hT _ zt_J7_fill_d0a16 rfl _ _ rfl) ?_
    exact k0 hc1 ha2
  · have hc1 : 60 ≤ i := Int.not_lt.mp hc1
    refine v_ret0 (hT _ zt_J7_fill_d0a16 rfl _ _ rfl) ?_
    exact k1 hc1
theorem q_fill_3 {D : zD} {T : zT} (hT : hTab T) (hO : vOK T) {N : Nat} {h : zH} {Q : zR → Prop} (v : Int) (k : ∀ h' : zH, (∀ a b, h' a b = if a = 3 ∧ b < 60 then (1, v) else h a b) → Q (h', none)) : vP D T N 1 0 h [some (2, 3), some (1, v), none, none, none] [] Q := by
  refine vP_hv (fun hv => q_fill0_3 hT hO v hv ?_)
  have key := vP_loop (D := D) (T := T) (mi := 1) (pc := 6) (Q := Q) (fun h' l => ∃ i : Int, 0 ≤ i ∧ i ≤ 60 ∧ l = [some (2, 3), some (1, v), none, some (0, i), some (0, 60)] ∧ ∀ a b, h' a b = if a = 3 ∧ (b : Int) < i then (1, v) else h a b) ?_
  · refine key N h _ ⟨0, Int.le_refl _, by decide, rfl, fun a b => ?_⟩
    rw [if_neg (fun c => by omega)]
  · rintro N h' l ⟨i, i0, i1, rfl, he⟩ ih
    refine vP_hv (fun hv' => q_fill1_3 hT hO v i hv' ?_ ?_)
    · intro c1 c2
      refine ih _ _ ⟨i + 1, by omega, by omega, rfl, fun a b => ?_⟩
      by_cases e : a = 3 ∧ b = i.toNat
      · rw [show zset h' 3 i.toNat (1, v) a b = (1, v) from if_pos e, if_pos ⟨e.1, by omega⟩]
      · rw [zset_ne e, he]
        by_cases e2 : a = 3 ∧ (b : Int) < i
        · rw [if_pos e2, if_pos ⟨e2.1, by omega⟩]
        · rw [if_neg e2, if_neg (fun c => e2 ⟨c.1, by have := e; omega⟩)]
    · intro c1
      refine k h' (fun a b => ?_)
      rw [he]
      by_cases e : a = 3 ∧ b < 60
      · rw [if_pos e, if_pos ⟨e.1, by omega⟩]
      · rw [if_neg e, if_neg (fun c => e ⟨c.1, by omega⟩)]
theorem q_fill0_5 {D : zD} {T : zT} (hT : hTab T) (hO : vOK T) {N : Nat} {h : zH} {Q : zR → Prop} (v : Int) (hv0 : zHv h)
    (k0 : vP D T N 1 6 h [some (2, 5), some (1, v), none, some (0, 0), some (0, 60)] [] Q) :
    vP D T N 1 0 h [some (2, 5), some (1, v), none, none, none] [] Q := by
  refine v_push (0) (hT _ zt_J7_fill_d0a16 rfl _ _ rfl) rfl ?_
  refine v_store1 [some (2, 5), some (1, v), none, some (0, 0), none] (hT _ zt_J7_fill_d0a16 rfl _ _ rfl) ⟨rfl, Nat.ne_of_beq_eq_false rfl⟩ (Nat.le_of_ble_eq_true rfl) rfl ?_
  refine v_load (v := (2, 5)) (hT _ zt_J7_fill_d0a16 rfl _ _ rfl) rfl rfl ?_
  refine v_alen (r := 5) (n := 60) (hT _ zt_J7_fill_d0a16 rfl _ _ rfl) rfl rfl ?_
  show vP D T N 1 4 h [some (2, 5), some (1, v), none, some (0, 0), none] [(0, 60)] _
  refine v_store1 [some (2, 5), some (1, v), none, some (0, 0), some (0, 60)] (hT _ zt_J7_fill_d0a16 rfl _ _ rfl) ⟨rfl, Nat.ne_of_beq_eq_false rfl⟩ (Nat.le_of_ble_eq_true rfl) rfl ?_
  exact k0 
theorem q_fill1_5 {D : zD} {T : zT} (hT : hTab T) (hO : vOK T) {N : Nat} {h : zH} {Q : zR → Prop} (v i : Int) (hv0 : zHv h)
    (k0 : (i < 60) → (0 ≤ i) → vP D T N 1 6 (zset h 5 i.toNat (1, v)) [some (2, 5), some (1, v), none, some (0, (i + 1)), some (0, 60)] [] Q)
    (k1 : (60 ≤ i) → Q (h, none)) :
    vP D T (N + 1) 1 6 h [some (2, 5), some (1, v), none, some (0, i), some (0, 60)] [] Q := by
  refine v_loadS (v := (0, i)) (hT _ zt_J7_fill_d0a16 rfl _ _ rfl) rfl rfl ?_
  refine v_load (v := (0, 60)) (hT _ zt_J7_fill_d0a16 rfl _ _ rfl) rfl rfl ?_
  refine v_ic (hT _ zt_J7_fill_d0a16 rfl _ _ rfl) (fun hc1 => ?_) (fun hc1 => ?_)
  · have hc1 : i < 60 := hc1
    refine v_load (v := (2, 5)) (hT _ zt_J7_fill_d0a16 rfl _ _ rfl) rfl rfl ?_
    refine v_load (v := (0, i)) (hT _ zt_J7_fill_d0a16 rfl _ _ rfl) rfl rfl ?_
    refine v_load (v := (1, v)) (hT _ zt_J7_fill_d0a16 rfl _ _ rfl) rfl rfl ?_
    refine v_ast (r := 5) (hT _ zt_J7_fill_d0a16 rfl _ _ rfl) rfl rfl (fun ha2 hb3 hf4 => ?_)
    refine v_iinc (x := i) (u := 1) (w := (i + 1)) [some (2, 5), some (1, v), none, some (0, (i + 1)), some (0, 60)] (hT _ zt_J7_fill_d0a16 rfl _ _ rfl) rfl rfl (Nat.le_of_ble_eq_true rfl) (vz_inc (by omega) (by omega)) rfl ?_
    refine v_goto (hT _ zt_J7_fill_d0a16 rfl _ _ rfl) ?_
    exact k0 hc1 ha2
  · have hc1 : 60 ≤ i := Int.not_lt.mp hc1
    refine v_ret0 (hT _ zt_J7_fill_d0a16 rfl _ _ rfl) ?_
    exact k1 hc1
theorem q_fill_5 {D : zD} {T : zT} (hT : hTab T) (hO : vOK T) {N : Nat} {h : zH} {Q : zR → Prop} (v : Int) (k : ∀ h' : zH, (∀ a b, h' a b = if a = 5 ∧ b < 60 then (1, v) else h a b) → Q (h', none)) : vP D T N 1 0 h [some (2, 5), some (1, v), none, none, none] [] Q := by
  refine vP_hv (fun hv => q_fill0_5 hT hO v hv ?_)
  have key := vP_loop (D := D) (T := T) (mi := 1) (pc := 6) (Q := Q) (fun h' l => ∃ i : Int, 0 ≤ i ∧ i ≤ 60 ∧ l = [some (2, 5), some (1, v), none, some (0, i), some (0, 60)] ∧ ∀ a b, h' a b = if a = 5 ∧ (b : Int) < i then (1, v) else h a b) ?_
  · refine key N h _ ⟨0, Int.le_refl _, by decide, rfl, fun a b => ?_⟩
    rw [if_neg (fun c => by omega)]
  · rintro N h' l ⟨i, i0, i1, rfl, he⟩ ih
    refine vP_hv (fun hv' => q_fill1_5 hT hO v i hv' ?_ ?_)
    · intro c1 c2
      refine ih _ _ ⟨i + 1, by omega, by omega, rfl, fun a b => ?_⟩
      by_cases e : a = 5 ∧ b = i.toNat
      · rw [show zset h' 5 i.toNat (1, v) a b = (1, v) from if_pos e, if_pos ⟨e.1, by omega⟩]
      · rw [zset_ne e, he]
        by_cases e2 : a = 5 ∧ (b : Int) < i
        · rw [if_pos e2, if_pos ⟨e2.1, by omega⟩]
        · rw [if_neg e2, if_neg (fun c => e2 ⟨c.1, by have := e; omega⟩)]
    · intro c1
      refine k h' (fun a b => ?_)
      rw [he]
      by_cases e : a = 5 ∧ b < 60
      · rw [if_pos e, if_pos ⟨e.1, by omega⟩]
      · rw [if_neg e, if_neg (fun c => e ⟨c.1, by omega⟩)]
theorem q_fill0_7 {D : zD} {T : zT} (hT : hTab T) (hO : vOK T) {N : Nat} {h : zH} {Q : zR → Prop} (v : Int) (hv0 : zHv h)
    (k0 : vP D T N 1 6 h [some (2, 7), some (1, v), none, some (0, 0), some (0, 60)] [] Q) :
    vP D T N 1 0 h [some (2, 7), some (1, v), none, none, none] [] Q := by
  refine v_push (0) (hT _ zt_J7_fill_d0a16 rfl _ _ rfl) rfl ?_
  refine v_store1 [some (2, 7), some (1, v), none, some (0, 0), none] (hT _ zt_J7_fill_d0a16 rfl _ _ rfl) ⟨rfl, Nat.ne_of_beq_eq_false rfl⟩ (Nat.le_of_ble_eq_true rfl) rfl ?_
  refine v_load (v := (2, 7)) (hT _ zt_J7_fill_d0a16 rfl _ _ rfl) rfl rfl ?_
  refine v_alen (r := 7) (n := 60) (hT _ zt_J7_fill_d0a16 rfl _ _ rfl) rfl rfl ?_
  show vP D T N 1 4 h [some (2, 7), some (1, v), none, some (0, 0), none] [(0, 60)] _
  refine v_store1 [some (2, 7), some (1, v), none, some (0, 0), some (0, 60)] (hT _ zt_J7_fill_d0a16 rfl _ _ rfl) ⟨rfl, Nat.ne_of_beq_eq_false rfl⟩ (Nat.le_of_ble_eq_true rfl) rfl ?_
  exact k0 
theorem q_fill1_7 {D : zD} {T : zT} (hT : hTab T) (hO : vOK T) {N : Nat} {h : zH} {Q : zR → Prop} (v i : Int) (hv0 : zHv h)
    (k0 : (i < 60) → (0 ≤ i) → vP D T N 1 6 (zset h 7 i.toNat (1, v)) [some (2, 7), some (1, v), none, some (0, (i + 1)), some (0, 60)] [] Q)
    (k1 : (60 ≤ i) → Q (h, none)) :
    vP D T (N + 1) 1 6 h [some (2, 7), some (1, v), none, some (0, i), some (0, 60)] [] Q := by
  refine v_loadS (v := (0, i)) (hT _ zt_J7_fill_d0a16 rfl _ _ rfl) rfl rfl ?_
  refine v_load (v := (0, 60)) (hT _ zt_J7_fill_d0a16 rfl _ _ rfl) rfl rfl ?_
  refine v_ic (hT _ zt_J7_fill_d0a16 rfl _ _ rfl) (fun hc1 => ?_) (fun hc1 => ?_)
  · have hc1 : i < 60 := hc1
    refine v_load (v := (2, 7)) (hT _ zt_J7_fill_d0a16 rfl _ _ rfl) rfl rfl ?_
    refine v_load (v := (0, i)) (hT _ zt_J7_fill_d0a16 rfl _ _ rfl) rfl rfl ?_
    refine v_load (v := (1, v)) (hT _ zt_J7_fill_d0a16 rfl _ _ rfl) rfl rfl ?_
    refine v_ast (r := 7) (hT _ zt_J7_fill_d0a16 rfl _ _ rfl) rfl rfl (fun ha2 hb3 hf4 => ?_)
    refine v_iinc (x := i) (u := 1) (w := (i + 1)) [some (2, 7), some (1, v), none, some (0, (i + 1)), some (0, 60)] (hT _ zt_J7_fill_d0a16 rfl _ _ rfl) rfl rfl (Nat.le_of_ble_eq_true rfl) (vz_inc (by omega) (by omega)) rfl ?_
    refine v_goto (hT _ zt_J7_fill_d0a16 rfl _ _ rfl) ?_
    exact k0 hc1 ha2
  · have hc1 : 60 ≤ i := Int.not_lt.mp hc1
    refine v_ret0 (hT _ zt_J7_fill_d0a16 rfl _ _ rfl) ?_
    exact k1 hc1
theorem q_fill_7 {D : zD} {T : zT} (hT : hTab T) (hO : vOK T) {N : Nat} {h : zH} {Q : zR → Prop} (v : Int) (k : ∀ h' : zH, (∀ a b, h' a b = if a = 7 ∧ b < 60 then (1, v) else h a b) → Q (h', none)) : vP D T N 1 0 h [some (2, 7), some (1, v), none, none, none] [] Q := by
  refine vP_hv (fun hv => q_fill0_7 hT hO v hv ?_)
  have key := vP_loop (D := D) (T := T) (mi := 1) (pc := 6) (Q := Q) (fun h' l => ∃ i : Int, 0 ≤ i ∧ i ≤ 60 ∧ l = [some (2, 7), some (1, v), none, some (0, i), some (0, 60)] ∧ ∀ a b, h' a b = if a = 7 ∧ (b : Int) < i then (1, v) else h a b) ?_
  · refine key N h _ ⟨0, Int.le_refl _, by decide, rfl, fun a b => ?_⟩
    rw [if_neg (fun c => by omega)]
  · rintro N h' l ⟨i, i0, i1, rfl, he⟩ ih
    refine vP_hv (fun hv' => q_fill1_7 hT hO v i hv' ?_ ?_)
    · intro c1 c2
      refine ih _ _ ⟨i + 1, by omega, by omega, rfl, fun a b => ?_⟩
      by_cases e : a = 7 ∧ b = i.toNat
      · rw [show zset h' 7 i.toNat (1, v) a b = (1, v) from if_pos e, if_pos ⟨e.1, by omega⟩]
      · rw [zset_ne e, he]
        by_cases e2 : a = 7 ∧ (b : Int) < i
        · rw [if_pos e2, if_pos ⟨e2.1, by omega⟩]
        · rw [if_neg e2, if_neg (fun c => e2 ⟨c.1, by have := e; omega⟩)]
    · intro c1
      refine k h' (fun a b => ?_)
      rw [he]
      by_cases e : a = 7 ∧ b < 60
      · rw [if_pos e, if_pos ⟨e.1, by omega⟩]
      · rw [if_neg e, if_neg (fun c => e ⟨c.1, by omega⟩)]
theorem q_fill0_9 {D : zD} {T : zT} (hT : hTab T) (hO : vOK T) {N : Nat} {h : zH} {Q : zR → Prop} (v : Int) (hv0 : zHv h)
    (k0 : vP D T N 1 6 h [some (2, 9), some (1, v), none, some (0, 0), some (0, 60)] [] Q) :
    vP D T N 1 0 h [some (2, 9), some (1, v), none, none, none] [] Q := by
  refine v_push (0) (hT _ zt_J7_fill_d0a16 rfl _ _ rfl) rfl ?_
  refine v_store1 [some (2, 9), some (1, v), none, some (0, 0), none] (hT _ zt_J7_fill_d0a16 rfl _ _ rfl) ⟨rfl, Nat.ne_of_beq_eq_false rfl⟩ (Nat.le_of_ble_eq_true rfl) rfl ?_
  refine v_load (v := (2, 9)) (hT _ zt_J7_fill_d0a16 rfl _ _ rfl) rfl rfl ?_
  refine v_alen (r := 9) (n := 60) (hT _ zt_J7_fill_d0a16 rfl _ _ rfl) rfl rfl ?_
  show vP D T N 1 4 h [some (2, 9), some (1, v), none, some (0, 0), none] [(0, 60)] _
  refine v_store1 [some (2, 9), some (1, v), none, some (0, 0), some (0, 60)] (hT _ zt_J7_fill_d0a16 rfl _ _ rfl) ⟨rfl, Nat.ne_of_beq_eq_false rfl⟩ (Nat.le_of_ble_eq_true rfl) rfl ?_
  exact k0 
theorem q_fill1_9 {D : zD} {T : zT} (hT : hTab T) (hO : vOK T) {N : Nat} {h : zH} {Q : zR → Prop} (v i : Int) (hv0 : zHv h)
    (k0 : (i < 60) → (0 ≤ i) → vP D T N 1 6 (zset h 9 i.toNat (1, v)) [some (2, 9), some (1, v), none, some (0, (i + 1)), some (0, 60)] [] Q)
    (k1 : (60 ≤ i) → Q (h, none)) :
    vP D T (N + 1) 1 6 h [some (2, 9), some (1, v), none, some (0, i), some (0, 60)] [] Q := by
  refine v_loadS (v := (0, i)) (hT _ zt_J7_fill_d0a16 rfl _ _ rfl) rfl rfl ?_
  refine v_load (v := (0, 60)) (hT _ zt_J7_fill_d0a16 rfl _ _ rfl) rfl rfl ?_
  refine v_ic (hT _ zt_J7_fill_d0a16 rfl _ _ rfl) (fun hc1 => ?_) (fun hc1 => ?_)
  · have hc1 : i < 60 := hc1
    refine v_load (v := (2, 9)) (hT _ zt_J7_fill_d0a16 rfl _ _ rfl) rfl rfl ?_
    refine v_load (v := (0, i)) (hT _ zt_J7_fill_d0a16 rfl _ _ rfl) rfl rfl ?_
    refine v_load (v := (1, v)) (hT _ zt_J7_fill_d0a16 rfl _ _ rfl) rfl rfl ?_
    refine v_ast (r := 9) (hT _ zt_J7_fill_d0a16 rfl _ _ rfl) rfl rfl (fun ha2 hb3 hf4 => ?_)
    refine v_iinc (x := i) (u := 1) (w := (i + 1)) [some (2, 9), some (1, v), none, some (0, (i + 1)), some (0, 60)] (hT _ zt_J7_fill_d0a16 rfl _ _ rfl) rfl rfl (Nat.le_of_ble_eq_true rfl) (vz_inc (by omega) (by omega)) rfl ?_
    refine v_goto (hT _ zt_J7_fill_d0a16 rfl _ _ rfl) ?_
    exact k0 hc1 ha2
  · have hc1 : 60 ≤ i := Int.not_lt.mp hc1
    refine v_ret0 (hT _ zt_J7_fill_d0a16 rfl _ _ rfl) ?_
    exact k1 hc1
theorem q_fill_9 {D : zD} {T : zT} (hT : hTab T) (hO : vOK T) {N : Nat} {h : zH} {Q : zR → Prop} (v : Int) (k : ∀ h' : zH, (∀ a b, h' a b = if a = 9 ∧ b < 60 then (1, v) else h a b) → Q (h', none)) : vP D T N 1 0 h [some (2, 9), some (1, v), none, none, none] [] Q := by
  refine vP_hv (fun hv => q_fill0_9 hT hO v hv ?_)
  have key := vP_loop (D := D) (T := T) (mi := 1) (pc := 6) (Q := Q) (fun h' l => ∃ i : Int, 0 ≤ i ∧ i ≤ 60 ∧ l = [some (2, 9), some (1, v), none, some (0, i), some (0, 60)] ∧ ∀ a b, h' a b = if a = 9 ∧ (b : Int) < i then (1, v) else h a b) ?_
  · refine key N h _ ⟨0, Int.le_refl _, by decide, rfl, fun a b => ?_⟩
    rw [if_neg (fun c => by omega)]
  · rintro N h' l ⟨i, i0, i1, rfl, he⟩ ih
    refine vP_hv (fun hv' => q_fill1_9 hT hO v i hv' ?_ ?_)
    · intro c1 c2
      refine ih _ _ ⟨i + 1, by omega, by omega, rfl, fun a b => ?_⟩
      by_cases e : a = 9 ∧ b = i.toNat
      · rw [show zset h' 9 i.toNat (1, v) a b = (1, v) from if_pos e, if_pos ⟨e.1, by omega⟩]
      · rw [zset_ne e, he]
        by_cases e2 : a = 9 ∧ (b : Int) < i
        · rw [if_pos e2, if_pos ⟨e2.1, by omega⟩]
        · rw [if_neg e2, if_neg (fun c => e2 ⟨c.1, by have := e; omega⟩)]
    · intro c1
      refine k h' (fun a b => ?_)
      rw [he]
      by_cases e : a = 9 ∧ b < 60
      · rw [if_pos e, if_pos ⟨e.1, by omega⟩]
      · rw [if_neg e, if_neg (fun c => e ⟨c.1, by omega⟩)]
theorem y_X11_tray {D : zD} {T : zT} (hT : hTab T) (hO : vOK T) {N : Nat} {h : zH} {Q : zR → Prop} (a b c : Int) (hv0 : zHv h)
    (k0 : (a < 0) → Q (zset h 0 0 (0, 1), some (0, 0)))
    (k1 : (0 ≤ a) → (a < 4) → (b < 0) → Q (zset h 0 0 (0, 1), some (0, 0)))
    (k2 : (0 ≤ a) → (a < 4) → (0 ≤ b) → (3 < b) → Q (zset h 0 0 (0, 1), some (0, 0)))
    (k3 : (0 ≤ a) → (a < 4) → (0 ≤ b) → (b ≤ 3) → (60 < c) → Q (zset h 0 0 (0, 5), some (0, 0)))
    (k4 : (0 ≤ a) → (a < 4) → (0 ≤ b) → (b ≤ 3) → (c ≤ 60) → (c < 0) → Q (zset h 0 0 (0, 6), some (0, 0)))
    (k5 : (0 ≤ a) → (a < 4) → (0 ≤ b) → (b ≤ 3) → (c ≤ 60) → (0 ≤ c) → (a = 0) → vP D T N 1 0 (zset (zset h 2 1 (0, b)) 2 2 (0, c)) [some (2, 3), some (1, 0), none, none, none] [] (fun r1 => vP D T N 127 18 r1.1 [some (2, 2), some (0, b), some (0, c)] (zpush r1.2 []) (fun r2 => vP D T N 188 54 r2.1 [some (2, 0), some (0, a), some (0, b), some (0, c)] (zpush r2.2 []) Q)))
    (k6 : (0 ≤ a) → (a < 4) → (0 ≤ b) → (b ≤ 3) → (c ≤ 60) → (0 ≤ c) → (a = 1) → vP D T N 1 0 (zset (zset h 4 1 (0, b)) 4 2 (0, c)) [some (2, 5), some (1, 0), none, none, none] [] (fun r1 => vP D T N 127 18 r1.1 [some (2, 4), some (0, b), some (0, c)] (zpush r1.2 []) (fun r2 => vP D T N 188 54 r2.1 [some (2, 0), some (0, a), some (0, b), some (0, c)] (zpush r2.2 []) Q)))
    (k7 : (0 ≤ a) → (a < 4) → (0 ≤ b) → (b ≤ 3) → (c ≤ 60) → (0 ≤ c) → (a = 2) → vP D T N 1 0 (zset (zset h 6 1 (0, b)) 6 2 (0, c)) [some (2, 7), some (1, 0), none, none, none] [] (fun r1 => vP D T N 127 18 r1.1 [some (2, 6), some (0, b), some (0, c)] (zpush r1.2 []) (fun r2 => vP D T N 188 54 r2.1 [some (2, 0), some (0, a), some (0, b), some (0, c)] (zpush r2.2 []) Q)))
    (k8 : (0 ≤ a) → (a < 4) → (0 ≤ b) → (b ≤ 3) → (c ≤ 60) → (0 ≤ c) → (a = 3) → vP D T N 1 0 (zset (zset h 8 1 (0, b)) 8 2 (0, c)) [some (2, 9), some (1, 0), none, none, none] [] (fun r1 => vP D T N 127 18 r1.1 [some (2, 8), some (0, b), some (0, c)] (zpush r1.2 []) (fun r2 => vP D T N 188 54 r2.1 [some (2, 0), some (0, a), some (0, b), some (0, c)] (zpush r2.2 []) Q)))
    (k9 : (0 ≤ a) → (4 ≤ a) → Q (zset h 0 0 (0, 1), some (0, 0))) :
    vP D T N 188 0 h [some (2, 0), some (0, a), some (0, b), some (0, c)] [] Q := by
  refine v_load (v := (0, a)) (hT _ zt_X11_tray rfl _ _ rfl) rfl rfl ?_
  refine v_call (w := 1) [some (0, a)] hO (hT _ zt_X11_tray rfl _ _ rfl) rfl rfl ?_
  refine v_load (v := (0, a)) (hT _ zt_X11_isTray rfl _ _ rfl) rfl rfl ?_
  refine v_if (hT _ zt_X11_isTray rfl _ _ rfl) (fun hc1 => ?_) (fun hc1 => ?_)
  · have hc1 : a < 0 := hc1
    refine v_push (0) (hT _ zt_X11_isTray rfl _ _ rfl) rfl ?_
    refine v_ret (hT _ zt_X11_isTray rfl _ _ rfl) (Or.inl rfl) ?_
    show vP D T N 188 4 h [some (2, 0), some (0, a), some (0, b), some (0, c)] [(0, 0)] _
    refine v_if (hT _ zt_X11_tray rfl _ _ rfl) (fun _ => ?_) (fun hc2 => absurd (show (0 : Int) = 0 from (by decide)) hc2)
    refine v_load (v := (2, 0)) (hT _ zt_X11_tray rfl _ _ rfl) rfl rfl ?_
    refine v_push (1) (hT _ zt_X11_tray rfl _ _ rfl) rfl ?_
    refine v_call (w := 2) [some (2, 0), some (0, 1)] hO (hT _ zt_X11_tray rfl _ _ rfl) rfl rfl ?_
    refine v_load (v := (2, 0)) (hT _ zt_X11_refuse rfl _ _ rfl) rfl rfl ?_
    refine v_load (v := (0, 1)) (hT _ zt_X11_refuse rfl _ _ rfl) rfl rfl ?_
    refine v_putf (r := 0) hO (hT _ zt_X11_refuse rfl _ _ rfl) rfl (fun hf3 => ?_)
    refine v_push (0) (hT _ zt_X11_refuse rfl _ _ rfl) rfl ?_
    refine v_ret (hT _ zt_X11_refuse rfl _ _ rfl) (Or.inl rfl) ?_
    show vP D T N 188 19 (zset h 0 0 (0, 1)) [some (2, 0), some (0, a), some (0, b), some (0, c)] [(0, 0)] _
    refine v_ret (hT _ zt_X11_tray rfl _ _ rfl) (Or.inl rfl) ?_
    exact k0 hc1
  · have hc1 : 0 ≤ a := Int.not_lt.mp hc1
    refine v_load (v := (0, a)) (hT _ zt_X11_isTray rfl _ _ rfl) rfl rfl ?_
    refine v_push (4) (hT _ zt_X11_isTray rfl _ _ rfl) rfl ?_
    refine v_ic (hT _ zt_X11_isTray rfl _ _ rfl) (fun hc4 => ?_) (fun hc4 => ?_)
    · have hc4 : a < 4 := hc4
      refine v_push (1) (hT _ zt_X11_isTray rfl _ _ rfl) rfl ?_
      refine v_goto (hT _ zt_X11_isTray rfl _ _ rfl) ?_
      refine v_ret (hT _ zt_X11_isTray rfl _ _ rfl) (Or.inl rfl) ?_
      show vP D T N 188 4 h [some (2, 0), some (0, a), some (0, b), some (0, c)] [(0, 1)] _
      refine v_if (hT _ zt_X11_tray rfl _ _ rfl) (fun hc5 => absurd (show (1 : Int) = 0 from hc5) (by decide)) (fun _ => ?_)
      refine v_load (v := (0, b)) (hT _ zt_X11_tray rfl _ _ rfl) rfl rfl ?_
      refine v_call (w := 1) [some (0, b)] hO (hT _ zt_X11_tray rfl _ _ rfl) rfl rfl ?_
      refine v_load (v := (0, b)) (hT _ zt_X9_isSort rfl _ _ rfl) rfl rfl ?_
      refine v_if (hT _ zt_X9_isSort rfl _ _ rfl) (fun hc6 => ?_) (fun hc6 => ?_)
      · have hc6 : b < 0 := hc6
        refine v_push (0) (hT _ zt_X9_isSort rfl _ _ rfl) rfl ?_
        refine v_ret (hT _ zt_X9_isSort rfl _ _ rfl) (Or.inl rfl) ?_
        show vP D T N 188 11 h [some (2, 0), some (0, a), some (0, b), some (0, c)] [(0, 0)] _
        refine v_if (hT _ zt_X11_tray rfl _ _ rfl) (fun _ => ?_) (fun hc7 => absurd (show (0 : Int) = 0 from (by decide)) hc7)
        refine v_load (v := (2, 0)) (hT _ zt_X11_tray rfl _ _ rfl) rfl rfl ?_
        refine v_push (1) (hT _ zt_X11_tray rfl _ _ rfl) rfl ?_
        refine v_call (w := 2) [some (2, 0), some (0, 1)] hO (hT _ zt_X11_tray rfl _ _ rfl) rfl rfl ?_
        refine v_load (v := (2, 0)) (hT _ zt_X11_refuse rfl _ _ rfl) rfl rfl ?_
        refine v_load (v := (0, 1)) (hT _ zt_X11_refuse rfl _ _ rfl) rfl rfl ?_
        refine v_putf (r := 0) hO (hT _ zt_X11_refuse rfl _ _ rfl) rfl (fun hf8 => ?_)
        refine v_push (0) (hT _ zt_X11_refuse rfl _ _ rfl) rfl ?_
        refine v_ret (hT _ zt_X11_refuse rfl _ _ rfl) (Or.inl rfl) ?_
        show vP D T N 188 19 (zset h 0 0 (0, 1)) [some (2, 0), some (0, a), some (0, b), some (0, c)] [(0, 0)] _
        refine v_ret (hT _ zt_X11_tray rfl _ _ rfl) (Or.inl rfl) ?_
        exact k1 hc1 hc4 hc6
      · have hc6 : 0 ≤ b := Int.not_lt.mp hc6
        refine v_load (v := (0, b)) (hT _ zt_X9_isSort rfl _ _ rfl) rfl rfl ?_
        refine v_push (3) (hT _ zt_X9_isSort rfl _ _ rfl) rfl ?_
        refine v_ic (hT _ zt_X9_isSort rfl _ _ rfl) (fun hc9 => ?_) (fun hc9 => ?_)
        · have hc9 : 3 < b := hc9
          refine v_push (0) (hT _ zt_X9_isSort rfl _ _ rfl) rfl ?_
          refine v_ret (hT _ zt_X9_isSort rfl _ _ rfl) (Or.inl rfl) ?_
          show vP D T N 188 11 h [some (2, 0), some (0, a), some (0, b), some (0, c)] [(0, 0)] _
          refine v_if (hT _ zt_X11_tray rfl _ _ rfl) (fun _ => ?_) (fun hc10 => absurd (show (0 : Int) = 0 from (by decide)) hc10)
          refine v_load (v := (2, 0)) (hT _ zt_X11_tray rfl _ _ rfl) rfl rfl ?_
          refine v_push (1) (hT _ zt_X11_tray rfl _ _ rfl) rfl ?_
          refine v_call (w := 2) [some (2, 0), some (0, 1)] hO (hT _ zt_X11_tray rfl _ _ rfl) rfl rfl ?_
          refine v_load (v := (2, 0)) (hT _ zt_X11_refuse rfl _ _ rfl) rfl rfl ?_
          refine v_load (v := (0, 1)) (hT _ zt_X11_refuse rfl _ _ rfl) rfl rfl ?_
          refine v_putf (r := 0) hO (hT _ zt_X11_refuse rfl _ _ rfl) rfl (fun hf11 => ?_)
          refine v_push (0) (hT _ zt_X11_refuse rfl _ _ rfl) rfl ?_
          refine v_ret (hT _ zt_X11_refuse rfl _ _ rfl) (Or.inl rfl) ?_
          show vP D T N 188 19 (zset h 0 0 (0, 1)) [some (2, 0), some (0, a), some (0, b), some (0, c)] [(0, 0)] _
          refine v_ret (hT _ zt_X11_tray rfl _ _ rfl) (Or.inl rfl) ?_
          exact k2 hc1 hc4 hc6 hc9
        · have hc9 : b ≤ 3 := Int.not_lt.mp hc9
          refine v_push (1) (hT _ zt_X9_isSort rfl _ _ rfl) rfl ?_
          refine v_goto (hT _ zt_X9_isSort rfl _ _ rfl) ?_
          refine v_ret (hT _ zt_X9_isSort rfl _ _ rfl) (Or.inl rfl) ?_
          show vP D T N 188 11 h [some (2, 0), some (0, a), some (0, b), some (0, c)] [(0, 1)] _
          refine v_if (hT _ zt_X11_tray rfl _ _ rfl) (fun hc12 => absurd (show (1 : Int) = 0 from hc12) (by decide)) (fun _ => ?_)
          refine v_load (v := (0, c)) (hT _ zt_X11_tray rfl _ _ rfl) rfl rfl ?_
          refine v_push (60) (hT _ zt_X11_tray rfl _ _ rfl) rfl ?_
          refine v_ic (hT _ zt_X11_tray rfl _ _ rfl) (fun hc13 => ?_) (fun hc13 => ?_)
          · have hc13 : 60 < c := hc13
            refine v_load (v := (2, 0)) (hT _ zt_X11_tray rfl _ _ rfl) rfl rfl ?_
            refine v_push (5) (hT _ zt_X11_tray rfl _ _ rfl) rfl ?_
            refine v_call (w := 2) [some (2, 0), some (0, 5)] hO (hT _ zt_X11_tray rfl _ _ rfl) rfl rfl ?_
            refine v_load (v := (2, 0)) (hT _ zt_X11_refuse rfl _ _ rfl) rfl rfl ?_
            refine v_load (v := (0, 5)) (hT _ zt_X11_refuse rfl _ _ rfl) rfl rfl ?_
            refine v_putf (r := 0) hO (hT _ zt_X11_refuse rfl _ _ rfl) rfl (fun hf14 => ?_)
            refine v_push (0) (hT _ zt_X11_refuse rfl _ _ rfl) rfl ?_
            refine v_ret (hT _ zt_X11_refuse rfl _ _ rfl) (Or.inl rfl) ?_
            show vP D T N 188 31 (zset h 0 0 (0, 5)) [some (2, 0), some (0, a), some (0, b), some (0, c)] [(0, 0)] _
            refine v_ret (hT _ zt_X11_tray rfl _ _ rfl) (Or.inl rfl) ?_
            exact k3 hc1 hc4 hc6 hc9 hc13
          · have hc13 : c ≤ 60 := Int.not_lt.mp hc13
            refine v_load (v := (0, c)) (hT _ zt_X11_tray rfl _ _ rfl) rfl rfl ?_
            refine v_if (hT _ zt_X11_tray rfl _ _ rfl) (fun hc15 => ?_) (fun hc15 => ?_)
            · have hc15 : c < 0 := hc15
              refine v_load (v := (2, 0)) (hT _ zt_X11_tray rfl _ _ rfl) rfl rfl ?_
              refine v_push (6) (hT _ zt_X11_tray rfl _ _ rfl) rfl ?_
              refine v_call (w := 2) [some (2, 0), some (0, 6)] hO (hT _ zt_X11_tray rfl _ _ rfl) rfl rfl ?_
              refine v_load (v := (2, 0)) (hT _ zt_X11_refuse rfl _ _ rfl) rfl rfl ?_
              refine v_load (v := (0, 6)) (hT _ zt_X11_refuse rfl _ _ rfl) rfl rfl ?_
              refine v_putf (r := 0) hO (hT _ zt_X11_refuse rfl _ _ rfl) rfl (fun hf16 => ?_)
              refine v_push (0) (hT _ zt_X11_refuse rfl _ _ rfl) rfl ?_
              refine v_ret (hT _ zt_X11_refuse rfl _ _ rfl) (Or.inl rfl) ?_
              show vP D T N 188 42 (zset h 0 0 (0, 6)) [some (2, 0), some (0, a), some (0, b), some (0, c)] [(0, 0)] _
              refine v_ret (hT _ zt_X11_tray rfl _ _ rfl) (Or.inl rfl) ?_
              exact k4 hc1 hc4 hc6 hc9 hc13 hc15
            · have hc15 : 0 ≤ c := Int.not_lt.mp hc15
              refine v_load (v := (2, 0)) (hT _ zt_X11_tray rfl _ _ rfl) rfl rfl ?_
              refine v_getR (c := 1) (r := 0) (hT _ zt_X11_tray rfl _ _ rfl) rfl rfl rfl ?_
              refine v_load (v := (0, a)) (hT _ zt_X11_tray rfl _ _ rfl) rfl rfl ?_
              refine v_aldV (v := h 1 a.toNat) (r := 1) (hT _ zt_X11_tray rfl _ _ rfl) rfl rfl (fun _ _ _ => rfl) (fun ha17 hb18 => ?_)
              have hb18 : a < 4 := hb18
              rcases (show a = 0 ∨ a = 1 ∨ a = 2 ∨ a = 3 from by omega) with he18 | he18 | he18 | he18
              · rw [show h 1 a.toNat = (2, 2) from by rw [he18]; exact hv0.ref rfl]
                refine v_load (v := (0, b)) (hT _ zt_X11_tray rfl _ _ rfl) rfl rfl ?_
                refine v_load (v := (0, c)) (hT _ zt_X11_tray rfl _ _ rfl) rfl rfl ?_
                refine v_call (w := 3) [some (2, 2), some (0, b), some (0, c)] hO (hT _ zt_X11_tray rfl _ _ rfl) rfl rfl ?_
                refine v_load (v := (2, 2)) (hT _ zt_X9_becomeZeros rfl _ _ rfl) rfl rfl ?_
                refine v_load (v := (0, b)) (hT _ zt_X9_becomeZeros rfl _ _ rfl) rfl rfl ?_
                refine v_putf (r := 2) hO (hT _ zt_X9_becomeZeros rfl _ _ rfl) rfl (fun hf20 => ?_)
                refine v_load (v := (2, 2)) (hT _ zt_X9_becomeZeros rfl _ _ rfl) rfl rfl ?_
                refine v_load (v := (0, c)) (hT _ zt_X9_becomeZeros rfl _ _ rfl) rfl rfl ?_
                refine v_putf (r := 2) hO (hT _ zt_X9_becomeZeros rfl _ _ rfl) rfl (fun hf21 => ?_)
                refine v_load (v := (2, 2)) (hT _ zt_X9_becomeZeros rfl _ _ rfl) rfl rfl ?_
                refine v_getR (c := 3) (r := 2) (hT _ zt_X9_becomeZeros rfl _ _ rfl) rfl rfl rfl ?_
                refine v_push (0) (hT _ zt_X9_becomeZeros rfl _ _ rfl) rfl ?_
                refine v_call (w := 5) [some (2, 3), some (1, 0), none, none, none] hO (hT _ zt_X9_becomeZeros rfl _ _ rfl) rfl rfl ?_
                exact k5 hc1 hc4 hc6 hc9 hc13 hc15 he18
              · rw [show h 1 a.toNat = (2, 4) from by rw [he18]; exact hv0.ref rfl]
                refine v_load (v := (0, b)) (hT _ zt_X11_tray rfl _ _ rfl) rfl rfl ?_
                refine v_load (v := (0, c)) (hT _ zt_X11_tray rfl _ _ rfl) rfl rfl ?_
                refine v_call (w := 3) [some (2, 4), some (0, b), some (0, c)] hO (hT _ zt_X11_tray rfl _ _ rfl) rfl rfl ?_
                refine v_load (v := (2, 4)) (hT _ zt_X9_becomeZeros rfl _ _ rfl) rfl rfl ?_
                refine v_load (v := (0, b)) (hT _ zt_X9_becomeZeros rfl _ _ rfl) rfl rfl ?_
                refine v_putf (r := 4) hO (hT _ zt_X9_becomeZeros rfl _ _ rfl) rfl (fun hf22 => ?_)
                refine v_load (v := (2, 4)) (hT _ zt_X9_becomeZeros rfl _ _ rfl) rfl rfl ?_
                refine v_load (v := (0, c)) (hT _ zt_X9_becomeZeros rfl _ _ rfl) rfl rfl ?_
                refine v_putf (r := 4) hO (hT _ zt_X9_becomeZeros rfl _ _ rfl) rfl (fun hf23 => ?_)
                refine v_load (v := (2, 4)) (hT _ zt_X9_becomeZeros rfl _ _ rfl) rfl rfl ?_
                refine v_getR (c := 5) (r := 4) (hT _ zt_X9_becomeZeros rfl _ _ rfl) rfl rfl rfl ?_
                refine v_push (0) (hT _ zt_X9_becomeZeros rfl _ _ rfl) rfl ?_
                refine v_call (w := 5) [some (2, 5), some (1, 0), none, none, none] hO (hT _ zt_X9_becomeZeros rfl _ _ rfl) rfl rfl ?_
                exact k6 hc1 hc4 hc6 hc9 hc13 hc15 he18
              · rw [show h 1 a.toNat = (2, 6) from by rw [he18]; exact hv0.ref rfl]
                refine v_load (v := (0, b)) (hT _ zt_X11_tray rfl _ _ rfl) rfl rfl ?_
                refine v_load (v := (0, c)) (hT _ zt_X11_tray rfl _ _ rfl) rfl rfl ?_
                refine v_call (w := 3) [some (2, 6), some (0, b), some (0, c)] hO (hT _ zt_X11_tray rfl _ _ rfl) rfl rfl ?_
                refine v_load (v := (2, 6)) (hT _ zt_X9_becomeZeros rfl _ _ rfl) rfl rfl ?_
                refine v_load (v := (0, b)) (hT _ zt_X9_becomeZeros rfl _ _ rfl) rfl rfl ?_
                refine v_putf (r := 6) hO (hT _ zt_X9_becomeZeros rfl _ _ rfl) rfl (fun hf24 => ?_)
                refine v_load (v := (2, 6)) (hT _ zt_X9_becomeZeros rfl _ _ rfl) rfl rfl ?_
                refine v_load (v := (0, c)) (hT _ zt_X9_becomeZeros rfl _ _ rfl) rfl rfl ?_
                refine v_putf (r := 6) hO (hT _ zt_X9_becomeZeros rfl _ _ rfl) rfl (fun hf25 => ?_)
                refine v_load (v := (2, 6)) (hT _ zt_X9_becomeZeros rfl _ _ rfl) rfl rfl ?_
                refine v_getR (c := 7) (r := 6) (hT _ zt_X9_becomeZeros rfl _ _ rfl) rfl rfl rfl ?_
                refine v_push (0) (hT _ zt_X9_becomeZeros rfl _ _ rfl) rfl ?_
                refine v_call (w := 5) [some (2, 7), some (1, 0), none, none, none] hO (hT _ zt_X9_becomeZeros rfl _ _ rfl) rfl rfl ?_
                exact k7 hc1 hc4 hc6 hc9 hc13 hc15 he18
              · rw [show h 1 a.toNat = (2, 8) from by rw [he18]; exact hv0.ref rfl]
                refine v_load (v := (0, b)) (hT _ zt_X11_tray rfl _ _ rfl) rfl rfl ?_
                refine v_load (v := (0, c)) (hT _ zt_X11_tray rfl _ _ rfl) rfl rfl ?_
                refine v_call (w := 3) [some (2, 8), some (0, b), some (0, c)] hO (hT _ zt_X11_tray rfl _ _ rfl) rfl rfl ?_
                refine v_load (v := (2, 8)) (hT _ zt_X9_becomeZeros rfl _ _ rfl) rfl rfl ?_
                refine v_load (v := (0, b)) (hT _ zt_X9_becomeZeros rfl _ _ rfl) rfl rfl ?_
                refine v_putf (r := 8) hO (hT _ zt_X9_becomeZeros rfl _ _ rfl) rfl (fun hf26 => ?_)
                refine v_load (v := (2, 8)) (hT _ zt_X9_becomeZeros rfl _ _ rfl) rfl rfl ?_
                refine v_load (v := (0, c)) (hT _ zt_X9_becomeZeros rfl _ _ rfl) rfl rfl ?_
                refine v_putf (r := 8) hO (hT _ zt_X9_becomeZeros rfl _ _ rfl) rfl (fun hf27 => ?_)
                refine v_load (v := (2, 8)) (hT _ zt_X9_becomeZeros rfl _ _ rfl) rfl rfl ?_
                refine v_getR (c := 9) (r := 8) (hT _ zt_X9_becomeZeros rfl _ _ rfl) rfl rfl rfl ?_
                refine v_push (0) (hT _ zt_X9_becomeZeros rfl _ _ rfl) rfl ?_
                refine v_call (w := 5) [some (2, 9), some (1, 0), none, none, none] hO (hT _ zt_X9_becomeZeros rfl _ _ rfl) rfl rfl ?_
                exact k8 hc1 hc4 hc6 hc9 hc13 hc15 he18
    · have hc4 : 4 ≤ a := Int.not_lt.mp hc4
      refine v_push (0) (hT _ zt_X11_isTray rfl _ _ rfl) rfl ?_
      refine v_ret (hT _ zt_X11_isTray rfl _ _ rfl) (Or.inl rfl) ?_
      show vP D T N 188 4 h [some (2, 0), some (0, a), some (0, b), some (0, c)] [(0, 0)] _
      refine v_if (hT _ zt_X11_tray rfl _ _ rfl) (fun _ => ?_) (fun hc28 => absurd (show (0 : Int) = 0 from (by decide)) hc28)
      refine v_load (v := (2, 0)) (hT _ zt_X11_tray rfl _ _ rfl) rfl rfl ?_
      refine v_push (1) (hT _ zt_X11_tray rfl _ _ rfl) rfl ?_
      refine v_call (w := 2) [some (2, 0), some (0, 1)] hO (hT _ zt_X11_tray rfl _ _ rfl) rfl rfl ?_
      refine v_load (v := (2, 0)) (hT _ zt_X11_refuse rfl _ _ rfl) rfl rfl ?_
      refine v_load (v := (0, 1)) (hT _ zt_X11_refuse rfl _ _ rfl) rfl rfl ?_
      refine v_putf (r := 0) hO (hT _ zt_X11_refuse rfl _ _ rfl) rfl (fun hf29 => ?_)
      refine v_push (0) (hT _ zt_X11_refuse rfl _ _ rfl) rfl ?_
      refine v_ret (hT _ zt_X11_refuse rfl _ _ rfl) (Or.inl rfl) ?_
      show vP D T N 188 19 (zset h 0 0 (0, 1)) [some (2, 0), some (0, a), some (0, b), some (0, c)] [(0, 0)] _
      refine v_ret (hT _ zt_X11_tray rfl _ _ rfl) (Or.inl rfl) ?_
      exact k9 hc1 hc4
theorem y_X11_trayE {D : zD} {T : zT} (hT : hTab T) (hO : vOK T) {N : Nat} {h : zH} {Q : zR → Prop} (a b c : Int)
    (k0 : Q (zset h 0 0 (0, 0), some (0, 1))) :
    vP D T N 188 54 h [some (2, 0), some (0, a), some (0, b), some (0, c)] [] Q := by
  refine v_load (v := (2, 0)) (hT _ zt_X11_tray rfl _ _ rfl) rfl rfl ?_
  refine v_call (w := 1) [some (2, 0)] hO (hT _ zt_X11_tray rfl _ _ rfl) rfl rfl ?_
  refine v_load (v := (2, 0)) (hT _ zt_X11_accept rfl _ _ rfl) rfl rfl ?_
  refine v_push (0) (hT _ zt_X11_accept rfl _ _ rfl) rfl ?_
  refine v_putf (r := 0) hO (hT _ zt_X11_accept rfl _ _ rfl) rfl (fun hf1 => ?_)
  refine v_push (1) (hT _ zt_X11_accept rfl _ _ rfl) rfl ?_
  refine v_ret (hT _ zt_X11_accept rfl _ _ rfl) (Or.inl rfl) ?_
  show vP D T N 188 58 (zset h 0 0 (0, 0)) [some (2, 0), some (0, a), some (0, b), some (0, c)] [(0, 1)] _
  refine v_ret (hT _ zt_X11_tray rfl _ _ rfl) (Or.inl rfl) ?_
  exact k0 
theorem y_X12_tray {D : zD} {T : zT} (hT : hTab T) (hO : vOK T) {N : Nat} {h : zH} {Q : zR → Prop} (a b c : Int) (hv0 : zHv h)
    (k0 : (a < 0) → Q (zset (zset (zset h 121 1 (0, 0)) 121 0 (0, 0)) 121 0 (0, 1), some (0, 0)))
    (k1 : (0 ≤ a) → (a < 4) → (b < 0) → Q (zset (zset (zset h 121 1 (0, 0)) 121 0 (0, 0)) 121 0 (0, 1), some (0, 0)))
    (k2 : (0 ≤ a) → (a < 4) → (0 ≤ b) → (3 < b) → Q (zset (zset (zset h 121 1 (0, 0)) 121 0 (0, 0)) 121 0 (0, 1), some (0, 0)))
    (k3 : (0 ≤ a) → (a < 4) → (0 ≤ b) → (b ≤ 3) → (60 < c) → Q (zset (zset (zset h 121 1 (0, 0)) 121 0 (0, 0)) 121 0 (0, 5), some (0, 0)))
    (k4 : (0 ≤ a) → (a < 4) → (0 ≤ b) → (b ≤ 3) → (c ≤ 60) → (c < 0) → Q (zset (zset (zset h 121 1 (0, 0)) 121 0 (0, 0)) 121 0 (0, 6), some (0, 0)))
    (k5 : (0 ≤ a) → (a < 4) → (0 ≤ b) → (b ≤ 3) → (c ≤ 60) → (0 ≤ c) → vP D T N 329 74 (zset (zset (zset (zset h 121 1 (0, 0)) 121 0 (0, 0)) 122 a.toNat (0, b)) 123 a.toNat (0, c)) [some (2, 121), some (0, a), some (0, b), some (0, c), some (0, 0)] [] Q)
    (k6 : (0 ≤ a) → (4 ≤ a) → Q (zset (zset (zset h 121 1 (0, 0)) 121 0 (0, 0)) 121 0 (0, 1), some (0, 0))) :
    vP D T N 329 0 h [some (2, 121), some (0, a), some (0, b), some (0, c), none] [] Q := by
  refine v_load (v := (2, 121)) (hT _ zt_X12_tray rfl _ _ rfl) rfl rfl ?_
  refine v_push (0) (hT _ zt_X12_tray rfl _ _ rfl) rfl ?_
  refine v_putf (r := 121) hO (hT _ zt_X12_tray rfl _ _ rfl) rfl (fun hf1 => ?_)
  refine v_load (v := (2, 121)) (hT _ zt_X12_tray rfl _ _ rfl) rfl rfl ?_
  refine v_push (0) (hT _ zt_X12_tray rfl _ _ rfl) rfl ?_
  refine v_putf (r := 121) hO (hT _ zt_X12_tray rfl _ _ rfl) rfl (fun hf2 => ?_)
  refine v_load (v := (0, a)) (hT _ zt_X12_tray rfl _ _ rfl) rfl rfl ?_
  refine v_if (hT _ zt_X12_tray rfl _ _ rfl) (fun hc3 => ?_) (fun hc3 => ?_)
  · have hc3 : a < 0 := hc3
    refine v_load (v := (2, 121)) (hT _ zt_X12_tray rfl _ _ rfl) rfl rfl ?_
    refine v_push (1) (hT _ zt_X12_tray rfl _ _ rfl) rfl ?_
    refine v_call (w := 2) [some (2, 121), some (0, 1)] hO (hT _ zt_X12_tray rfl _ _ rfl) rfl rfl ?_
    refine v_load (v := (2, 121)) (hT _ zt_X12_no rfl _ _ rfl) rfl rfl ?_
    refine v_load (v := (0, 1)) (hT _ zt_X12_no rfl _ _ rfl) rfl rfl ?_
    refine v_putf (r := 121) hO (hT _ zt_X12_no rfl _ _ rfl) rfl (fun hf4 => ?_)
    refine v_push (0) (hT _ zt_X12_no rfl _ _ rfl) rfl ?_
    refine v_ret (hT _ zt_X12_no rfl _ _ rfl) (Or.inl rfl) ?_
    show vP D T N 329 33 (zset (zset (zset h 121 1 (0, 0)) 121 0 (0, 0)) 121 0 (0, 1)) [some (2, 121), some (0, a), some (0, b), some (0, c), none] [(0, 0)] _
    refine v_ret (hT _ zt_X12_tray rfl _ _ rfl) (Or.inl rfl) ?_
    exact k0 hc3
  · have hc3 : 0 ≤ a := Int.not_lt.mp hc3
    refine v_load (v := (0, a)) (hT _ zt_X12_tray rfl _ _ rfl) rfl rfl ?_
    refine v_push (4) (hT _ zt_X12_tray rfl _ _ rfl) rfl ?_
    refine v_ic (hT _ zt_X12_tray rfl _ _ rfl) (fun hc5 => ?_) (fun hc5 => ?_)
    · have hc5 : a < 4 := hc5
      refine v_load (v := (0, b)) (hT _ zt_X12_tray rfl _ _ rfl) rfl rfl ?_
      refine v_if (hT _ zt_X12_tray rfl _ _ rfl) (fun hc6 => ?_) (fun hc6 => ?_)
      · have hc6 : b < 0 := hc6
        refine v_load (v := (2, 121)) (hT _ zt_X12_tray rfl _ _ rfl) rfl rfl ?_
        refine v_push (1) (hT _ zt_X12_tray rfl _ _ rfl) rfl ?_
        refine v_call (w := 2) [some (2, 121), some (0, 1)] hO (hT _ zt_X12_tray rfl _ _ rfl) rfl rfl ?_
        refine v_load (v := (2, 121)) (hT _ zt_X12_no rfl _ _ rfl) rfl rfl ?_
        refine v_load (v := (0, 1)) (hT _ zt_X12_no rfl _ _ rfl) rfl rfl ?_
        refine v_putf (r := 121) hO (hT _ zt_X12_no rfl _ _ rfl) rfl (fun hf7 => ?_)
        refine v_push (0) (hT _ zt_X12_no rfl _ _ rfl) rfl ?_
        refine v_ret (hT _ zt_X12_no rfl _ _ rfl) (Or.inl rfl) ?_
        show vP D T N 329 33 (zset (zset (zset h 121 1 (0, 0)) 121 0 (0, 0)) 121 0 (0, 1)) [some (2, 121), some (0, a), some (0, b), some (0, c), none] [(0, 0)] _
        refine v_ret (hT _ zt_X12_tray rfl _ _ rfl) (Or.inl rfl) ?_
        exact k1 hc3 hc5 hc6
      · have hc6 : 0 ≤ b := Int.not_lt.mp hc6
        refine v_load (v := (0, b)) (hT _ zt_X12_tray rfl _ _ rfl) rfl rfl ?_
        refine v_push (3) (hT _ zt_X12_tray rfl _ _ rfl) rfl ?_
        refine v_ic (hT _ zt_X12_tray rfl _ _ rfl) (fun hc8 => ?_) (fun hc8 => ?_)
        · have hc8 : 3 < b := hc8
          refine v_load (v := (2, 121)) (hT _ zt_X12_tray rfl _ _ rfl) rfl rfl ?_
          refine v_push (1) (hT _ zt_X12_tray rfl _ _ rfl) rfl ?_
          refine v_call (w := 2) [some (2, 121), some (0, 1)] hO (hT _ zt_X12_tray rfl _ _ rfl) rfl rfl ?_
          refine v_load (v := (2, 121)) (hT _ zt_X12_no rfl _ _ rfl) rfl rfl ?_
          refine v_load (v := (0, 1)) (hT _ zt_X12_no rfl _ _ rfl) rfl rfl ?_
          refine v_putf (r := 121) hO (hT _ zt_X12_no rfl _ _ rfl) rfl (fun hf9 => ?_)
          refine v_push (0) (hT _ zt_X12_no rfl _ _ rfl) rfl ?_
          refine v_ret (hT _ zt_X12_no rfl _ _ rfl) (Or.inl rfl) ?_
          show vP D T N 329 33 (zset (zset (zset h 121 1 (0, 0)) 121 0 (0, 0)) 121 0 (0, 1)) [some (2, 121), some (0, a), some (0, b), some (0, c), none] [(0, 0)] _
          refine v_ret (hT _ zt_X12_tray rfl _ _ rfl) (Or.inl rfl) ?_
          exact k2 hc3 hc5 hc6 hc8
        · have hc8 : b ≤ 3 := Int.not_lt.mp hc8
          refine v_load (v := (0, c)) (hT _ zt_X12_tray rfl _ _ rfl) rfl rfl ?_
          refine v_push (60) (hT _ zt_X12_tray rfl _ _ rfl) rfl ?_
          refine v_ic (hT _ zt_X12_tray rfl _ _ rfl) (fun hc10 => ?_) (fun hc10 => ?_)
          · have hc10 : 60 < c := hc10
            refine v_load (v := (2, 121)) (hT _ zt_X12_tray rfl _ _ rfl) rfl rfl ?_
            refine v_push (5) (hT _ zt_X12_tray rfl _ _ rfl) rfl ?_
            refine v_call (w := 2) [some (2, 121), some (0, 5)] hO (hT _ zt_X12_tray rfl _ _ rfl) rfl rfl ?_
            refine v_load (v := (2, 121)) (hT _ zt_X12_no rfl _ _ rfl) rfl rfl ?_
            refine v_load (v := (0, 5)) (hT _ zt_X12_no rfl _ _ rfl) rfl rfl ?_
            refine v_putf (r := 121) hO (hT _ zt_X12_no rfl _ _ rfl) rfl (fun hf11 => ?_)
            refine v_push (0) (hT _ zt_X12_no rfl _ _ rfl) rfl ?_
            refine v_ret (hT _ zt_X12_no rfl _ _ rfl) (Or.inl rfl) ?_
            show vP D T N 329 45 (zset (zset (zset h 121 1 (0, 0)) 121 0 (0, 0)) 121 0 (0, 5)) [some (2, 121), some (0, a), some (0, b), some (0, c), none] [(0, 0)] _
            refine v_ret (hT _ zt_X12_tray rfl _ _ rfl) (Or.inl rfl) ?_
            exact k3 hc3 hc5 hc6 hc8 hc10
          · have hc10 : c ≤ 60 := Int.not_lt.mp hc10
            refine v_load (v := (0, c)) (hT _ zt_X12_tray rfl _ _ rfl) rfl rfl ?_
            refine v_if (hT _ zt_X12_tray rfl _ _ rfl) (fun hc12 => ?_) (fun hc12 => ?_)
            · have hc12 : c < 0 := hc12
              refine v_load (v := (2, 121)) (hT _ zt_X12_tray rfl _ _ rfl) rfl rfl ?_
              refine v_push (6) (hT _ zt_X12_tray rfl _ _ rfl) rfl ?_
              refine v_call (w := 2) [some (2, 121), some (0, 6)] hO (hT _ zt_X12_tray rfl _ _ rfl) rfl rfl ?_
              refine v_load (v := (2, 121)) (hT _ zt_X12_no rfl _ _ rfl) rfl rfl ?_
              refine v_load (v := (0, 6)) (hT _ zt_X12_no rfl _ _ rfl) rfl rfl ?_
              refine v_putf (r := 121) hO (hT _ zt_X12_no rfl _ _ rfl) rfl (fun hf13 => ?_)
              refine v_push (0) (hT _ zt_X12_no rfl _ _ rfl) rfl ?_
              refine v_ret (hT _ zt_X12_no rfl _ _ rfl) (Or.inl rfl) ?_
              show vP D T N 329 56 (zset (zset (zset h 121 1 (0, 0)) 121 0 (0, 0)) 121 0 (0, 6)) [some (2, 121), some (0, a), some (0, b), some (0, c), none] [(0, 0)] _
              refine v_ret (hT _ zt_X12_tray rfl _ _ rfl) (Or.inl rfl) ?_
              exact k4 hc3 hc5 hc6 hc8 hc10 hc12
            · have hc12 : 0 ≤ c := Int.not_lt.mp hc12
              refine v_load (v := (2, 121)) (hT _ zt_X12_tray rfl _ _ rfl) rfl rfl ?_
              refine v_getR (c := 122) (r := 121) (hT _ zt_X12_tray rfl _ _ rfl) rfl rfl rfl ?_
              refine v_load (v := (0, a)) (hT _ zt_X12_tray rfl _ _ rfl) rfl rfl ?_
              refine v_load (v := (0, b)) (hT _ zt_X12_tray rfl _ _ rfl) rfl rfl ?_
              refine v_ast (r := 122) (hT _ zt_X12_tray rfl _ _ rfl) rfl rfl (fun ha14 hb15 hf16 => ?_)
              refine v_load (v := (2, 121)) (hT _ zt_X12_tray rfl _ _ rfl) rfl rfl ?_
              refine v_getR (c := 123) (r := 121) (hT _ zt_X12_tray rfl _ _ rfl) rfl rfl rfl ?_
              refine v_load (v := (0, a)) (hT _ zt_X12_tray rfl _ _ rfl) rfl rfl ?_
              refine v_load (v := (0, c)) (hT _ zt_X12_tray rfl _ _ rfl) rfl rfl ?_
              refine v_ast (r := 123) (hT _ zt_X12_tray rfl _ _ rfl) rfl rfl (fun ha17 hb18 hf19 => ?_)
              refine v_push (0) (hT _ zt_X12_tray rfl _ _ rfl) rfl ?_
              refine v_store1 [some (2, 121), some (0, a), some (0, b), some (0, c), some (0, 0)] (hT _ zt_X12_tray rfl _ _ rfl) ⟨rfl, Nat.ne_of_beq_eq_false rfl⟩ (Nat.le_of_ble_eq_true rfl) rfl ?_
              exact k5 hc3 hc5 hc6 hc8 hc10 hc12
    · have hc5 : 4 ≤ a := Int.not_lt.mp hc5
      refine v_load (v := (2, 121)) (hT _ zt_X12_tray rfl _ _ rfl) rfl rfl ?_
      refine v_push (1) (hT _ zt_X12_tray rfl _ _ rfl) rfl ?_
      refine v_call (w := 2) [some (2, 121), some (0, 1)] hO (hT _ zt_X12_tray rfl _ _ rfl) rfl rfl ?_
      refine v_load (v := (2, 121)) (hT _ zt_X12_no rfl _ _ rfl) rfl rfl ?_
      refine v_load (v := (0, 1)) (hT _ zt_X12_no rfl _ _ rfl) rfl rfl ?_
      refine v_putf (r := 121) hO (hT _ zt_X12_no rfl _ _ rfl) rfl (fun hf20 => ?_)
      refine v_push (0) (hT _ zt_X12_no rfl _ _ rfl) rfl ?_
      refine v_ret (hT _ zt_X12_no rfl _ _ rfl) (Or.inl rfl) ?_
      show vP D T N 329 33 (zset (zset (zset h 121 1 (0, 0)) 121 0 (0, 0)) 121 0 (0, 1)) [some (2, 121), some (0, a), some (0, b), some (0, c), none] [(0, 0)] _
      refine v_ret (hT _ zt_X12_tray rfl _ _ rfl) (Or.inl rfl) ?_
      exact k6 hc3 hc5
theorem y_X12_tray1 {D : zD} {T : zT} (hT : hTab T) (hO : vOK T) {N : Nat} {h : zH} {Q : zR → Prop} (a b c k : Int) (hv0 : zHv h) (hk : 0 ≤ k ∧ k ≤ 60) (ha : 0 ≤ a ∧ a < 4) (hc : c ≤ 60)
    (k0 : (k < c) → (0 ≤ ((60 * a) + k)) → (((60 * a) + k) < 240) → vP D T N 329 74 (zset h 124 ((((60 * a) + k)).toNat) (1, 0)) [some (2, 121), some (0, a), some (0, b), some (0, c), some (0, (k + 1))] [] Q)
    (k1 : (c ≤ k) → Q (h, some (0, 1))) :
    vP D T (N + 1) 329 74 h [some (2, 121), some (0, a), some (0, b), some (0, c), some (0, k)] [] Q := by
  refine v_loadS (v := (0, k)) (hT _ zt_X12_tray rfl _ _ rfl) rfl rfl ?_
  refine v_load (v := (0, c)) (hT _ zt_X12_tray rfl _ _ rfl) rfl rfl ?_
  refine v_ic (hT _ zt_X12_tray rfl _ _ rfl) (fun hc1 => ?_) (fun hc1 => ?_)
  · have hc1 : k < c := hc1
    refine v_load (v := (2, 121)) (hT _ zt_X12_tray rfl _ _ rfl) rfl rfl ?_
    refine v_getR (c := 124) (r := 121) (hT _ zt_X12_tray rfl _ _ rfl) rfl rfl rfl ?_
    refine v_push (60) (hT _ zt_X12_tray rfl _ _ rfl) rfl ?_
    refine v_load (v := (0, a)) (hT _ zt_X12_tray rfl _ _ rfl) rfl rfl ?_
    refine v_bin (w := (60 * a)) (hT _ zt_X12_tray rfl _ _ rfl) (hq_mul (by omega) (by omega)) ?_
    refine v_load (v := (0, k)) (hT _ zt_X12_tray rfl _ _ rfl) rfl rfl ?_
    refine v_bin (w := ((60 * a) + k)) (hT _ zt_X12_tray rfl _ _ rfl) (hq_add (by omega) (by omega)) ?_
    refine v_push (0) (hT _ zt_X12_tray rfl _ _ rfl) rfl ?_
    refine v_ast (r := 124) (hT _ zt_X12_tray rfl _ _ rfl) rfl rfl (fun ha2 hb3 hf4 => ?_)
    refine v_iinc (x := k) (u := 1) (w := (k + 1)) [some (2, 121), some (0, a), some (0, b), some (0, c), some (0, (k + 1))] (hT _ zt_X12_tray rfl _ _ rfl) rfl rfl (Nat.le_of_ble_eq_true rfl) (vz_inc (by omega) (by omega)) rfl ?_
    refine v_goto (hT _ zt_X12_tray rfl _ _ rfl) ?_
    exact k0 hc1 ha2 hb3
  · have hc1 : c ≤ k := Int.not_lt.mp hc1
    refine v_push (1) (hT _ zt_X12_tray rfl _ _ rfl) rfl ?_
    refine v_ret (hT _ zt_X12_tray rfl _ _ rfl) (Or.inl rfl) ?_
    exact k1 hc1
